/-! the law's words, out of the tables -/
theorem in_fm {big ws : List Cond} (ps : List Nat) (h : ws = ps.filterMap (fun i => big[i]?)) : ∀ w ∈ ws, w ∈ big := by
  intro w hw
  rw [h] at hw
  obtain ⟨i, -, h2⟩ := List.mem_filterMap.mp hw
  exact List.mem_of_getElem? h2
set_option maxRecDepth 20000 in
theorem wsL_law_in : ∀ w ∈ wsL_law, w ∈ lw_tbl := in_fm [59, 60, 47, 461, 462, 51, 132, 61, 62, 63, 64, 65, 66, 67, 68, 48, 151, 96, 97, 49, 152, 133, 134, 50, 153, 154, 155, 70, 71, 72, 95, 73, 75, 77, 79, 81, 99, 100, 101, 102, 103, 104, 105, 108, 109, 112, 114, 136, 137, 138, 139, 141, 142, 463, 464, 465, 466, 467, 468, 471, 472, 473, 474, 477, 479, 516, 482, 167, 168, 169, 170, 517, 518, 519, 520, 481, 470, 171, 172, 173, 174, 175, 177, 0, 178, 179, 181, 1, 182, 183, 184, 185, 188, 2, 189, 521, 522, 523, 524, 469, 525, 526, 527, 528, 530, 33, 531, 532, 534, 34, 535, 536, 537, 538, 190, 191, 192, 193, 196, 3, 197, 198, 200, 4, 201, 202, 204, 203, 52, 539, 540, 541, 542, 205, 206, 207, 208, 209, 211, 5, 212, 215, 6, 216, 261, 217, 219, 7, 220, 224, 221, 222, 53, 223, 225, 226, 227, 228, 230, 8, 231, 232, 234, 9, 235, 237, 238, 240, 241, 242, 244, 10, 245, 247, 248, 249, 251, 11, 252, 253, 255, 12, 256, 257, 259, 13, 260, 262, 264, 14, 265, 266, 268, 15, 269, 270, 272, 16, 273, 274, 276, 17, 277, 278, 280, 18, 281, 284, 19, 285, 543, 544, 545, 546, 547, 548, 549, 550, 552, 35, 553, 554, 556, 36, 557, 475, 476, 478, 558, 560, 37, 561, 562, 563, 564, 565, 567, 38, 568, 569, 571, 39, 572, 573, 575, 40, 576, 577, 579, 41, 580, 286, 287, 288, 289, 290, 581, 582, 583, 584, 291, 292, 293, 294, 585, 586, 587, 588, 295, 296, 297, 298, 589, 590, 591, 592, 378, 379, 46, 380, 382, 383, 384, 385, 386, 387, 58, 593, 594, 595, 596, 457, 458, 459, 460, 299, 300, 301, 302, 305, 20, 306, 309, 21, 310, 313, 22, 314, 317, 23, 318, 321, 24, 322, 597, 598, 599, 600, 323, 324, 325, 326, 329, 25, 330, 332, 333, 335, 26, 336, 337, 339, 27, 340, 601, 602, 603, 604, 480, 605, 607, 42, 608, 343, 344, 345, 346, 609, 610, 611, 612, 347, 348, 349, 350, 351, 613, 614, 615, 616, 617, 352, 353, 354, 355, 358, 28, 359, 360, 362, 29, 363, 364, 618, 619, 620, 621, 622, 624, 43, 625, 365, 366, 367, 368, 371, 30, 372, 373, 375, 31, 376, 377, 626, 627, 628, 629, 630, 632, 44, 633, 634, 636, 45, 637, 638, 156, 158, 160, 162, 164, 483, 485, 487, 489, 491, 493, 495, 497, 499, 501, 503, 505, 507, 509, 511, 513, 84, 86, 88, 90, 92, 115, 117, 119, 121, 123, 125, 127, 129, 144, 146, 148, 399, 401, 403, 405, 407, 452] rfl
set_option maxRecDepth 20000 in
theorem thA_in : ∀ w ∈ thA, w ∈ lw_tbl ++ [thR1, thR2] := in_fm [54, 410, 419, 421, 424, 426, 411, 412, 65, 66, 413, 418, 422, 445, 400, 446, 402, 447, 404, 414, 415, 416, 417, 406, 441, 442, 444, 406, 429, 430, 431, 432, 390, 432, 433, 434, 435, 392, 435, 436, 437, 438, 394, 438, 439, 440, 441, 396, 428, 387, 388, 397, 398, 399, 401, 403, 405, 640, 641, 409, 408, 407, 381] rfl
set_option maxRecDepth 20000 in
theorem nwF_in : ∀ w ∈ nwF.map (fun q => Cond.fieldLinkNest q.1 q.2.1 q.2.2.1 q.2.2.2.1 q.2.2.2.2 RX3), w ∈ lw_tbl := in_fm [143, 140, 83, 113, 111, 107, 82, 74, 76, 78, 80, 110, 106] rfl
set_option maxRecDepth 20000 in
theorem nwM_in : ∀ w ∈ nwM.map (fun q => Cond.methodLinkNest q.1 q.2.1 q.2.2 RX3), w ∈ lw_tbl := in_fm [319, 327, 69, 356, 369, 213, 98, 135, 186, 194, 282, 303, 307, 311, 315, 236, 239, 246, 331, 341, 342] rfl
set_option maxRecDepth 20000 in
theorem cls_in : ∀ w ∈ wsX00 ++ wsX10 ++ wsX20 ++ wsX30 ++ wsX40 ++ wsJx000600, w ∈ lw_tbl := in_fm [84, 86, 88, 90, 92, 115, 117, 119, 121, 123, 125, 127, 129, 144, 146, 148, 156, 158, 160, 162, 164, 483, 485, 487, 489, 491, 493, 495, 497, 499, 501, 503, 505, 507, 509, 511, 513, 399, 401, 403, 405, 407, 452] rfl
set_option maxRecDepth 20000 in
theorem oth_in : ∀ w ∈ ([Cond.arrayClass .int, Cond.arrayClass .long, Cond.arrayClass .boolean, Cond.stringRef RX3 80 thTx, Cond.instantiable RX0 5, Cond.instantiable RX1 8, Cond.instantiable RX2 3, Cond.instantiable RX3 5, Cond.instantiable RX4 16, Cond.instantiable RJx00060 6] : List Cond), w ∈ lw_tbl := in_fm [95, 132, 516, 427, 68, 97, 134, 60, 462, 387] rfl
section LWST
variable {s : State} {A : Array Value}
theorem lw_NW (hts : ∀ w ∈ lw_tbl, w.before A s = true) : NW s := ⟨fun q hq => va_Nw.of rfl (hts _ (nwF_in _ (List.mem_map.mpr ⟨q, hq, rfl⟩))), fun q hq => va_Nw.of rfl (hts _ (nwM_in _ (List.mem_map.mpr ⟨q, hq, rfl⟩)))⟩
theorem lw_Th (hts : ∀ w ∈ lw_tbl, w.before A s = true) (h1 : thR1.before A s = true) (h2 : thR2.before A s = true) (ho : ∃ cur, s.vm.findClass RX3 = some cur) : ThW s := by
  have h0 : ∀ w ∈ thA, w.before A s = true := fun w hw => by
    rcases List.mem_append.mp (thA_in w hw) with h | h
    · exact hts w h
    · rcases List.mem_cons.mp h with e | h
      · subst e; exact h1
      · rcases List.mem_cons.mp h with e | h
        · subst e; exact h2
        · exact absurd h List.not_mem_nil
  refine ⟨fun w hw => ?_, ?_⟩
  · rcases th_good w hw with (e | e | e | e) | e
    · subst e; exact st_moved (State.WarmedH.refl s) (fun _ _ h _ => h) (h0 _ hw)
    · subst e; exact st_moved (State.WarmedH.refl s) (fun _ _ h _ => h) (h0 _ hw)
    · subst e; exact stl_moved (State.WarmedH.refl s) (fun _ _ h _ => h) (h0 _ hw)
    · subst e; exact stl_moved (State.WarmedH.refl s) (fun _ _ h _ => h) (h0 _ hw)
    · simp only [Bool.and_eq_true] at e
      exact va_tabs e.1 rfl (h0 _ hw)
  · obtain ⟨cur, hc⟩ := ho
    have hS := hts _ (oth_in (Cond.stringRef RX3 80 thTx) (List.mem_of_getElem? (i := 3) rfl))
    obtain ⟨k, cf, i, a, -, -, -, -, -, hev⟩ := Cond.stringRef_spec hc hS
    refine ⟨a, vk_R.of (A := A) ?_ ?_⟩
    · first | exact va_tabs (A := A) rfl rfl hS | exact hS
    · exact hev
theorem lw_arr {ty : FieldType} (h : (Cond.arrayClass ty).before A s = true) (hprim : ∀ C, ty ≠ .object C) : ∃ cA : ClassId, ArrOfT s cA ty ∧ va_RA s cA ty := by
  obtain ⟨c, k, comp, h1, h2, h3⟩ := Cond.arrayClass_spec h
  refine ⟨c, fun n z => ⟨fun k h => (by cases h), k, h2, comp, h3⟩, ?_⟩
  cases ty with
  | object C => exact absurd rfl (hprim C)
  | _ => exact h1
theorem lw_K (hts : ∀ w ∈ lw_tbl, w.before A s = true) : ∃ (D : va_G) (cI cJ cZ : ClassId), va_K D vwCl (tyL cI cJ cZ) s := by
  have hin : ∀ {C : String} {T : u_T} {N : Nat}, (∀ w ∈ u_ws C T N, w ∈ wsX00 ++ wsX10 ++ wsX20 ++ wsX30 ++ wsX40 ++ wsJx000600) → ∀ w ∈ u_ws C T N, w ∈ lw_tbl := fun h w hw => cls_in w (h w hw)
  obtain ⟨c0, i0, k0⟩ := u_known (C := RJx00060) (T := TJx00060) (N := 6) hts (hin (fun w h => List.mem_append_right _ h)) (hts _ (oth_in (Cond.instantiable RJx00060 6) (List.mem_of_getElem? (i := 9) rfl)))
  obtain ⟨c1, i1, k1⟩ := u_known (C := RX0) (T := TX0) (N := 5) hts (hin (fun w h => List.mem_append_left _ (List.mem_append_left _ (List.mem_append_left _ (List.mem_append_left _ (List.mem_append_left _ h)))))) (hts _ (oth_in (Cond.instantiable RX0 5) (List.mem_of_getElem? (i := 4) rfl)))
  obtain ⟨c2, i2, k2⟩ := u_known (C := RX1) (T := TX1) (N := 8) hts (hin (fun w h => List.mem_append_left _ (List.mem_append_left _ (List.mem_append_left _ (List.mem_append_left _ (List.mem_append_right _ h)))))) (hts _ (oth_in (Cond.instantiable RX1 8) (List.mem_of_getElem? (i := 5) rfl)))
  obtain ⟨c3, i3, k3⟩ := u_known (C := RX2) (T := TX2) (N := 3) hts (hin (fun w h => List.mem_append_left _ (List.mem_append_left _ (List.mem_append_left _ (List.mem_append_right _ h))))) (hts _ (oth_in (Cond.instantiable RX2 3) (List.mem_of_getElem? (i := 6) rfl)))
  obtain ⟨c4, i4, k4⟩ := u_known (C := RX3) (T := TX3) (N := 5) hts (hin (fun w h => List.mem_append_left _ (List.mem_append_left _ (List.mem_append_right _ h)))) (hts _ (oth_in (Cond.instantiable RX3 5) (List.mem_of_getElem? (i := 7) rfl)))
  obtain ⟨c5, i5, k5⟩ := u_known (C := RX4) (T := TX4) (N := 16) hts (hin (fun w h => List.mem_append_left _ (List.mem_append_right _ h))) (hts _ (oth_in (Cond.instantiable RX4 16) (List.mem_of_getElem? (i := 8) rfl)))
  obtain ⟨cI, a1, a2⟩ := lw_arr (ty := .int) (hts _ (oth_in (Cond.arrayClass .int) (List.mem_of_getElem? (i := 0) rfl))) (fun _ h => by cases h)
  obtain ⟨cJ, b1, b2⟩ := lw_arr (ty := .long) (hts _ (oth_in (Cond.arrayClass .long) (List.mem_of_getElem? (i := 1) rfl))) (fun _ h => by cases h)
  obtain ⟨cZ, d1, d2⟩ := lw_arr (ty := .boolean) (hts _ (oth_in (Cond.arrayClass .boolean) (List.mem_of_getElem? (i := 2) rfl))) (fun _ h => by cases h)
  refine ⟨(fun k => match k with | 0 => c0 | 1 => c1 | 2 => c2 | 3 => c3 | 4 => c4 | _ => c5, fun k => match k with | 0 => i0 | 1 => i1 | 2 => i2 | 3 => i3 | 4 => i4 | _ => i5), cI, cJ, cZ, ?_, ?_⟩
  · intro k q hq
    match k, hq with
    | 0, hq => cases hq; exact k0
    | 1, hq => cases hq; exact k1
    | 2, hq => cases hq; exact k2
    | 3, hq => cases hq; exact k3
    | 4, hq => cases hq; exact k4
    | 5, hq => cases hq; exact k5
    | k + 6, hq => simp [vwCl] at hq
  · intro k q hq
    match k, hq with
    | 0, hq => cases hq; exact ⟨a1, a2⟩
    | 1, hq => cases hq; exact ⟨b1, b2⟩
    | 2, hq => cases hq; exact ⟨d1, d2⟩
    | k + 3, hq => simp [tyL] at hq
end LWST
