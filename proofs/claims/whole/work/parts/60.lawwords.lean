/-! the law's words, out of the tables -/
theorem in_fm {big ws : List Cond} (ps : List Nat) (h : ws = ps.filterMap (fun i => big[i]?)) : ∀ w ∈ ws, w ∈ big := by
  intro w hw
  rw [h] at hw
  obtain ⟨i, -, h2⟩ := List.mem_filterMap.mp hw
  exact List.mem_of_getElem? h2
set_option maxRecDepth 20000 in
theorem wsL_law_in : ∀ w ∈ wsL_law, w ∈ lw_tbl := in_fm [59, 60, 47, 460, 461, 51, 132, 61, 62, 63, 64, 65, 66, 67, 68, 48, 151, 96, 97, 49, 152, 133, 134, 50, 153, 154, 155, 70, 71, 72, 95, 73, 75, 77, 79, 81, 99, 100, 101, 102, 103, 104, 105, 108, 109, 112, 114, 136, 137, 138, 139, 141, 142, 462, 463, 464, 465, 466, 467, 470, 471, 472, 473, 476, 478, 515, 481, 167, 168, 169, 170, 516, 517, 518, 519, 480, 469, 171, 172, 173, 174, 175, 177, 0, 178, 179, 181, 1, 182, 183, 184, 185, 188, 2, 189, 520, 521, 522, 523, 468, 524, 525, 526, 527, 529, 33, 530, 531, 533, 34, 534, 535, 536, 537, 190, 191, 192, 193, 196, 3, 197, 198, 200, 4, 201, 202, 204, 203, 52, 538, 539, 540, 541, 205, 206, 207, 208, 209, 211, 5, 212, 215, 6, 216, 261, 217, 219, 7, 220, 224, 221, 222, 53, 223, 225, 226, 227, 228, 230, 8, 231, 232, 234, 9, 235, 237, 238, 240, 241, 242, 244, 10, 245, 247, 248, 249, 251, 11, 252, 253, 255, 12, 256, 257, 259, 13, 260, 262, 264, 14, 265, 266, 268, 15, 269, 270, 272, 16, 273, 274, 276, 17, 277, 278, 280, 18, 281, 284, 19, 285, 542, 543, 544, 545, 546, 547, 548, 549, 551, 35, 552, 553, 555, 36, 556, 474, 475, 477, 557, 559, 37, 560, 561, 562, 563, 564, 566, 38, 567, 568, 570, 39, 571, 572, 574, 40, 575, 576, 578, 41, 579, 286, 287, 288, 289, 290, 580, 581, 582, 583, 291, 292, 293, 294, 584, 585, 586, 587, 295, 296, 297, 298, 588, 589, 590, 591, 377, 378, 46, 379, 381, 382, 383, 384, 385, 386, 58, 592, 593, 594, 595, 456, 457, 458, 459, 299, 300, 301, 302, 305, 20, 306, 309, 21, 310, 313, 22, 314, 317, 23, 318, 321, 24, 322, 596, 597, 598, 599, 323, 324, 325, 326, 329, 25, 330, 332, 333, 335, 26, 336, 337, 339, 27, 340, 600, 601, 602, 603, 479, 604, 606, 42, 607, 343, 344, 345, 346, 608, 609, 610, 611, 347, 348, 349, 350, 612, 613, 614, 615, 616, 351, 352, 353, 354, 357, 28, 358, 359, 361, 29, 362, 363, 617, 618, 619, 620, 621, 623, 43, 624, 364, 365, 366, 367, 370, 30, 371, 372, 374, 31, 375, 376, 625, 626, 627, 628, 629, 631, 44, 632, 633, 635, 45, 636, 637, 156, 158, 160, 162, 164, 482, 484, 486, 488, 490, 492, 494, 496, 498, 500, 502, 504, 506, 508, 510, 512, 84, 86, 88, 90, 92, 115, 117, 119, 121, 123, 125, 127, 129, 144, 146, 148, 398, 400, 402, 404, 406, 451] rfl
set_option maxRecDepth 20000 in
theorem thA_in : ∀ w ∈ thA, w ∈ lw_tbl ++ [thR1, thR2] := in_fm [54, 409, 418, 420, 423, 425, 410, 411, 65, 66, 412, 417, 421, 444, 399, 445, 401, 446, 403, 413, 414, 415, 416, 405, 440, 441, 443, 405, 428, 429, 430, 431, 389, 431, 432, 433, 434, 391, 434, 435, 436, 437, 393, 437, 438, 439, 440, 395, 427, 386, 387, 396, 397, 398, 400, 402, 404, 639, 640, 408, 407, 406, 380] rfl
set_option maxRecDepth 20000 in
theorem nwF_in : ∀ w ∈ nwF.map (fun q => Cond.fieldLinkNest q.1 q.2.1 q.2.2.1 q.2.2.2.1 q.2.2.2.2 RX3), w ∈ lw_tbl := in_fm [143, 140, 83, 113, 111, 107, 82, 74, 76, 78, 80, 110, 106] rfl
set_option maxRecDepth 20000 in
theorem nwM_in : ∀ w ∈ nwM.map (fun q => Cond.methodLinkNest q.1 q.2.1 q.2.2 RX3), w ∈ lw_tbl := in_fm [319, 327, 69, 355, 368, 213, 98, 135, 186, 194, 282, 303, 307, 311, 315, 236, 239, 246, 331, 341, 342] rfl
set_option maxRecDepth 20000 in
theorem cls_in : ∀ w ∈ wsX00 ++ wsX10 ++ wsX20 ++ wsX30 ++ wsX40 ++ wsJx000600, w ∈ lw_tbl := in_fm [84, 86, 88, 90, 92, 115, 117, 119, 121, 123, 125, 127, 129, 144, 146, 148, 156, 158, 160, 162, 164, 482, 484, 486, 488, 490, 492, 494, 496, 498, 500, 502, 504, 506, 508, 510, 512, 398, 400, 402, 404, 406, 451] rfl
set_option maxRecDepth 20000 in
theorem oth_in : ∀ w ∈ ([Cond.arrayClass .int, Cond.arrayClass .long, Cond.arrayClass .boolean, Cond.stringRef RX3 80 thTx, Cond.instantiable RX0 5, Cond.instantiable RX1 8, Cond.instantiable RX2 3, Cond.instantiable RX3 5, Cond.instantiable RX4 16, Cond.instantiable RJx00060 6] : List Cond), w ∈ lw_tbl := in_fm [95, 132, 515, 426, 68, 97, 134, 60, 461, 386] rfl
section LWST
variable {s : State} {A : Array Value}
theorem lw_NW (hts : ∀ w ∈ lw_tbl, w.before A s = true) : NW s := ⟨fun q hq => va_Nw.of rfl (hts _ (nwF_in _ (List.mem_map.mpr ⟨q, hq, rfl⟩))), fun q hq => va_Nw.of rfl (hts _ (nwM_in _ (List.mem_map.mpr ⟨q, hq, rfl⟩)))⟩
theorem lw_Th (hts : ∀ w ∈ lw_tbl, w.before A s = true) (h1 : thR1.before A s = true) (h2 : thR2.before A s = true) (ho : ∃ cur, s.vm.findClass RX3 = some cur) : ThW s := by
  have h0 : ∀ w ∈ thA, w.before A s = true := fun w hw => by
    rcases List.mem_append.mp (thA_in w hw) with h | h
    · exact hts w h
    · rcases List.mem_cons.mp h with e | h
      · subst e; exact h1
      · rcases List.mem_cons.mp h with e | h
        · subst e; exact h2
        · exact absurd h List.not_mem_nil
  refine ⟨fun w hw => ?_, ?_⟩
  · rcases th_good w hw with (e | e | e | e) | e
    · subst e; exact st_moved (State.WarmedH.refl s) (fun _ _ h _ => h) (h0 _ hw)
    · subst e; exact st_moved (State.WarmedH.refl s) (fun _ _ h _ => h) (h0 _ hw)
    · subst e; exact stl_moved (State.WarmedH.refl s) (fun _ _ h _ => h) (h0 _ hw)
    · subst e; exact stl_moved (State.WarmedH.refl s) (fun _ _ h _ => h) (h0 _ hw)
    · simp only [Bool.and_eq_true] at e
      exact va_tabs e.1 rfl (h0 _ hw)
  · obtain ⟨cur, hc⟩ := ho
    have hS := hts _ (oth_in (Cond.stringRef RX3 80 thTx) (List.mem_of_getElem? (i := 3) rfl))
    obtain ⟨k, cf, i, a, -, -, -, -, -, hev⟩ := Cond.stringRef_spec hc hS
    refine ⟨a, vk_R.of (A := A) ?_ ?_⟩
    · first | exact va_tabs (A := A) rfl rfl hS | exact hS
    · exact hev
theorem lw_arr {ty : FieldType} (h : (Cond.arrayClass ty).before A s = true) (hprim : ∀ C, ty ≠ .object C) : ∃ cA : ClassId, ArrOfT s cA ty ∧ va_RA s cA ty := by
  obtain ⟨c, k, comp, h1, h2, h3⟩ := Cond.arrayClass_spec h
  refine ⟨c, fun n z => ⟨fun k h => (by cases h), k, h2, comp, h3⟩, ?_⟩
  cases ty with
  | object C => exact absurd rfl (hprim C)
  | _ => exact h1
theorem lw_K (hts : ∀ w ∈ lw_tbl, w.before A s = true) : ∃ (D : va_G) (cI cJ cZ : ClassId), va_K D vwCl (tyL cI cJ cZ) s := by
  have hin : ∀ {C : String} {T : u_T} {N : Nat}, (∀ w ∈ u_ws C T N, w ∈ wsX00 ++ wsX10 ++ wsX20 ++ wsX30 ++ wsX40 ++ wsJx000600) → ∀ w ∈ u_ws C T N, w ∈ lw_tbl := fun h w hw => cls_in w (h w hw)
  obtain ⟨c0, i0, k0⟩ := u_known (C := RJx00060) (T := TJx00060) (N := 6) hts (hin (fun w h => List.mem_append_right _ h)) (hts _ (oth_in (Cond.instantiable RJx00060 6) (List.mem_of_getElem? (i := 9) rfl)))
  obtain ⟨c1, i1, k1⟩ := u_known (C := RX0) (T := TX0) (N := 5) hts (hin (fun w h => List.mem_append_left _ (List.mem_append_left _ (List.mem_append_left _ (List.mem_append_left _ (List.mem_append_left _ h)))))) (hts _ (oth_in (Cond.instantiable RX0 5) (List.mem_of_getElem? (i := 4) rfl)))
  obtain ⟨c2, i2, k2⟩ := u_known (C := RX1) (T := TX1) (N := 8) hts (hin (fun w h => List.mem_append_left _ (List.mem_append_left _ (List.mem_append_left _ (List.mem_append_left _ (List.mem_append_right _ h)))))) (hts _ (oth_in (Cond.instantiable RX1 8) (List.mem_of_getElem? (i := 5) rfl)))
  obtain ⟨c3, i3, k3⟩ := u_known (C := RX2) (T := TX2) (N := 3) hts (hin (fun w h => List.mem_append_left _ (List.mem_append_left _ (List.mem_append_left _ (List.mem_append_right _ h))))) (hts _ (oth_in (Cond.instantiable RX2 3) (List.mem_of_getElem? (i := 6) rfl)))
  obtain ⟨c4, i4, k4⟩ := u_known (C := RX3) (T := TX3) (N := 5) hts (hin (fun w h => List.mem_append_left _ (List.mem_append_left _ (List.mem_append_right _ h)))) (hts _ (oth_in (Cond.instantiable RX3 5) (List.mem_of_getElem? (i := 7) rfl)))
  obtain ⟨c5, i5, k5⟩ := u_known (C := RX4) (T := TX4) (N := 16) hts (hin (fun w h => List.mem_append_left _ (List.mem_append_right _ h))) (hts _ (oth_in (Cond.instantiable RX4 16) (List.mem_of_getElem? (i := 8) rfl)))
  obtain ⟨cI, a1, a2⟩ := lw_arr (ty := .int) (hts _ (oth_in (Cond.arrayClass .int) (List.mem_of_getElem? (i := 0) rfl))) (fun _ h => by cases h)
  obtain ⟨cJ, b1, b2⟩ := lw_arr (ty := .long) (hts _ (oth_in (Cond.arrayClass .long) (List.mem_of_getElem? (i := 1) rfl))) (fun _ h => by cases h)
  obtain ⟨cZ, d1, d2⟩ := lw_arr (ty := .boolean) (hts _ (oth_in (Cond.arrayClass .boolean) (List.mem_of_getElem? (i := 2) rfl))) (fun _ h => by cases h)
  refine ⟨(fun k => match k with | 0 => c0 | 1 => c1 | 2 => c2 | 3 => c3 | 4 => c4 | _ => c5, fun k => match k with | 0 => i0 | 1 => i1 | 2 => i2 | 3 => i3 | 4 => i4 | _ => i5), cI, cJ, cZ, ?_, ?_⟩
  · intro k q hq
    match k, hq with
    | 0, hq => cases hq; exact k0
    | 1, hq => cases hq; exact k1
    | 2, hq => cases hq; exact k2
    | 3, hq => cases hq; exact k3
    | 4, hq => cases hq; exact k4
    | 5, hq => cases hq; exact k5
    | k + 6, hq => simp [vwCl] at hq
  · intro k q hq
    match k, hq with
    | 0, hq => cases hq; exact ⟨a1, a2⟩
    | 1, hq => cases hq; exact ⟨b1, b2⟩
    | 2, hq => cases hq; exact ⟨d1, d2⟩
    | k + 3, hq => simp [tyL] at hq
end LWST
