/-! ElCompletion$Closure, the giving of facts: what its methods do to (now, grounds, gainers), said by functions -/
abbrev GS : Type := (Nat → Int32) × (Nat → Int64) × Int32
def tn (x : Int32) : Nat := x.toNatClampNeg
theorem tn_nI {j : Nat} (h : j < 2 ^ 31) : tn (nI j) = j := nI_clamp h
def bitI (i : Nat) : Int32 := nI 1 <<< (nI i &&& 31)
def cod (a c : Nat) : Nat := if c < 24 then 24 * a + c else 576 + 144 * a + (c - 24)
def lcol (r b : Nat) : Nat := 24 + 24 * r + b
theorem cod_lt {a c : Nat} (ha : a < 24) (hc : c < 168) : cod a c < 4032 := by unfold cod; split <;> omega
theorem lcol_lt {r b : Nat} (hr : r < 6) (hb : b < 24) : lcol r b < 168 := by unfold lcol; omega
theorem codI_nat (a : Nat) {c : Nat} (hc : c < 2 ^ 31) : codI (nI a) (nI c) = nI (cod a c) := by
  unfold codI cod
  by_cases h : c < 24
  · rw [if_neg (nI_ge h (by decide)), if_pos h, pk_mul, nI_add]
  · rw [if_pos (nI_le (by omega) hc), if_neg h, pk_mul, nI_add, nI_add, pk_sub (by omega)]
    congr 1
    omega
theorem colI_nat (r b : Nat) : colI (nI r) (nI b) = nI (lcol r b) := by
  unfold colI lcol
  rw [pk_mul, nI_add, nI_add]
def frs (cls x : Int32) : Int32 := cls &&& (x ^^^ (-1))
def fstI (a fcol : Int32) : Int32 := if fcol = nI 4095 then nI 4095 else codI a fcol
def pkJ (rc ax fst sec : Int32) : Int64 := (((rc.toInt64 <<< ((nI 32).toInt64 &&& 63)) ||| (ax.toInt64 <<< ((nI 24).toInt64 &&& 63))) ||| (fst.toInt64 <<< ((nI 12).toInt64 &&& 63))) ||| sec.toInt64
def gvG (fr : Int32) (col : Nat) (rc ax fcol sec : Int32) (g : Nat → Int64) : Nat → (Nat → Int64)
  | 0 => g
  | i + 1 => if inB (nI i) fr = true then vp_updL (gvG fr col rc ax fcol sec g i) (cod i col) (pkJ rc ax (fstI (nI i) fcol) sec) else gvG fr col rc ax fcol sec g i
theorem gvG_t {fr : Int32} {col : Nat} {rc ax fcol sec : Int32} {g : Nat → Int64} {i : Nat} (h : inB (nI i) fr = true) : gvG fr col rc ax fcol sec g (i + 1) = vp_updL (gvG fr col rc ax fcol sec g i) (cod i col) (pkJ rc ax (fstI (nI i) fcol) sec) := if_pos h
theorem gvG_f {fr : Int32} {col : Nat} {rc ax fcol sec : Int32} {g : Nat → Int64} {i : Nat} (h : inB (nI i) fr = false) : gvG fr col rc ax fcol sec g (i + 1) = gvG fr col rc ax fcol sec g i := if_neg (by rw [h]; decide)
def gv (n : Nat) (rc cls : Int32) (col : Nat) (ax fcol sec : Int32) (u : GS) : GS := if frs cls (u.1 col) = 0 then u else (upd u.1 col (u.1 col ||| frs cls (u.1 col)), gvG (frs cls (u.1 col)) col rc ax fcol sec u.2.1 n, u.2.2 ||| frs cls (u.1 col))
theorem gv_e {n : Nat} {rc cls : Int32} {col : Nat} {ax fcol sec : Int32} {u : GS} (h : frs cls (u.1 col) = 0) : gv n rc cls col ax fcol sec u = u := if_pos h
theorem gv_n {n : Nat} {rc cls : Int32} {col : Nat} {ax fcol sec : Int32} {u : GS} (h : frs cls (u.1 col) ≠ 0) : gv n rc cls col ax fcol sec u = (upd u.1 col (u.1 col ||| frs cls (u.1 col)), gvG (frs cls (u.1 col)) col rc ax fcol sec u.2.1 n, u.2.2 ||| frs cls (u.1 col)) := if_neg h
theorem c_X3_codeOfN (l : Launch) (D : va_G) (cI cJ cZ : ClassId) (a0 x0 : Nat) (hc : x0 < 2 ^ 31) : MI l yX3_codeOf wsX3_codeOf { frames := 0, cells := 0, slots := 0, locals := 0 } D (tyL cI cJ cZ) [.int (nI a0), .int (nI x0)] [] [] (nI (cod a0 x0)) := codI_nat a0 hc ▸ c_X3_codeOf l D cI cJ cZ (nI a0) (nI x0)
theorem c_X3_linkColumnN (l : Launch) (D : va_G) (cI cJ cZ : ClassId) (r0 b0 : Nat) : MI l yX3_linkColumn wsX3_linkColumn { frames := 0, cells := 0, slots := 0, locals := 0 } D (tyL cI cJ cZ) [.int (nI r0), .int (nI b0)] [] [] (nI (lcol r0 b0)) := colI_nat r0 b0 ▸ c_X3_linkColumn l D cI cJ cZ (nI r0) (nI b0)

set_option maxRecDepth 100000 in
set_option maxHeartbeats 4000000 in
theorem c_X1_has (l : Launch) (D : va_G) (cI cJ cZ : ClassId) (q : Nat → Nat) (N0 : Nat → Int32) (n : Nat) (fc : Int32) (rc : Int32) (ga : Int32) (a0 : Int32) (col : Nat) (hc : col < 168) : MI l yX1_has wsX1_has { frames := 1, cells := 0, slots := 0, locals := 21 } D (tyL cI cJ cZ) [.ref (q 6), .int a0, .int (nI col)] [(q 6, .inr (2, [.ref (q 7), .ref (q 8), .ref (q 9), .ref (q 10), .int (nI n), .int fc, .int rc, .int ga])), (q 8, .inl (cI, 168, .inl N0))] [(q 6, .inr (2, [.ref (q 7), .ref (q 8), .ref (q 9), .ref (q 10), .int (nI n), .int fc, .int rc, .int ga])), (q 8, .inl (cI, 168, .inl N0))] (bI (inB a0 (N0 col))) := by
  refine metI_of (cc := cX1_has) (maxL := 3) (ret := (some .boolean)) (by decide +kernel) rfl (Nat.le_of_ble_eq_true rfl) ?_
  intro K hC hRm hNL hDis hLis hRT hIni hQ
  have hinX1 : ∀ w ∈ wsX10, w ∈ wsX1_has := by decide +kernel
  refine z_iload_n (pc := 0) hC 1 dX1_has_0 rfl ?_
  refine z_aload_n (pc := 1) hC 0 dX1_has_1 rfl ?_
  refine z_get (pc := 2) (C := RX1) (T := TX1) (N := 8) hC hinX1 0 rfl rfl 1 (by decide) (by decide +kernel) rfl dX1_has_2 ?_
  refine z_iload_n (pc := 5) hC 2 dX1_has_5 rfl ?_
  refine z_iald (pc := 6) (v := (N0 col)) hC 1 0 rfl rfl (by omega) (by decide) (rfl) dX1_has_6 ?_
  refine z_callSN_I (pc := 7) (y := yX3_isIn) (wy := wsX3_isIn) (rm := { frames := 0, cells := 0, slots := 0, locals := 0 }) (As := [.int a0, .int (N0 col)]) (rest := []) (na := 2)  (wc := []) (wc2 := []) hC hRm hDis hLis gX1_has_X3_isIn_n112 (by decide +kernel) (by decide +kernel) (by decide +kernel) ⟨by decide +kernel, by decide +kernel⟩ rfl ⟨by decide, by decide⟩ ⟨by decide, by decide⟩ rfl (Nat.le_of_ble_eq_true rfl) (by decide +kernel) (c_X3_isIn _ _ cI cJ cZ (a0) (N0 col) ) [] [0, 1] [0, 1] [(q 6, .inr (2, [.ref (q 7), .ref (q 8), .ref (q 9), .ref (q 10), .int (nI n), .int fc, .int rc, .int ga])), (q 8, .inl (cI, 168, .inl N0))] rfl (by decide) rfl (by decide) (by decide) [(q 6, .inr (2, [.ref (q 7), .ref (q 8), .ref (q 9), .ref (q 10), .int (nI n), .int fc, .int rc, .int ga])), (q 8, .inl (cI, 168, .inl N0))] rfl (by decide) rfl dX1_has_7 ?_
  exact z_iret (pc := 10) hC hQ hRT (nar_b _) (rfl) (rfl) dX1_has_10

set_option maxRecDepth 100000 in
set_option maxHeartbeats 4000000 in
theorem c_X1_give (l : Launch) (D : va_G) (cI cJ cZ : ClassId) (q : Nat → Nat) (u : GS) (n : Nat) (fc : Int32) (rc : Int32) (cls : Int32) (col : Nat) (ax : Int32) (fcol : Int32) (sec : Int32) (hc : col < 168) (hn : n ≤ 24) : MV l yX1_give wsX1_give { frames := 1, cells := 0, slots := 0, locals := 21 } D (tyL cI cJ cZ) [.ref (q 6), .int cls, .int (nI col), .int ax, .int fcol, .int sec] [(q 6, .inr (2, [.ref (q 7), .ref (q 8), .ref (q 9), .ref (q 10), .int (nI n), .int fc, .int rc, .int u.2.2])), (q 8, .inl (cI, 168, .inl u.1)), (q 9, .inl (cJ, 4032, .inr (.inl u.2.1)))] [(q 6, .inr (2, [.ref (q 7), .ref (q 8), .ref (q 9), .ref (q 10), .int (nI n), .int fc, .int rc, .int ((gv n rc cls col ax fcol sec u).2.2)])), (q 8, .inl (cI, 168, .inl ((gv n rc cls col ax fcol sec u).1))), (q 9, .inl (cJ, 4032, .inr (.inl ((gv n rc cls col ax fcol sec u).2.1))))] := by
  refine metV_of (cc := cX1_give) (maxL := 9) (ret := none) (by decide +kernel) rfl (Nat.le_of_ble_eq_true rfl) ?_
  intro K hC hRm hNL hDis hLis hRT hIni hQ
  have hinX1 : ∀ w ∈ wsX10, w ∈ wsX1_give := by decide +kernel
  refine z_iload_n (pc := 0) hC 1 dX1_give_0 rfl ?_
  refine z_aload_n (pc := 1) hC 0 dX1_give_1 rfl ?_
  refine z_get (pc := 2) (C := RX1) (T := TX1) (N := 8) hC hinX1 0 rfl rfl 1 (by decide) (by decide +kernel) rfl dX1_give_2 ?_
  refine z_iload_n (pc := 5) hC 2 dX1_give_5 rfl ?_
  refine z_iald (pc := 6) (v := (u.1 col)) hC 1 0 rfl rfl (by omega) (by decide) (rfl) dX1_give_6 ?_
  refine z_iconst (pc := 7) (v := (-1)) hC dX1_give_7 (by decide +kernel) ?_
  refine z_ixor (pc := 8) (v := ((u.1 col) ^^^ (-1))) hC dX1_give_8 (rfl) ?_
  refine z_iand (pc := 9) (v := (frs cls (u.1 col))) hC dX1_give_9 (rfl) ?_
  refine z_istore (pc := 10) hC hNL [(6, .int (frs cls (u.1 col))), (0, .ref (q 6)), (1, .int cls), (2, .int (nI col)), (3, .int ax), (4, .int fcol), (5, .int sec)] dX1_give_10 (by decide) rfl ?_
  refine z_iload (pc := 12) hC 0 dX1_give_12 rfl ?_
  refine z_if_ne (pc := 14) (tgt := 18) hC dX1_give_14 (by decide) (fun h14 => ?_) (fun h14 => ?_)
  · refine z_aload_n (pc := 18) hC 1 dX1_give_18 rfl ?_
    refine z_get (pc := 19) (C := RX1) (T := TX1) (N := 8) hC hinX1 0 rfl rfl 1 (by decide) (by decide +kernel) rfl dX1_give_19 ?_
    refine z_iload_n (pc := 22) hC 3 dX1_give_22 rfl ?_
    refine z_dup2 (pc := 23) hC dX1_give_23 rfl rfl ?_
    refine z_iald (pc := 24) (v := (u.1 col)) hC 1 0 rfl rfl (by omega) (by decide) (rfl) dX1_give_24 ?_
    refine z_iload (pc := 25) hC 0 dX1_give_25 rfl ?_
    refine z_ior (pc := 27) (v := ((u.1 col) ||| (frs cls (u.1 col)))) hC dX1_give_27 (rfl) ?_
    refine z_iast (pc := 28) hC 1 0 rfl rfl (by omega) (by decide) [(q 6, .inr (2, [.ref (q 7), .ref (q 8), .ref (q 9), .ref (q 10), .int (nI n), .int fc, .int rc, .int u.2.2])), (q 8, .inl (cI, 168, .inl (upd u.1 col ((u.1 col) ||| (frs cls (u.1 col)))))), (q 9, .inl (cJ, 4032, .inr (.inl u.2.1)))] rfl dX1_give_28 ?_
    refine z_aload_n (pc := 29) hC 1 dX1_give_29 rfl ?_
    refine z_dup (pc := 30) hC dX1_give_30 rfl ?_
    refine z_get (pc := 31) (C := RX1) (T := TX1) (N := 8) hC hinX1 0 rfl rfl 7 (by decide) (by decide +kernel) rfl dX1_give_31 ?_
    refine z_iload (pc := 34) hC 0 dX1_give_34 rfl ?_
    refine z_ior (pc := 36) (v := (u.2.2 ||| (frs cls (u.1 col)))) hC dX1_give_36 (rfl) ?_
    refine z_put (pc := 37) (C := RX1) (T := TX1) (N := 8) hC hinX1 0 rfl rfl 7 (by decide) tyX1 tyX1_ok nmX1 (by decide +kernel) rfl (rfl) (rfl) (Nat.le_of_ble_eq_true rfl) [(q 6, .inr (2, [.ref (q 7), .ref (q 8), .ref (q 9), .ref (q 10), .int (nI n), .int fc, .int rc, .int (u.2.2 ||| (frs cls (u.1 col)))])), (q 8, .inl (cI, 168, .inl (upd u.1 col ((u.1 col) ||| (frs cls (u.1 col)))))), (q 9, .inl (cJ, 4032, .inr (.inl u.2.1)))] rfl dX1_give_37 ?_
    refine z_iconst (pc := 40) (v := (nI 0)) hC dX1_give_40 (by decide +kernel) ?_
    refine z_istore (pc := 41) hC hNL [(7, .int (nI 0)), (6, .int (frs cls (u.1 col))), (0, .ref (q 6)), (1, .int cls), (2, .int (nI col)), (3, .int ax), (4, .int fcol), (5, .int sec)] dX1_give_41 (by decide) rfl ?_
    have L43 : ∀ (fu : Nat) (i : Nat) (Gg : Nat → Int64) (hi : i ≤ n) (hf : n + 1 ≤ i + fu) (hG : Gg = gvG (frs cls (u.1 col)) col rc ax fcol sec u.2.1 i), Z K 0 0 [(q 6, .inr (2, [.ref (q 7), .ref (q 8), .ref (q 9), .ref (q 10), .int (nI n), .int fc, .int rc, .int (u.2.2 ||| (frs cls (u.1 col)))])), (q 8, .inl (cI, 168, .inl (upd u.1 col ((u.1 col) ||| (frs cls (u.1 col)))))), (q 9, .inl (cJ, 4032, .inr (.inl Gg)))] [(7, .int (nI i)), (6, .int (frs cls (u.1 col))), (0, .ref (q 6)), (1, .int cls), (2, .int (nI col)), (3, .int ax), (4, .int fcol), (5, .int sec)] 43 [] := by
      intro fu
      induction fu with
      | zero =>
        intro i Gg hi hf hG
        exact absurd trivial (by omega)
      | succ fu ih43 =>
        intro i Gg hi hf hG
        refine z_iload (pc := 43) hC 0 dX1_give_43 rfl ?_
        refine z_aload_n (pc := 45) hC 2 dX1_give_45 rfl ?_
        refine z_get (pc := 46) (C := RX1) (T := TX1) (N := 8) hC hinX1 0 rfl rfl 4 (by decide) (by decide +kernel) rfl dX1_give_46 ?_
        refine z_ncmp_ge (pc := 49) (tgt := 127) hC dX1_give_49 (by decide) (by omega) (by omega) (fun h49 => ?_) (fun h49 => ?_)
        · exact z_vret (pc := 127) hC hQ hRT (by rw [gv_n h14, hG, show i = n by omega]) dX1_give_127
        · refine z_iload (pc := 52) hC 0 dX1_give_52 rfl ?_
          refine z_iload (pc := 54) hC 1 dX1_give_54 rfl ?_
          refine z_callSN_I (pc := 56) (y := yX3_isIn) (wy := wsX3_isIn) (rm := { frames := 0, cells := 0, slots := 0, locals := 0 }) (As := [.int (nI i), .int (frs cls (u.1 col))]) (rest := []) (na := 2)  (wc := []) (wc2 := []) hC hRm hDis hLis gX1_give_X3_isIn_n112 (by decide +kernel) (by decide +kernel) (by decide +kernel) ⟨by decide +kernel, by decide +kernel⟩ rfl ⟨by decide, by decide⟩ ⟨by decide, by decide⟩ rfl (Nat.le_of_ble_eq_true rfl) (by decide +kernel) (c_X3_isIn _ _ cI cJ cZ (nI i) (frs cls (u.1 col)) ) [] [0, 1, 2] [0, 1, 2] [(q 6, .inr (2, [.ref (q 7), .ref (q 8), .ref (q 9), .ref (q 10), .int (nI n), .int fc, .int rc, .int (u.2.2 ||| (frs cls (u.1 col)))])), (q 8, .inl (cI, 168, .inl (upd u.1 col ((u.1 col) ||| (frs cls (u.1 col)))))), (q 9, .inl (cJ, 4032, .inr (.inl Gg)))] rfl (by decide) rfl (by decide) (by decide) [(q 6, .inr (2, [.ref (q 7), .ref (q 8), .ref (q 9), .ref (q 10), .int (nI n), .int fc, .int rc, .int (u.2.2 ||| (frs cls (u.1 col)))])), (q 8, .inl (cI, 168, .inl (upd u.1 col ((u.1 col) ||| (frs cls (u.1 col)))))), (q 9, .inl (cJ, 4032, .inr (.inl Gg)))] rfl (by decide) rfl dX1_give_56 ?_
          refine z_bif_eq (pc := 59) (tgt := 121) hC dX1_give_59 (by decide) (fun h59 => ?_) (fun h59 => ?_)
          · refine z_iinc (pc := 121) (q := 0) (x := (nI i)) (v := (nI (i + 1))) hC hNL [(7, .int (nI (i + 1))), (6, .int (frs cls (u.1 col))), (0, .ref (q 6)), (1, .int cls), (2, .int (nI col)), (3, .int ax), (4, .int fcol), (5, .int sec)] dX1_give_121 rfl (nI_add _ _) (by decide) rfl ?_
            refine z_goto (pc := 124) (tgt := 43) hC dX1_give_124 (by decide) ?_
            exact ih43 (i + 1) (Gg) (by omega) (by omega) (by first | rw [gvG_t h59, hG] | rw [gvG_f h59, hG])
          · refine z_iload (pc := 62) hC 6 dX1_give_62 rfl ?_
            refine z_sipush (pc := 64) (v := (nI 4095)) hC dX1_give_64 (by decide +kernel) ?_
            refine z_icmp_ne (pc := 67) (tgt := 76) hC dX1_give_67 (by decide) (fun h67 => ?_) (fun h67 => ?_)
            · refine z_iload (pc := 76) hC 0 dX1_give_76 rfl ?_
              refine z_iload (pc := 78) hC 6 dX1_give_78 rfl ?_
              refine z_callSN_I (pc := 80) (y := yX3_codeOf) (wy := wsX3_codeOf) (rm := { frames := 0, cells := 0, slots := 0, locals := 0 }) (As := [.int (nI i), .int fcol]) (rest := []) (na := 2)  (wc := []) (wc2 := []) hC hRm hDis hLis gX1_give_X3_codeOf_n116 (by decide +kernel) (by decide +kernel) (by decide +kernel) ⟨by decide +kernel, by decide +kernel⟩ rfl ⟨by decide, by decide⟩ ⟨by decide, by decide⟩ rfl (Nat.le_of_ble_eq_true rfl) (by decide +kernel) (c_X3_codeOf _ _ cI cJ cZ (nI i) (fcol) ) [] [0, 1, 2] [0, 1, 2] [(q 6, .inr (2, [.ref (q 7), .ref (q 8), .ref (q 9), .ref (q 10), .int (nI n), .int fc, .int rc, .int (u.2.2 ||| (frs cls (u.1 col)))])), (q 8, .inl (cI, 168, .inl (upd u.1 col ((u.1 col) ||| (frs cls (u.1 col)))))), (q 9, .inl (cJ, 4032, .inr (.inl Gg)))] rfl (by decide) rfl (by decide) (by decide) [(q 6, .inr (2, [.ref (q 7), .ref (q 8), .ref (q 9), .ref (q 10), .int (nI n), .int fc, .int rc, .int (u.2.2 ||| (frs cls (u.1 col)))])), (q 8, .inl (cI, 168, .inl (upd u.1 col ((u.1 col) ||| (frs cls (u.1 col)))))), (q 9, .inl (cJ, 4032, .inr (.inl Gg)))] rfl (by decide) rfl dX1_give_80 ?_
              refine z_topi (fstI (nI i) fcol) (by simp [fstI, h67]) ?_
              refine z_istore (pc := 83) hC hNL [(8, .int (fstI (nI i) fcol)), (7, .int (nI i)), (6, .int (frs cls (u.1 col))), (0, .ref (q 6)), (1, .int cls), (2, .int (nI col)), (3, .int ax), (4, .int fcol), (5, .int sec)] dX1_give_83 (by decide) rfl ?_
              refine z_aload_n (pc := 85) hC 3 dX1_give_85 rfl ?_
              refine z_get (pc := 86) (C := RX1) (T := TX1) (N := 8) hC hinX1 0 rfl rfl 2 (by decide) (by decide +kernel) rfl dX1_give_86 ?_
              refine z_iload (pc := 89) hC 1 dX1_give_89 rfl ?_
              refine z_iload_n (pc := 91) hC 5 dX1_give_91 rfl ?_
              refine z_callSN_I (pc := 92) (y := yX3_codeOf) (wy := wsX3_codeOf) (rm := { frames := 0, cells := 0, slots := 0, locals := 0 }) (As := [.int (nI i), .int (nI col)]) (rest := [.ref (q 9)]) (na := 2)  (wc := []) (wc2 := []) hC hRm hDis hLis gX1_give_X3_codeOf_n116 (by decide +kernel) (by decide +kernel) (by decide +kernel) ⟨by decide +kernel, by decide +kernel⟩ rfl ⟨by decide, by decide⟩ ⟨by decide, by decide⟩ rfl (Nat.le_of_ble_eq_true rfl) (by decide +kernel) (c_X3_codeOfN _ _ cI cJ cZ (i) (col) (by omega)) [] [0, 1, 2] [0, 1, 2] [(q 6, .inr (2, [.ref (q 7), .ref (q 8), .ref (q 9), .ref (q 10), .int (nI n), .int fc, .int rc, .int (u.2.2 ||| (frs cls (u.1 col)))])), (q 8, .inl (cI, 168, .inl (upd u.1 col ((u.1 col) ||| (frs cls (u.1 col)))))), (q 9, .inl (cJ, 4032, .inr (.inl Gg)))] rfl (by decide) rfl (by decide) (by decide) [(q 6, .inr (2, [.ref (q 7), .ref (q 8), .ref (q 9), .ref (q 10), .int (nI n), .int fc, .int rc, .int (u.2.2 ||| (frs cls (u.1 col)))])), (q 8, .inl (cI, 168, .inl (upd u.1 col ((u.1 col) ||| (frs cls (u.1 col)))))), (q 9, .inl (cJ, 4032, .inr (.inl Gg)))] rfl (by decide) rfl dX1_give_92 ?_
              refine z_aload_n (pc := 95) hC 3 dX1_give_95 rfl ?_
              refine z_get (pc := 96) (C := RX1) (T := TX1) (N := 8) hC hinX1 0 rfl rfl 6 (by decide) (by decide +kernel) rfl dX1_give_96 ?_
              refine z_i2l (pc := 99) (v := rc.toInt64) hC dX1_give_99 rfl ?_
              refine z_bipush (pc := 100) (v := (nI 32)) hC dX1_give_100 (by decide +kernel) ?_
              refine z_lshl (pc := 102) (v := (rc.toInt64 <<< ((nI 32).toInt64 &&& 63))) hC dX1_give_102 rfl ?_
              refine z_iload_n (pc := 103) hC 6 dX1_give_103 rfl ?_
              refine z_i2l (pc := 104) (v := ax.toInt64) hC dX1_give_104 rfl ?_
              refine z_bipush (pc := 105) (v := (nI 24)) hC dX1_give_105 (by decide +kernel) ?_
              refine z_lshl (pc := 107) (v := (ax.toInt64 <<< ((nI 24).toInt64 &&& 63))) hC dX1_give_107 rfl ?_
              refine z_lor (pc := 108) (v := ((rc.toInt64 <<< ((nI 32).toInt64 &&& 63)) ||| (ax.toInt64 <<< ((nI 24).toInt64 &&& 63)))) hC dX1_give_108 rfl ?_
              refine z_iload (pc := 109) hC 0 dX1_give_109 rfl ?_
              refine z_i2l (pc := 111) (v := ((fstI (nI i) fcol).toInt64)) hC dX1_give_111 rfl ?_
              refine z_bipush (pc := 112) (v := (nI 12)) hC dX1_give_112 (by decide +kernel) ?_
              refine z_lshl (pc := 114) (v := (((fstI (nI i) fcol).toInt64) <<< ((nI 12).toInt64 &&& 63))) hC dX1_give_114 rfl ?_
              refine z_lor (pc := 115) (v := (((rc.toInt64 <<< ((nI 32).toInt64 &&& 63)) ||| (ax.toInt64 <<< ((nI 24).toInt64 &&& 63))) ||| (((fstI (nI i) fcol).toInt64) <<< ((nI 12).toInt64 &&& 63)))) hC dX1_give_115 rfl ?_
              refine z_iload (pc := 116) hC 8 dX1_give_116 rfl ?_
              refine z_i2l (pc := 118) (v := sec.toInt64) hC dX1_give_118 rfl ?_
              refine z_lor (pc := 119) (v := (pkJ rc ax (fstI (nI i) fcol) sec)) hC dX1_give_119 rfl ?_
              refine z_last (pc := 120) hC 2 1 rfl rfl (cod_lt (by omega) hc) (by decide) [(q 6, .inr (2, [.ref (q 7), .ref (q 8), .ref (q 9), .ref (q 10), .int (nI n), .int fc, .int rc, .int (u.2.2 ||| (frs cls (u.1 col)))])), (q 8, .inl (cI, 168, .inl (upd u.1 col ((u.1 col) ||| (frs cls (u.1 col)))))), (q 9, .inl (cJ, 4032, .inr (.inl (vp_updL Gg (cod i col) (pkJ rc ax (fstI (nI i) fcol) sec)))))] rfl dX1_give_120 ?_
              refine z_iinc (pc := 121) (q := 1) (x := (nI i)) (v := (nI (i + 1))) hC hNL [(7, .int (nI (i + 1))), (8, .int (fstI (nI i) fcol)), (6, .int (frs cls (u.1 col))), (0, .ref (q 6)), (1, .int cls), (2, .int (nI col)), (3, .int ax), (4, .int fcol), (5, .int sec)] dX1_give_121 rfl (nI_add _ _) (by decide) rfl ?_
              refine z_goto (pc := 124) (tgt := 43) hC dX1_give_124 (by decide) ?_
              refine z_lv [0, 2, 3, 4, 5, 6, 7, 8] rfl ?_
              exact ih43 (i + 1) (vp_updL Gg (cod i col) (pkJ rc ax (fstI (nI i) fcol) sec)) (by omega) (by omega) (by first | rw [gvG_t h59, hG] | rw [gvG_f h59, hG])
            · refine z_sipush (pc := 70) (v := (nI 4095)) hC dX1_give_70 (by decide +kernel) ?_
              refine z_goto (pc := 73) (tgt := 83) hC dX1_give_73 (by decide) ?_
              refine z_topi (fstI (nI i) fcol) (by simp [fstI, h67]) ?_
              refine z_istore (pc := 83) hC hNL [(8, .int (fstI (nI i) fcol)), (7, .int (nI i)), (6, .int (frs cls (u.1 col))), (0, .ref (q 6)), (1, .int cls), (2, .int (nI col)), (3, .int ax), (4, .int fcol), (5, .int sec)] dX1_give_83 (by decide) rfl ?_
              refine z_aload_n (pc := 85) hC 3 dX1_give_85 rfl ?_
              refine z_get (pc := 86) (C := RX1) (T := TX1) (N := 8) hC hinX1 0 rfl rfl 2 (by decide) (by decide +kernel) rfl dX1_give_86 ?_
              refine z_iload (pc := 89) hC 1 dX1_give_89 rfl ?_
              refine z_iload_n (pc := 91) hC 5 dX1_give_91 rfl ?_
              refine z_callSN_I (pc := 92) (y := yX3_codeOf) (wy := wsX3_codeOf) (rm := { frames := 0, cells := 0, slots := 0, locals := 0 }) (As := [.int (nI i), .int (nI col)]) (rest := [.ref (q 9)]) (na := 2)  (wc := []) (wc2 := []) hC hRm hDis hLis gX1_give_X3_codeOf_n116 (by decide +kernel) (by decide +kernel) (by decide +kernel) ⟨by decide +kernel, by decide +kernel⟩ rfl ⟨by decide, by decide⟩ ⟨by decide, by decide⟩ rfl (Nat.le_of_ble_eq_true rfl) (by decide +kernel) (c_X3_codeOfN _ _ cI cJ cZ (i) (col) (by omega)) [] [0, 1, 2] [0, 1, 2] [(q 6, .inr (2, [.ref (q 7), .ref (q 8), .ref (q 9), .ref (q 10), .int (nI n), .int fc, .int rc, .int (u.2.2 ||| (frs cls (u.1 col)))])), (q 8, .inl (cI, 168, .inl (upd u.1 col ((u.1 col) ||| (frs cls (u.1 col)))))), (q 9, .inl (cJ, 4032, .inr (.inl Gg)))] rfl (by decide) rfl (by decide) (by decide) [(q 6, .inr (2, [.ref (q 7), .ref (q 8), .ref (q 9), .ref (q 10), .int (nI n), .int fc, .int rc, .int (u.2.2 ||| (frs cls (u.1 col)))])), (q 8, .inl (cI, 168, .inl (upd u.1 col ((u.1 col) ||| (frs cls (u.1 col)))))), (q 9, .inl (cJ, 4032, .inr (.inl Gg)))] rfl (by decide) rfl dX1_give_92 ?_
              refine z_aload_n (pc := 95) hC 3 dX1_give_95 rfl ?_
              refine z_get (pc := 96) (C := RX1) (T := TX1) (N := 8) hC hinX1 0 rfl rfl 6 (by decide) (by decide +kernel) rfl dX1_give_96 ?_
              refine z_i2l (pc := 99) (v := rc.toInt64) hC dX1_give_99 rfl ?_
              refine z_bipush (pc := 100) (v := (nI 32)) hC dX1_give_100 (by decide +kernel) ?_
              refine z_lshl (pc := 102) (v := (rc.toInt64 <<< ((nI 32).toInt64 &&& 63))) hC dX1_give_102 rfl ?_
              refine z_iload_n (pc := 103) hC 6 dX1_give_103 rfl ?_
              refine z_i2l (pc := 104) (v := ax.toInt64) hC dX1_give_104 rfl ?_
              refine z_bipush (pc := 105) (v := (nI 24)) hC dX1_give_105 (by decide +kernel) ?_
              refine z_lshl (pc := 107) (v := (ax.toInt64 <<< ((nI 24).toInt64 &&& 63))) hC dX1_give_107 rfl ?_
              refine z_lor (pc := 108) (v := ((rc.toInt64 <<< ((nI 32).toInt64 &&& 63)) ||| (ax.toInt64 <<< ((nI 24).toInt64 &&& 63)))) hC dX1_give_108 rfl ?_
              refine z_iload (pc := 109) hC 0 dX1_give_109 rfl ?_
              refine z_i2l (pc := 111) (v := ((fstI (nI i) fcol).toInt64)) hC dX1_give_111 rfl ?_
              refine z_bipush (pc := 112) (v := (nI 12)) hC dX1_give_112 (by decide +kernel) ?_
              refine z_lshl (pc := 114) (v := (((fstI (nI i) fcol).toInt64) <<< ((nI 12).toInt64 &&& 63))) hC dX1_give_114 rfl ?_
              refine z_lor (pc := 115) (v := (((rc.toInt64 <<< ((nI 32).toInt64 &&& 63)) ||| (ax.toInt64 <<< ((nI 24).toInt64 &&& 63))) ||| (((fstI (nI i) fcol).toInt64) <<< ((nI 12).toInt64 &&& 63)))) hC dX1_give_115 rfl ?_
              refine z_iload (pc := 116) hC 8 dX1_give_116 rfl ?_
              refine z_i2l (pc := 118) (v := sec.toInt64) hC dX1_give_118 rfl ?_
              refine z_lor (pc := 119) (v := (pkJ rc ax (fstI (nI i) fcol) sec)) hC dX1_give_119 rfl ?_
              refine z_last (pc := 120) hC 2 1 rfl rfl (cod_lt (by omega) hc) (by decide) [(q 6, .inr (2, [.ref (q 7), .ref (q 8), .ref (q 9), .ref (q 10), .int (nI n), .int fc, .int rc, .int (u.2.2 ||| (frs cls (u.1 col)))])), (q 8, .inl (cI, 168, .inl (upd u.1 col ((u.1 col) ||| (frs cls (u.1 col)))))), (q 9, .inl (cJ, 4032, .inr (.inl (vp_updL Gg (cod i col) (pkJ rc ax (fstI (nI i) fcol) sec)))))] rfl dX1_give_120 ?_
              refine z_iinc (pc := 121) (q := 1) (x := (nI i)) (v := (nI (i + 1))) hC hNL [(7, .int (nI (i + 1))), (8, .int (fstI (nI i) fcol)), (6, .int (frs cls (u.1 col))), (0, .ref (q 6)), (1, .int cls), (2, .int (nI col)), (3, .int ax), (4, .int fcol), (5, .int sec)] dX1_give_121 rfl (nI_add _ _) (by decide) rfl ?_
              refine z_goto (pc := 124) (tgt := 43) hC dX1_give_124 (by decide) ?_
              refine z_lv [0, 2, 3, 4, 5, 6, 7, 8] rfl ?_
              exact ih43 (i + 1) (vp_updL Gg (cod i col) (pkJ rc ax (fstI (nI i) fcol) sec)) (by omega) (by omega) (by first | rw [gvG_t h59, hG] | rw [gvG_f h59, hG])
    exact L43 (n + 1) (0) (u.2.1) (by omega) (by omega) (rfl)
  · exact z_vret (pc := 17) hC hQ hRT (by rw [gv_e h14]) dX1_give_17

def gvIt (n : Nat) (rc : Int32) (r : Nat) (u : GS) : Nat → GS
  | 0 => u
  | i + 1 => gv n rc (bitI i) (lcol r i) (nI 255) (nI 4095) (nI 4095) (gvIt n rc r u i)

set_option maxRecDepth 100000 in
set_option maxHeartbeats 4000000 in
theorem c_X1_giveOfItself (l : Launch) (D : va_G) (cI cJ cZ : ClassId) (q : Nat → Nat) (u : GS) (n : Nat) (fc : Int32) (rc : Int32) (r : Nat) (hr : r < 6) (hn : n ≤ 24) : MV l yX1_giveOfItself wsX1_giveOfItself { frames := 2, cells := 0, slots := 0, locals := 49 } D (tyL cI cJ cZ) [.ref (q 6), .int (nI r)] [(q 6, .inr (2, [.ref (q 7), .ref (q 8), .ref (q 9), .ref (q 10), .int (nI n), .int fc, .int rc, .int u.2.2])), (q 8, .inl (cI, 168, .inl u.1)), (q 9, .inl (cJ, 4032, .inr (.inl u.2.1)))] [(q 6, .inr (2, [.ref (q 7), .ref (q 8), .ref (q 9), .ref (q 10), .int (nI n), .int fc, .int rc, .int ((gvIt n rc r u n).2.2)])), (q 8, .inl (cI, 168, .inl ((gvIt n rc r u n).1))), (q 9, .inl (cJ, 4032, .inr (.inl ((gvIt n rc r u n).2.1))))] := by
  refine metV_of (cc := cX1_giveOfItself) (maxL := 3) (ret := none) (by decide +kernel) rfl (Nat.le_of_ble_eq_true rfl) ?_
  intro K hC hRm hNL hDis hLis hRT hIni hQ
  have hinX1 : ∀ w ∈ wsX10, w ∈ wsX1_giveOfItself := by decide +kernel
  refine z_iconst (pc := 0) (v := (nI 0)) hC dX1_giveOfItself_0 (by decide +kernel) ?_
  refine z_istore_n (pc := 1) hC hNL [(2, .int (nI 0)), (0, .ref (q 6)), (1, .int (nI r))] dX1_giveOfItself_1 (by decide) rfl ?_
  have L2 : ∀ (fu : Nat) (i : Nat) (w : GS) (hi : i ≤ n) (hf : n + 1 ≤ i + fu) (hw : w = gvIt n rc r u i), Z K 0 0 [(q 6, .inr (2, [.ref (q 7), .ref (q 8), .ref (q 9), .ref (q 10), .int (nI n), .int fc, .int rc, .int w.2.2])), (q 8, .inl (cI, 168, .inl w.1)), (q 9, .inl (cJ, 4032, .inr (.inl w.2.1)))] [(2, .int (nI i)), (0, .ref (q 6)), (1, .int (nI r))] 2 [] := by
    intro fu
    induction fu with
    | zero =>
      intro i w hi hf hw
      exact absurd trivial (by omega)
    | succ fu ih2 =>
      intro i w hi hf hw
      refine z_iload_n (pc := 2) hC 0 dX1_giveOfItself_2 rfl ?_
      refine z_aload_n (pc := 3) hC 1 dX1_giveOfItself_3 rfl ?_
      refine z_get (pc := 4) (C := RX1) (T := TX1) (N := 8) hC hinX1 0 rfl rfl 4 (by decide) (by decide +kernel) rfl dX1_giveOfItself_4 ?_
      refine z_ncmp_ge (pc := 7) (tgt := 37) hC dX1_giveOfItself_7 (by decide) (by omega) (by omega) (fun h7 => ?_) (fun h7 => ?_)
      · exact z_vret (pc := 37) hC hQ hRT (by rw [hw, show i = n by omega]) dX1_giveOfItself_37
      · refine z_aload_n (pc := 10) hC 1 dX1_giveOfItself_10 rfl ?_
        refine z_iconst (pc := 11) (v := (nI 1)) hC dX1_giveOfItself_11 (by decide +kernel) ?_
        refine z_iload_n (pc := 12) hC 0 dX1_giveOfItself_12 rfl ?_
        refine z_ishl (pc := 13) (v := (bitI i)) hC dX1_giveOfItself_13 (rfl) ?_
        refine z_iload_n (pc := 14) hC 2 dX1_giveOfItself_14 rfl ?_
        refine z_iload_n (pc := 15) hC 0 dX1_giveOfItself_15 rfl ?_
        refine z_callSN_I (pc := 16) (y := yX3_linkColumn) (wy := wsX3_linkColumn) (rm := { frames := 0, cells := 0, slots := 0, locals := 0 }) (As := [.int (nI r), .int (nI i)]) (rest := [.int (bitI i), .ref (q 6)]) (na := 2)  (wc := []) (wc2 := []) hC hRm hDis hLis gX1_giveOfItself_X3_linkColumn_n92 (by decide +kernel) (by decide +kernel) (by decide +kernel) ⟨by decide +kernel, by decide +kernel⟩ rfl ⟨by decide, by decide⟩ ⟨by decide, by decide⟩ rfl (Nat.le_of_ble_eq_true rfl) (by decide +kernel) (c_X3_linkColumnN _ _ cI cJ cZ (r) (i) ) [] [0, 1, 2] [0, 1, 2] [(q 6, .inr (2, [.ref (q 7), .ref (q 8), .ref (q 9), .ref (q 10), .int (nI n), .int fc, .int rc, .int w.2.2])), (q 8, .inl (cI, 168, .inl w.1)), (q 9, .inl (cJ, 4032, .inr (.inl w.2.1)))] rfl (by decide) rfl (by decide) (by decide) [(q 6, .inr (2, [.ref (q 7), .ref (q 8), .ref (q 9), .ref (q 10), .int (nI n), .int fc, .int rc, .int w.2.2])), (q 8, .inl (cI, 168, .inl w.1)), (q 9, .inl (cJ, 4032, .inr (.inl w.2.1)))] rfl (by decide) rfl dX1_giveOfItself_16 ?_
        refine z_sipush (pc := 19) (v := (nI 255)) hC dX1_giveOfItself_19 (by decide +kernel) ?_
        refine z_sipush (pc := 22) (v := (nI 4095)) hC dX1_giveOfItself_22 (by decide +kernel) ?_
        refine z_sipush (pc := 25) (v := (nI 4095)) hC dX1_giveOfItself_25 (by decide +kernel) ?_
        refine z_callV_V (pc := 28) (y := yX1_give) (wy := wsX1_give) (rm := { frames := 1, cells := 0, slots := 0, locals := 21 }) (As := [.int (bitI i), .int (nI (lcol r i)), .int (nI 255), .int (nI 4095), .int (nI 4095)]) (rest := []) (na := 5) (C := RX1) (T := TX1) (NF := 8) (ci := 2) (wc := [(q 6, .inr (2, [.ref (q 7), .ref (q 8), .ref (q 9), .ref (q 10), .int (nI n), .int fc, .int rc, .int w.2.2])), (q 8, .inl (cI, 168, .inl w.1)), (q 9, .inl (cJ, 4032, .inr (.inl w.2.1)))]) (wc2 := [(q 6, .inr (2, [.ref (q 7), .ref (q 8), .ref (q 9), .ref (q 10), .int (nI n), .int fc, .int rc, .int ((gv n rc (bitI i) (lcol r i) (nI 255) (nI 4095) (nI 4095) w).2.2)])), (q 8, .inl (cI, 168, .inl ((gv n rc (bitI i) (lcol r i) (nI 255) (nI 4095) (nI 4095) w).1))), (q 9, .inl (cJ, 4032, .inr (.inl ((gv n rc (bitI i) (lcol r i) (nI 255) (nI 4095) (nI 4095) w).2.1))))]) hC hRm hDis hLis 0 rfl rfl gX1_giveOfItself_X1_give ⟨rfl, by decide +kernel, by decide +kernel⟩ rfl ⟨by decide, by decide⟩ ⟨by decide, by decide⟩ rfl (Nat.le_of_ble_eq_true rfl) (by decide +kernel) (c_X1_give _ _ cI cJ cZ (q) (w) (n) (fc) (rc) (bitI i) (lcol r i) (nI 255) (nI 4095) (nI 4095) (lcol_lt hr (by omega)) (hn)) [0, 1, 2] [] [0, 1, 2] [] rfl (by decide) rfl (by decide) (by decide) [(q 6, .inr (2, [.ref (q 7), .ref (q 8), .ref (q 9), .ref (q 10), .int (nI n), .int fc, .int rc, .int ((gv n rc (bitI i) (lcol r i) (nI 255) (nI 4095) (nI 4095) w).2.2)])), (q 8, .inl (cI, 168, .inl ((gv n rc (bitI i) (lcol r i) (nI 255) (nI 4095) (nI 4095) w).1))), (q 9, .inl (cJ, 4032, .inr (.inl ((gv n rc (bitI i) (lcol r i) (nI 255) (nI 4095) (nI 4095) w).2.1))))] rfl (by decide) rfl dX1_giveOfItself_28 ?_
        refine z_iinc (pc := 31) (q := 0) (x := (nI i)) (v := (nI (i + 1))) hC hNL [(2, .int (nI (i + 1))), (0, .ref (q 6)), (1, .int (nI r))] dX1_giveOfItself_31 rfl (nI_add _ _) (by decide) rfl ?_
        refine z_goto (pc := 34) (tgt := 2) hC dX1_giveOfItself_34 (by decide) ?_
        exact ih2 (i + 1) (gv n rc (bitI i) (lcol r i) (nI 255) (nI 4095) (nI 4095) w) (by omega) (by omega) (by rw [hw]; rfl)
  exact L2 (n + 1) (0) (u) (by omega) (by omega) (rfl)
