set_option maxRecDepth 100000 in
set_option maxHeartbeats 4000000 in
theorem c_J7_fill_53178 (l : Launch) (D : va_G) (cI cJ cZ : ClassId) (h : Nat) (N0 : Nat) (f0 : Nat → Int32) (v0 : Int32) (hN : N0 < 2 ^ 31) : MV l yJ7_fill_53178 wsJ7_fill_53178 { frames := 0, cells := 0, slots := 0, locals := 0 } D (tyL cI cJ cZ) [.ref h, .int v0] [(h, .inl (cI, N0, .inl f0))] [(h, .inl (cI, N0, .inl (fun _ => v0)))] := by
  refine metV_of (cc := cJ7_fill_53178) (maxL := 4) (ret := none) (by decide +kernel) rfl (Nat.le_of_ble_eq_true rfl) ?_
  intro K hC hRm hNL hDis hLis hRT hIni hQ
  refine z_iconst (pc := 0) (v := (nI 0)) hC dJ7_fill_53178_0 (by decide +kernel) ?_
  refine z_istore_n (pc := 1) hC hNL [(2, .int (nI 0)), (0, .ref h), (1, .int v0)] dJ7_fill_53178_1 (by decide) rfl ?_
  refine z_aload_n (pc := 2) hC 1 dJ7_fill_53178_2 rfl ?_
  refine z_alen (pc := 3) (v := (nI N0)) hC 0 0 rfl rfl rfl dJ7_fill_53178_3 ?_
  refine z_istore_n (pc := 4) hC hNL [(3, .int (nI N0)), (2, .int (nI 0)), (0, .ref h), (1, .int v0)] dJ7_fill_53178_4 (by decide) rfl ?_
  have L5 : ∀ (fu : Nat) (i : Nat) (f : Nat → Int32) (hi : i ≤ N0) (hf : N0 + 1 ≤ i + fu) (hv : ∀ j, j < i → f j = v0), Z K 0 0 [(h, .inl (cI, N0, .inl f))] [(3, .int (nI N0)), (2, .int (nI i)), (0, .ref h), (1, .int v0)] 5 [] := by
    intro fu
    induction fu with
    | zero =>
      intro i f hi hf hv
      exact absurd trivial (by omega)
    | succ fu ih5 =>
      intro i f hi hf hv
      refine z_iload_n (pc := 5) hC 1 dJ7_fill_53178_5 rfl ?_
      refine z_iload_n (pc := 6) hC 0 dJ7_fill_53178_6 rfl ?_
      refine z_ncmp_ge (pc := 7) (tgt := 20) hC dJ7_fill_53178_7 (by decide) (by omega) (by omega) (fun h7 => ?_) (fun h7 => ?_)
      · refine z_arrI (f' := fun _ => v0) 0 rfl (fun j hj => hv j (by omega)) [(h, .inl (cI, N0, .inl (fun _ => v0)))] rfl ?_
        exact z_vret (pc := 20) hC hQ hRT (rfl) dJ7_fill_53178_20
      · refine z_aload_n (pc := 10) hC 2 dJ7_fill_53178_10 rfl ?_
        refine z_iload_n (pc := 11) hC 1 dJ7_fill_53178_11 rfl ?_
        refine z_iload_n (pc := 12) hC 3 dJ7_fill_53178_12 rfl ?_
        refine z_iast (pc := 13) hC 0 0 rfl rfl (by omega) (hN) [(h, .inl (cI, N0, .inl (upd f i v0)))] rfl dJ7_fill_53178_13 ?_
        refine z_iinc (pc := 14) (q := 1) (x := (nI i)) (v := (nI (i + 1))) hC hNL [(2, .int (nI (i + 1))), (3, .int (nI N0)), (0, .ref h), (1, .int v0)] dJ7_fill_53178_14 rfl (nI_add _ _) (by decide) rfl ?_
        refine z_goto (pc := 17) (tgt := 5) hC dJ7_fill_53178_17 (by decide) ?_
        refine z_lv [1, 0, 2, 3] rfl ?_
        exact ih5 (i + 1) (upd f i v0) (by omega) (by omega) (fun j hj => by
              by_cases e9 : j = i
              · rw [e9, pk_us]
              · rw [pk_un e9]; exact hv j (by omega))
  exact L5 (N0 + 1) (0) (f0) (by omega) (by omega) (fun j hj => absurd hj (Nat.not_lt_zero j))

set_option maxRecDepth 100000 in
set_option maxHeartbeats 4000000 in
theorem c_J7_fill_d0a16 (l : Launch) (D : va_G) (cI cJ cZ : ClassId) (h : Nat) (N0 : Nat) (f0 : Nat → Int64) (v0 : Int64) (hN : N0 < 2 ^ 31) : MV l yJ7_fill_d0a16 wsJ7_fill_d0a16 { frames := 0, cells := 0, slots := 0, locals := 0 } D (tyL cI cJ cZ) [.ref h, .long v0] [(h, .inl (cJ, N0, .inr (.inl f0)))] [(h, .inl (cJ, N0, .inr (.inl (fun _ => v0))))] := by
  refine metV_of (cc := cJ7_fill_d0a16) (maxL := 5) (ret := none) (by decide +kernel) rfl (Nat.le_of_ble_eq_true rfl) ?_
  intro K hC hRm hNL hDis hLis hRT hIni hQ
  refine z_iconst (pc := 0) (v := (nI 0)) hC dJ7_fill_d0a16_0 (by decide +kernel) ?_
  refine z_istore_n (pc := 1) hC hNL [(3, .int (nI 0)), (0, .ref h), (1, .long v0)] dJ7_fill_d0a16_1 (by decide) rfl ?_
  refine z_aload_n (pc := 2) hC 1 dJ7_fill_d0a16_2 rfl ?_
  refine z_alen (pc := 3) (v := (nI N0)) hC 0 1 rfl rfl rfl dJ7_fill_d0a16_3 ?_
  refine z_istore (pc := 4) hC hNL [(4, .int (nI N0)), (3, .int (nI 0)), (0, .ref h), (1, .long v0)] dJ7_fill_d0a16_4 (by decide) rfl ?_
  have L6 : ∀ (fu : Nat) (i : Nat) (f : Nat → Int64) (hi : i ≤ N0) (hf : N0 + 1 ≤ i + fu) (hv : ∀ j, j < i → f j = v0), Z K 0 0 [(h, .inl (cJ, N0, .inr (.inl f)))] [(4, .int (nI N0)), (3, .int (nI i)), (0, .ref h), (1, .long v0)] 6 [] := by
    intro fu
    induction fu with
    | zero =>
      intro i f hi hf hv
      exact absurd trivial (by omega)
    | succ fu ih6 =>
      intro i f hi hf hv
      refine z_iload_n (pc := 6) hC 1 dJ7_fill_d0a16_6 rfl ?_
      refine z_iload (pc := 7) hC 0 dJ7_fill_d0a16_7 rfl ?_
      refine z_ncmp_ge (pc := 9) (tgt := 22) hC dJ7_fill_d0a16_9 (by decide) (by omega) (by omega) (fun h9 => ?_) (fun h9 => ?_)
      · refine z_arrJ (f' := fun _ => v0) 0 rfl (fun j hj => hv j (by omega)) [(h, .inl (cJ, N0, .inr (.inl (fun _ => v0))))] rfl ?_
        exact z_vret (pc := 22) hC hQ hRT (rfl) dJ7_fill_d0a16_22
      · refine z_aload_n (pc := 12) hC 2 dJ7_fill_d0a16_12 rfl ?_
        refine z_iload_n (pc := 13) hC 1 dJ7_fill_d0a16_13 rfl ?_
        refine z_lload_n (pc := 14) hC 3 dJ7_fill_d0a16_14 rfl ?_
        refine z_last (pc := 15) hC 0 1 rfl rfl (by omega) (hN) [(h, .inl (cJ, N0, .inr (.inl (vp_updL f i v0))))] rfl dJ7_fill_d0a16_15 ?_
        refine z_iinc (pc := 16) (q := 1) (x := (nI i)) (v := (nI (i + 1))) hC hNL [(3, .int (nI (i + 1))), (4, .int (nI N0)), (0, .ref h), (1, .long v0)] dJ7_fill_d0a16_16 rfl (nI_add _ _) (by decide) rfl ?_
        refine z_goto (pc := 19) (tgt := 6) hC dJ7_fill_d0a16_19 (by decide) ?_
        refine z_lv [1, 0, 2, 3] rfl ?_
        exact ih6 (i + 1) (vp_updL f i v0) (by omega) (by omega) (fun j hj => by
              by_cases e9 : j = i
              · rw [e9, pk_uLs]
              · rw [pk_uLn e9]; exact hv j (by omega))
  exact L6 (N0 + 1) (0) (f0) (by omega) (by omega) (fun j hj => absurd hj (Nat.not_lt_zero j))

def clV (n : Nat) (x : Int32) : Prop := ∃ j : Nat, j < n ∧ x = nI j
def axV (n : Nat) (kd a b c : Int32) : Prop := (kd = nI 1 → clV n a ∧ clV n b) ∧ (kd = nI 2 → clV n a ∧ clV n b ∧ clV n c) ∧ (kd = nI 3 → clV n a ∧ clV 6 b ∧ clV n c) ∧ (kd = nI 4 → clV 6 a ∧ clV n b ∧ clV n c) ∧ (kd = nI 5 → clV 6 a ∧ clV 6 b) ∧ (kd = nI 6 → clV 6 a ∧ clV 6 b ∧ clV 6 c) ∧ (kd = nI 7 → clV 6 a)
def gv0 (n : Nat) (rc : Int32) (u : GS) : Nat → GS
  | 0 => u
  | i + 1 => gv n rc (bitI i) 0 (nI 255) (nI 4095) (nI 4095) (gv n rc (bitI i) i (nI 255) (nI 4095) (nI 4095) (gv0 n rc u i))
def gv7 (n : Nat) (rc : Int32) (Kd Aa : Nat → Int32) (u : GS) : Nat → GS
  | 0 => u
  | k + 1 => if Kd k = nI 7 then gvIt n rc (tn (Aa k)) (gv7 n rc Kd Aa u k) n else gv7 n rc Kd Aa u k
theorem gv7_t {n : Nat} {rc : Int32} {Kd Aa : Nat → Int32} {u : GS} {k : Nat} (h : Kd k = nI 7) : gv7 n rc Kd Aa u (k + 1) = gvIt n rc (tn (Aa k)) (gv7 n rc Kd Aa u k) n := if_pos h
theorem gv7_f {n : Nat} {rc : Int32} {Kd Aa : Nat → Int32} {u : GS} {k : Nat} (h : Kd k ≠ nI 7) : gv7 n rc Kd Aa u (k + 1) = gv7 n rc Kd Aa u k := if_neg h

set_option maxRecDepth 100000 in
set_option maxHeartbeats 4000000 in
theorem c_X1_giveAtFirst (l : Launch) (D : va_G) (cI cJ cZ : ClassId) (q : Nat → Nat) (u : GS) (n : Nat) (fc : Int32) (rc : Int32) (Kd : Nat → Int32) (Aa : Nat → Int32) (cnt : Nat) (hn : n ≤ 24) (hcnt : cnt ≤ 80) (hax : ∀ k, k < cnt → Kd k = nI 7 → clV 6 (Aa k)) : MV l yX1_giveAtFirst wsX1_giveAtFirst { frames := 3, cells := 0, slots := 0, locals := 71 } D (tyL cI cJ cZ) [.ref (q 6), .ref (q 1)] [(q 6, .inr (2, [.ref (q 7), .ref (q 8), .ref (q 9), .ref (q 10), .int (nI n), .int fc, .int rc, .int u.2.2])), (q 8, .inl (cI, 168, .inl u.1)), (q 9, .inl (cJ, 4032, .inr (.inl u.2.1))), (q 1, .inr (1, [.ref (q 2), .ref (q 3), .ref (q 4), .ref (q 5), .int (nI cnt)])), (q 2, .inl (cI, 80, .inl Kd)), (q 3, .inl (cI, 80, .inl Aa))] [(q 6, .inr (2, [.ref (q 7), .ref (q 8), .ref (q 9), .ref (q 10), .int (nI n), .int fc, .int rc, .int ((gv7 n rc Kd Aa (gv0 n rc u n) cnt).2.2)])), (q 8, .inl (cI, 168, .inl ((gv7 n rc Kd Aa (gv0 n rc u n) cnt).1))), (q 9, .inl (cJ, 4032, .inr (.inl ((gv7 n rc Kd Aa (gv0 n rc u n) cnt).2.1)))), (q 1, .inr (1, [.ref (q 2), .ref (q 3), .ref (q 4), .ref (q 5), .int (nI cnt)])), (q 2, .inl (cI, 80, .inl Kd)), (q 3, .inl (cI, 80, .inl Aa))] := by
  refine metV_of (cc := cX1_giveAtFirst) (maxL := 3) (ret := none) (by decide +kernel) rfl (Nat.le_of_ble_eq_true rfl) ?_
  intro K hC hRm hNL hDis hLis hRT hIni hQ
  have hinX0 : ∀ w ∈ wsX00, w ∈ wsX1_giveAtFirst := by decide +kernel
  have hinX1 : ∀ w ∈ wsX10, w ∈ wsX1_giveAtFirst := by decide +kernel
  refine z_iconst (pc := 0) (v := (nI 0)) hC dX1_giveAtFirst_0 (by decide +kernel) ?_
  refine z_istore_n (pc := 1) hC hNL [(2, .int (nI 0)), (0, .ref (q 6)), (1, .ref (q 1))] dX1_giveAtFirst_1 (by decide) rfl ?_
  have L2 : ∀ (fu : Nat) (i : Nat) (w : GS) (hi : i ≤ n) (hf : n + 1 ≤ i + fu) (hw : w = gv0 n rc u i), Z K 0 0 [(q 6, .inr (2, [.ref (q 7), .ref (q 8), .ref (q 9), .ref (q 10), .int (nI n), .int fc, .int rc, .int w.2.2])), (q 8, .inl (cI, 168, .inl w.1)), (q 9, .inl (cJ, 4032, .inr (.inl w.2.1))), (q 1, .inr (1, [.ref (q 2), .ref (q 3), .ref (q 4), .ref (q 5), .int (nI cnt)])), (q 2, .inl (cI, 80, .inl Kd)), (q 3, .inl (cI, 80, .inl Aa))] [(2, .int (nI i)), (0, .ref (q 6)), (1, .ref (q 1))] 2 [] := by
    intro fu
    induction fu with
    | zero =>
      intro i w hi hf hw
      exact absurd trivial (by omega)
    | succ fu ih2 =>
      intro i w hi hf hw
      refine z_iload_n (pc := 2) hC 0 dX1_giveAtFirst_2 rfl ?_
      refine z_aload_n (pc := 3) hC 1 dX1_giveAtFirst_3 rfl ?_
      refine z_get (pc := 4) (C := RX1) (T := TX1) (N := 8) hC hinX1 0 rfl rfl 4 (by decide) (by decide +kernel) rfl dX1_giveAtFirst_4 ?_
      refine z_ncmp_ge (pc := 7) (tgt := 50) hC dX1_giveAtFirst_7 (by decide) (by omega) (by omega) (fun h7 => ?_) (fun h7 => ?_)
      · refine z_iconst (pc := 50) (v := (nI 0)) hC dX1_giveAtFirst_50 (by decide +kernel) ?_
        refine z_istore_n (pc := 51) hC hNL [(2, .int (nI 0)), (0, .ref (q 6)), (1, .ref (q 1))] dX1_giveAtFirst_51 (by decide) rfl ?_
        have L52 : ∀ (fu : Nat) (i : Nat) (v : GS) (hi : i ≤ cnt) (hf : cnt + 1 ≤ i + fu) (hv : v = gv7 n rc Kd Aa (gv0 n rc u n) i), Z K 0 0 [(q 6, .inr (2, [.ref (q 7), .ref (q 8), .ref (q 9), .ref (q 10), .int (nI n), .int fc, .int rc, .int v.2.2])), (q 8, .inl (cI, 168, .inl v.1)), (q 9, .inl (cJ, 4032, .inr (.inl v.2.1))), (q 1, .inr (1, [.ref (q 2), .ref (q 3), .ref (q 4), .ref (q 5), .int (nI cnt)])), (q 2, .inl (cI, 80, .inl Kd)), (q 3, .inl (cI, 80, .inl Aa))] [(2, .int (nI i)), (0, .ref (q 6)), (1, .ref (q 1))] 52 [] := by
          intro fu
          induction fu with
          | zero =>
            intro i v hi hf hv
            exact absurd trivial (by omega)
          | succ fu ih52 =>
            intro i v hi hf hv
            refine z_iload_n (pc := 52) hC 0 dX1_giveAtFirst_52 rfl ?_
            refine z_aload_n (pc := 53) hC 2 dX1_giveAtFirst_53 rfl ?_
            refine z_getN (pc := 54) (C := RX0) (T := TX0) (N := 5) hC hinX0 3 rfl rfl 4 (by decide) (by decide +kernel) rfl dX1_giveAtFirst_54 ?_
            refine z_ncmp_ge (pc := 57) (tgt := 87) hC dX1_giveAtFirst_57 (by decide) (by omega) (by omega) (fun h57 => ?_) (fun h57 => ?_)
            · exact z_vret (pc := 87) hC hQ hRT (by rw [hv, show i = cnt by omega]) dX1_giveAtFirst_87
            · refine z_aload_n (pc := 60) hC 2 dX1_giveAtFirst_60 rfl ?_
              refine z_getN (pc := 61) (C := RX0) (T := TX0) (N := 5) hC hinX0 3 rfl rfl 0 (by decide) (by decide +kernel) rfl dX1_giveAtFirst_61 ?_
              refine z_iload_n (pc := 64) hC 0 dX1_giveAtFirst_64 rfl ?_
              refine z_iald (pc := 65) (v := (Kd i)) hC 4 0 rfl rfl (by omega) (by decide) (rfl) dX1_giveAtFirst_65 ?_
              refine z_bipush (pc := 66) (v := (nI 7)) hC dX1_giveAtFirst_66 (by decide +kernel) ?_
              refine z_icmp_ne (pc := 68) (tgt := 81) hC dX1_giveAtFirst_68 (by decide) (fun h68 => ?_) (fun h68 => ?_)
              · refine z_iinc (pc := 81) (q := 0) (x := (nI i)) (v := (nI (i + 1))) hC hNL [(2, .int (nI (i + 1))), (0, .ref (q 6)), (1, .ref (q 1))] dX1_giveAtFirst_81 rfl (nI_add _ _) (by decide) rfl ?_
                refine z_goto (pc := 84) (tgt := 52) hC dX1_giveAtFirst_84 (by decide) ?_
                exact ih52 (i + 1) (v) (by omega) (by omega) (by first | rw [gv7_t h68, er9, tn_nI (by omega), hv] | rw [gv7_f h68, hv])
              · refine z_aload_n (pc := 71) hC 1 dX1_giveAtFirst_71 rfl ?_
                refine z_aload_n (pc := 72) hC 2 dX1_giveAtFirst_72 rfl ?_
                refine z_getN (pc := 73) (C := RX0) (T := TX0) (N := 5) hC hinX0 3 rfl rfl 1 (by decide) (by decide +kernel) rfl dX1_giveAtFirst_73 ?_
                refine z_iload_n (pc := 76) hC 0 dX1_giveAtFirst_76 rfl ?_
                refine z_iald (pc := 77) (v := (Aa i)) hC 5 0 rfl rfl (by omega) (by decide) (rfl) dX1_giveAtFirst_77 ?_
                obtain ⟨r9, hr9, er9⟩ := hax i (by omega) h68
                refine z_topi (nI r9) er9 ?_
                refine z_callV_V (pc := 78) (y := yX1_giveOfItself) (wy := wsX1_giveOfItself) (rm := { frames := 2, cells := 0, slots := 0, locals := 49 }) (As := [.int (nI r9)]) (rest := []) (na := 1) (C := RX1) (T := TX1) (NF := 8) (ci := 2) (wc := [(q 6, .inr (2, [.ref (q 7), .ref (q 8), .ref (q 9), .ref (q 10), .int (nI n), .int fc, .int rc, .int v.2.2])), (q 8, .inl (cI, 168, .inl v.1)), (q 9, .inl (cJ, 4032, .inr (.inl v.2.1)))]) (wc2 := [(q 6, .inr (2, [.ref (q 7), .ref (q 8), .ref (q 9), .ref (q 10), .int (nI n), .int fc, .int rc, .int ((gvIt n rc r9 v n).2.2)])), (q 8, .inl (cI, 168, .inl ((gvIt n rc r9 v n).1))), (q 9, .inl (cJ, 4032, .inr (.inl ((gvIt n rc r9 v n).2.1))))]) hC hRm hDis hLis 0 rfl rfl gX1_giveAtFirst_X1_giveOfItself ⟨rfl, by decide +kernel, by decide +kernel⟩ rfl ⟨by decide, by decide⟩ ⟨by decide, by decide⟩ rfl (Nat.le_of_ble_eq_true rfl) (by decide +kernel) (c_X1_giveOfItself _ _ cI cJ cZ (q) (v) (n) (fc) (rc) (r9) (hr9) (hn)) [0, 1, 2] [3, 4, 5] [3, 4, 5, 0, 1, 2] [(q 1, .inr (1, [.ref (q 2), .ref (q 3), .ref (q 4), .ref (q 5), .int (nI cnt)])), (q 2, .inl (cI, 80, .inl Kd)), (q 3, .inl (cI, 80, .inl Aa))] rfl (by decide) rfl (by decide) (by decide) [(q 6, .inr (2, [.ref (q 7), .ref (q 8), .ref (q 9), .ref (q 10), .int (nI n), .int fc, .int rc, .int ((gvIt n rc r9 v n).2.2)])), (q 8, .inl (cI, 168, .inl ((gvIt n rc r9 v n).1))), (q 9, .inl (cJ, 4032, .inr (.inl ((gvIt n rc r9 v n).2.1)))), (q 1, .inr (1, [.ref (q 2), .ref (q 3), .ref (q 4), .ref (q 5), .int (nI cnt)])), (q 2, .inl (cI, 80, .inl Kd)), (q 3, .inl (cI, 80, .inl Aa))] rfl (by decide) rfl dX1_giveAtFirst_78 ?_
                refine z_iinc (pc := 81) (q := 0) (x := (nI i)) (v := (nI (i + 1))) hC hNL [(2, .int (nI (i + 1))), (0, .ref (q 6)), (1, .ref (q 1))] dX1_giveAtFirst_81 rfl (nI_add _ _) (by decide) rfl ?_
                refine z_goto (pc := 84) (tgt := 52) hC dX1_giveAtFirst_84 (by decide) ?_
                exact ih52 (i + 1) (gvIt n rc r9 v n) (by omega) (by omega) (by first | rw [gv7_t h68, er9, tn_nI (by omega), hv] | rw [gv7_f h68, hv])
        exact L52 (cnt + 1) (0) (w) (by omega) (by omega) (by rw [hw, show i = n by omega]; rfl)
      · refine z_aload_n (pc := 10) hC 1 dX1_giveAtFirst_10 rfl ?_
        refine z_iconst (pc := 11) (v := (nI 1)) hC dX1_giveAtFirst_11 (by decide +kernel) ?_
        refine z_iload_n (pc := 12) hC 0 dX1_giveAtFirst_12 rfl ?_
        refine z_ishl (pc := 13) (v := (bitI i)) hC dX1_giveAtFirst_13 (rfl) ?_
        refine z_iload_n (pc := 14) hC 0 dX1_giveAtFirst_14 rfl ?_
        refine z_sipush (pc := 15) (v := (nI 255)) hC dX1_giveAtFirst_15 (by decide +kernel) ?_
        refine z_sipush (pc := 18) (v := (nI 4095)) hC dX1_giveAtFirst_18 (by decide +kernel) ?_
        refine z_sipush (pc := 21) (v := (nI 4095)) hC dX1_giveAtFirst_21 (by decide +kernel) ?_
        refine z_callV_V (pc := 24) (y := yX1_give) (wy := wsX1_give) (rm := { frames := 1, cells := 0, slots := 0, locals := 21 }) (As := [.int (bitI i), .int (nI i), .int (nI 255), .int (nI 4095), .int (nI 4095)]) (rest := []) (na := 5) (C := RX1) (T := TX1) (NF := 8) (ci := 2) (wc := [(q 6, .inr (2, [.ref (q 7), .ref (q 8), .ref (q 9), .ref (q 10), .int (nI n), .int fc, .int rc, .int w.2.2])), (q 8, .inl (cI, 168, .inl w.1)), (q 9, .inl (cJ, 4032, .inr (.inl w.2.1)))]) (wc2 := [(q 6, .inr (2, [.ref (q 7), .ref (q 8), .ref (q 9), .ref (q 10), .int (nI n), .int fc, .int rc, .int ((gv n rc (bitI i) i (nI 255) (nI 4095) (nI 4095) w).2.2)])), (q 8, .inl (cI, 168, .inl ((gv n rc (bitI i) i (nI 255) (nI 4095) (nI 4095) w).1))), (q 9, .inl (cJ, 4032, .inr (.inl ((gv n rc (bitI i) i (nI 255) (nI 4095) (nI 4095) w).2.1))))]) hC hRm hDis hLis 0 rfl rfl gX1_giveAtFirst_X1_give ⟨rfl, by decide +kernel, by decide +kernel⟩ rfl ⟨by decide, by decide⟩ ⟨by decide, by decide⟩ rfl (Nat.le_of_ble_eq_true rfl) (by decide +kernel) (c_X1_give _ _ cI cJ cZ (q) (w) (n) (fc) (rc) (bitI i) (i) (nI 255) (nI 4095) (nI 4095) (by omega) (hn)) [0, 1, 2] [3, 4, 5] [3, 4, 5, 0, 1, 2] [(q 1, .inr (1, [.ref (q 2), .ref (q 3), .ref (q 4), .ref (q 5), .int (nI cnt)])), (q 2, .inl (cI, 80, .inl Kd)), (q 3, .inl (cI, 80, .inl Aa))] rfl (by decide) rfl (by decide) (by decide) [(q 6, .inr (2, [.ref (q 7), .ref (q 8), .ref (q 9), .ref (q 10), .int (nI n), .int fc, .int rc, .int ((gv n rc (bitI i) i (nI 255) (nI 4095) (nI 4095) w).2.2)])), (q 8, .inl (cI, 168, .inl ((gv n rc (bitI i) i (nI 255) (nI 4095) (nI 4095) w).1))), (q 9, .inl (cJ, 4032, .inr (.inl ((gv n rc (bitI i) i (nI 255) (nI 4095) (nI 4095) w).2.1)))), (q 1, .inr (1, [.ref (q 2), .ref (q 3), .ref (q 4), .ref (q 5), .int (nI cnt)])), (q 2, .inl (cI, 80, .inl Kd)), (q 3, .inl (cI, 80, .inl Aa))] rfl (by decide) rfl dX1_giveAtFirst_24 ?_
        refine z_aload_n (pc := 27) hC 1 dX1_giveAtFirst_27 rfl ?_
        refine z_iconst (pc := 28) (v := (nI 1)) hC dX1_giveAtFirst_28 (by decide +kernel) ?_
        refine z_iload_n (pc := 29) hC 0 dX1_giveAtFirst_29 rfl ?_
        refine z_ishl (pc := 30) (v := (bitI i)) hC dX1_giveAtFirst_30 (rfl) ?_
        refine z_iconst (pc := 31) (v := (nI 0)) hC dX1_giveAtFirst_31 (by decide +kernel) ?_
        refine z_sipush (pc := 32) (v := (nI 255)) hC dX1_giveAtFirst_32 (by decide +kernel) ?_
        refine z_sipush (pc := 35) (v := (nI 4095)) hC dX1_giveAtFirst_35 (by decide +kernel) ?_
        refine z_sipush (pc := 38) (v := (nI 4095)) hC dX1_giveAtFirst_38 (by decide +kernel) ?_
        refine z_callV_V (pc := 41) (y := yX1_give) (wy := wsX1_give) (rm := { frames := 1, cells := 0, slots := 0, locals := 21 }) (As := [.int (bitI i), .int (nI 0), .int (nI 255), .int (nI 4095), .int (nI 4095)]) (rest := []) (na := 5) (C := RX1) (T := TX1) (NF := 8) (ci := 2) (wc := [(q 6, .inr (2, [.ref (q 7), .ref (q 8), .ref (q 9), .ref (q 10), .int (nI n), .int fc, .int rc, .int ((gv n rc (bitI i) i (nI 255) (nI 4095) (nI 4095) w).2.2)])), (q 8, .inl (cI, 168, .inl ((gv n rc (bitI i) i (nI 255) (nI 4095) (nI 4095) w).1))), (q 9, .inl (cJ, 4032, .inr (.inl ((gv n rc (bitI i) i (nI 255) (nI 4095) (nI 4095) w).2.1))))]) (wc2 := [(q 6, .inr (2, [.ref (q 7), .ref (q 8), .ref (q 9), .ref (q 10), .int (nI n), .int fc, .int rc, .int ((gv n rc (bitI i) 0 (nI 255) (nI 4095) (nI 4095) (gv n rc (bitI i) i (nI 255) (nI 4095) (nI 4095) w)).2.2)])), (q 8, .inl (cI, 168, .inl ((gv n rc (bitI i) 0 (nI 255) (nI 4095) (nI 4095) (gv n rc (bitI i) i (nI 255) (nI 4095) (nI 4095) w)).1))), (q 9, .inl (cJ, 4032, .inr (.inl ((gv n rc (bitI i) 0 (nI 255) (nI 4095) (nI 4095) (gv n rc (bitI i) i (nI 255) (nI 4095) (nI 4095) w)).2.1))))]) hC hRm hDis hLis 0 rfl rfl gX1_giveAtFirst_X1_give ⟨rfl, by decide +kernel, by decide +kernel⟩ rfl ⟨by decide, by decide⟩ ⟨by decide, by decide⟩ rfl (Nat.le_of_ble_eq_true rfl) (by decide +kernel) (c_X1_give _ _ cI cJ cZ (q) (gv n rc (bitI i) i (nI 255) (nI 4095) (nI 4095) w) (n) (fc) (rc) (bitI i) (0) (nI 255) (nI 4095) (nI 4095) (by decide) (hn)) [0, 1, 2] [3, 4, 5] [3, 4, 5, 0, 1, 2] [(q 1, .inr (1, [.ref (q 2), .ref (q 3), .ref (q 4), .ref (q 5), .int (nI cnt)])), (q 2, .inl (cI, 80, .inl Kd)), (q 3, .inl (cI, 80, .inl Aa))] rfl (by decide) rfl (by decide) (by decide) [(q 6, .inr (2, [.ref (q 7), .ref (q 8), .ref (q 9), .ref (q 10), .int (nI n), .int fc, .int rc, .int ((gv n rc (bitI i) 0 (nI 255) (nI 4095) (nI 4095) (gv n rc (bitI i) i (nI 255) (nI 4095) (nI 4095) w)).2.2)])), (q 8, .inl (cI, 168, .inl ((gv n rc (bitI i) 0 (nI 255) (nI 4095) (nI 4095) (gv n rc (bitI i) i (nI 255) (nI 4095) (nI 4095) w)).1))), (q 9, .inl (cJ, 4032, .inr (.inl ((gv n rc (bitI i) 0 (nI 255) (nI 4095) (nI 4095) (gv n rc (bitI i) i (nI 255) (nI 4095) (nI 4095) w)).2.1)))), (q 1, .inr (1, [.ref (q 2), .ref (q 3), .ref (q 4), .ref (q 5), .int (nI cnt)])), (q 2, .inl (cI, 80, .inl Kd)), (q 3, .inl (cI, 80, .inl Aa))] rfl (by decide) rfl dX1_giveAtFirst_41 ?_
        refine z_iinc (pc := 44) (q := 0) (x := (nI i)) (v := (nI (i + 1))) hC hNL [(2, .int (nI (i + 1))), (0, .ref (q 6)), (1, .ref (q 1))] dX1_giveAtFirst_44 rfl (nI_add _ _) (by decide) rfl ?_
        refine z_goto (pc := 47) (tgt := 2) hC dX1_giveAtFirst_47 (by decide) ?_
        exact ih2 (i + 1) (gv n rc (bitI i) 0 (nI 255) (nI 4095) (nI 4095) (gv n rc (bitI i) i (nI 255) (nI 4095) (nI 4095) w)) (by omega) (by omega) (by rw [hw]; rfl)
  exact L2 (n + 1) (0) (u) (by omega) (by omega) (rfl)

def byAx (n : Nat) (rc : Int32) (B : Nat → Int32) (k : Nat) (kd : Int32) (a b c : Nat) (u : GS) : GS :=
  if kd = nI 1 then gv n rc (B a) b (nI k) (nI a) (nI 4095) u
  else if kd = nI 2 then gvBoth n rc B (nI k) a b c u
  else if kd = nI 3 then gv n rc (B a) (lcol b c) (nI k) (nI a) (nI 4095) u
  else if kd = nI 4 then gvWh n rc B (nI k) a b c u n
  else if kd = nI 5 then gvRo n rc B (nI k) a b u n
  else if kd = nI 6 then gvC n rc B (nI k) a b c u n
  else u
section BYAX
variable {n : Nat} {rc : Int32} {B : Nat → Int32} {k : Nat} {kd : Int32} {a b c : Nat} {u : GS}
theorem byAx_1 (h : kd = nI 1) : byAx n rc B k kd a b c u = gv n rc (B a) b (nI k) (nI a) (nI 4095) u := if_pos h
theorem byAx_2 (h : kd = nI 2) : byAx n rc B k kd a b c u = gvBoth n rc B (nI k) a b c u := by subst h; rfl
theorem byAx_3 (h : kd = nI 3) : byAx n rc B k kd a b c u = gv n rc (B a) (lcol b c) (nI k) (nI a) (nI 4095) u := by subst h; rfl
theorem byAx_4 (h : kd = nI 4) : byAx n rc B k kd a b c u = gvWh n rc B (nI k) a b c u n := by subst h; rfl
theorem byAx_5 (h : kd = nI 5) : byAx n rc B k kd a b c u = gvRo n rc B (nI k) a b u n := by subst h; rfl
theorem byAx_6 (h : kd = nI 6) : byAx n rc B k kd a b c u = gvC n rc B (nI k) a b c u n := by subst h; rfl
theorem byAx_n (h1 : ¬ kd = nI 1) (h2 : ¬ kd = nI 2) (h3 : ¬ kd = nI 3) (h4 : ¬ kd = nI 4) (h5 : ¬ kd = nI 5) (h6 : ¬ kd = nI 6) : byAx n rc B k kd a b c u = u := by
  unfold byAx
  rw [if_neg h1, if_neg h2, if_neg h3, if_neg h4, if_neg h5, if_neg h6]
end BYAX

set_option maxRecDepth 100000 in
set_option maxHeartbeats 4000000 in
theorem c_X1_giveByAxiom (l : Launch) (D : va_G) (cI cJ cZ : ClassId) (q : Nat → Nat) (B : Nat → Int32) (u : GS) (n : Nat) (fc : Int32) (rc : Int32) (Kd : Nat → Int32) (Aa : Nat → Int32) (Ab : Nat → Int32) (Ac : Nat → Int32) (cnt : Nat) (k : Nat) (hn : n ≤ 24) (hk : k < 80) (hax : axV n (Kd k) (Aa k) (Ab k) (Ac k)) : MV l yX1_giveByAxiom wsX1_giveByAxiom { frames := 3, cells := 0, slots := 0, locals := 78 } D (tyL cI cJ cZ) [.ref (q 6), .ref (q 1), .int (nI k)] [(q 6, .inr (2, [.ref (q 7), .ref (q 8), .ref (q 9), .ref (q 10), .int (nI n), .int fc, .int rc, .int u.2.2])), (q 7, .inl (cI, 168, .inl B)), (q 8, .inl (cI, 168, .inl u.1)), (q 9, .inl (cJ, 4032, .inr (.inl u.2.1))), (q 1, .inr (1, [.ref (q 2), .ref (q 3), .ref (q 4), .ref (q 5), .int (nI cnt)])), (q 2, .inl (cI, 80, .inl Kd)), (q 3, .inl (cI, 80, .inl Aa)), (q 4, .inl (cI, 80, .inl Ab)), (q 5, .inl (cI, 80, .inl Ac))] [(q 6, .inr (2, [.ref (q 7), .ref (q 8), .ref (q 9), .ref (q 10), .int (nI n), .int fc, .int rc, .int ((byAx n rc B k (Kd k) (tn (Aa k)) (tn (Ab k)) (tn (Ac k)) u).2.2)])), (q 7, .inl (cI, 168, .inl B)), (q 8, .inl (cI, 168, .inl ((byAx n rc B k (Kd k) (tn (Aa k)) (tn (Ab k)) (tn (Ac k)) u).1))), (q 9, .inl (cJ, 4032, .inr (.inl ((byAx n rc B k (Kd k) (tn (Aa k)) (tn (Ab k)) (tn (Ac k)) u).2.1)))), (q 1, .inr (1, [.ref (q 2), .ref (q 3), .ref (q 4), .ref (q 5), .int (nI cnt)])), (q 2, .inl (cI, 80, .inl Kd)), (q 3, .inl (cI, 80, .inl Aa)), (q 4, .inl (cI, 80, .inl Ab)), (q 5, .inl (cI, 80, .inl Ac))] := by
  refine metV_of (cc := cX1_giveByAxiom) (maxL := 6) (ret := none) (by decide +kernel) rfl (Nat.le_of_ble_eq_true rfl) ?_
  intro K hC hRm hNL hDis hLis hRT hIni hQ
  have hinX0 : ∀ w ∈ wsX00, w ∈ wsX1_giveByAxiom := by decide +kernel
  have hinX1 : ∀ w ∈ wsX10, w ∈ wsX1_giveByAxiom := by decide +kernel
  refine z_aload_n (pc := 0) hC 1 dX1_giveByAxiom_0 rfl ?_
  refine z_getN (pc := 1) (C := RX0) (T := TX0) (N := 5) hC hinX0 4 rfl rfl 1 (by decide) (by decide +kernel) rfl dX1_giveByAxiom_1 ?_
  refine z_iload_n (pc := 4) hC 2 dX1_giveByAxiom_4 rfl ?_
  refine z_iald (pc := 5) (v := (Aa k)) hC 6 0 rfl rfl (by omega) (by decide) (rfl) dX1_giveByAxiom_5 ?_
  refine z_istore_n (pc := 6) hC hNL [(3, .int (Aa k)), (0, .ref (q 6)), (1, .ref (q 1)), (2, .int (nI k))] dX1_giveByAxiom_6 (by decide) rfl ?_
  refine z_aload_n (pc := 7) hC 2 dX1_giveByAxiom_7 rfl ?_
  refine z_getN (pc := 8) (C := RX0) (T := TX0) (N := 5) hC hinX0 4 rfl rfl 2 (by decide) (by decide +kernel) rfl dX1_giveByAxiom_8 ?_
  refine z_iload_n (pc := 11) hC 3 dX1_giveByAxiom_11 rfl ?_
  refine z_iald (pc := 12) (v := (Ab k)) hC 7 0 rfl rfl (by omega) (by decide) (rfl) dX1_giveByAxiom_12 ?_
  refine z_istore (pc := 13) hC hNL [(4, .int (Ab k)), (3, .int (Aa k)), (0, .ref (q 6)), (1, .ref (q 1)), (2, .int (nI k))] dX1_giveByAxiom_13 (by decide) rfl ?_
  refine z_aload_n (pc := 15) hC 3 dX1_giveByAxiom_15 rfl ?_
  refine z_getN (pc := 16) (C := RX0) (T := TX0) (N := 5) hC hinX0 4 rfl rfl 3 (by decide) (by decide +kernel) rfl dX1_giveByAxiom_16 ?_
  refine z_iload_n (pc := 19) hC 4 dX1_giveByAxiom_19 rfl ?_
  refine z_iald (pc := 20) (v := (Ac k)) hC 8 0 rfl rfl (by omega) (by decide) (rfl) dX1_giveByAxiom_20 ?_
  refine z_istore (pc := 21) hC hNL [(5, .int (Ac k)), (4, .int (Ab k)), (3, .int (Aa k)), (0, .ref (q 6)), (1, .ref (q 1)), (2, .int (nI k))] dX1_giveByAxiom_21 (by decide) rfl ?_
  refine z_aload_n (pc := 23) hC 4 dX1_giveByAxiom_23 rfl ?_
  refine z_getN (pc := 24) (C := RX0) (T := TX0) (N := 5) hC hinX0 4 rfl rfl 0 (by decide) (by decide +kernel) rfl dX1_giveByAxiom_24 ?_
  refine z_iload_n (pc := 27) hC 5 dX1_giveByAxiom_27 rfl ?_
  refine z_iald (pc := 28) (v := (Kd k)) hC 5 0 rfl rfl (by omega) (by decide) (rfl) dX1_giveByAxiom_28 ?_
  by_cases e29_1 : (Kd k) = nI 1
  · refine z_tableIn (pc := 29) (x := (Kd k)) (off := 39) (tgt := 68) hC dX1_giveByAxiom_29 (by rw [e29_1]; decide +kernel) (by rw [e29_1]; decide +kernel) (by rw [e29_1]; decide +kernel) (by decide) ?_
    obtain ⟨⟨ja, hja, ea⟩, jb, hjb, eb⟩ := hax.1 e29_1
    refine z_lveq [(5, .int (Ac k)), (4, .int (nI jb)), (3, .int (nI ja)), (0, .ref (q 6)), (1, .ref (q 1)), (2, .int (nI k))] (by rw [ea, eb]) ?_
    refine z_aload_n (pc := 68) hC 3 dX1_giveByAxiom_68 rfl ?_
    refine z_aload_n (pc := 69) hC 3 dX1_giveByAxiom_69 rfl ?_
    refine z_get (pc := 70) (C := RX1) (T := TX1) (N := 8) hC hinX1 0 rfl rfl 0 (by decide) (by decide +kernel) rfl dX1_giveByAxiom_70 ?_
    refine z_iload_n (pc := 73) hC 2 dX1_giveByAxiom_73 rfl ?_
    refine z_iald (pc := 74) (v := (B ja)) hC 1 0 rfl rfl (by omega) (by decide) (rfl) dX1_giveByAxiom_74 ?_
    refine z_iload (pc := 75) hC 1 dX1_giveByAxiom_75 rfl ?_
    refine z_iload_n (pc := 77) hC 5 dX1_giveByAxiom_77 rfl ?_
    refine z_iload_n (pc := 78) hC 2 dX1_giveByAxiom_78 rfl ?_
    refine z_sipush (pc := 79) (v := (nI 4095)) hC dX1_giveByAxiom_79 (by decide +kernel) ?_
    refine z_callV_V (pc := 82) (y := yX1_give) (wy := wsX1_give) (rm := { frames := 1, cells := 0, slots := 0, locals := 21 }) (As := [.int (B ja), .int (nI jb), .int (nI k), .int (nI ja), .int (nI 4095)]) (rest := []) (na := 5) (C := RX1) (T := TX1) (NF := 8) (ci := 2) (wc := [(q 6, .inr (2, [.ref (q 7), .ref (q 8), .ref (q 9), .ref (q 10), .int (nI n), .int fc, .int rc, .int u.2.2])), (q 8, .inl (cI, 168, .inl u.1)), (q 9, .inl (cJ, 4032, .inr (.inl u.2.1)))]) (wc2 := [(q 6, .inr (2, [.ref (q 7), .ref (q 8), .ref (q 9), .ref (q 10), .int (nI n), .int fc, .int rc, .int ((gv n rc (B ja) jb (nI k) (nI ja) (nI 4095) u).2.2)])), (q 8, .inl (cI, 168, .inl ((gv n rc (B ja) jb (nI k) (nI ja) (nI 4095) u).1))), (q 9, .inl (cJ, 4032, .inr (.inl ((gv n rc (B ja) jb (nI k) (nI ja) (nI 4095) u).2.1))))]) hC hRm hDis hLis 0 rfl rfl gX1_giveByAxiom_X1_give ⟨rfl, by decide +kernel, by decide +kernel⟩ rfl ⟨by decide, by decide⟩ ⟨by decide, by decide⟩ rfl (Nat.le_of_ble_eq_true rfl) (by decide +kernel) (c_X1_give _ _ cI cJ cZ (q) (u) (n) (fc) (rc) (B ja) (jb) (nI k) (nI ja) (nI 4095) (by omega) (hn)) [0, 2, 3] [1, 4, 5, 6, 7, 8] [6, 0, 7, 8, 1, 2, 3, 4, 5] [(q 7, .inl (cI, 168, .inl B)), (q 1, .inr (1, [.ref (q 2), .ref (q 3), .ref (q 4), .ref (q 5), .int (nI cnt)])), (q 2, .inl (cI, 80, .inl Kd)), (q 3, .inl (cI, 80, .inl Aa)), (q 4, .inl (cI, 80, .inl Ab)), (q 5, .inl (cI, 80, .inl Ac))] rfl (by decide) rfl (by decide) (by decide) [(q 6, .inr (2, [.ref (q 7), .ref (q 8), .ref (q 9), .ref (q 10), .int (nI n), .int fc, .int rc, .int ((gv n rc (B ja) jb (nI k) (nI ja) (nI 4095) u).2.2)])), (q 7, .inl (cI, 168, .inl B)), (q 8, .inl (cI, 168, .inl ((gv n rc (B ja) jb (nI k) (nI ja) (nI 4095) u).1))), (q 9, .inl (cJ, 4032, .inr (.inl ((gv n rc (B ja) jb (nI k) (nI ja) (nI 4095) u).2.1)))), (q 1, .inr (1, [.ref (q 2), .ref (q 3), .ref (q 4), .ref (q 5), .int (nI cnt)])), (q 2, .inl (cI, 80, .inl Kd)), (q 3, .inl (cI, 80, .inl Aa)), (q 4, .inl (cI, 80, .inl Ab)), (q 5, .inl (cI, 80, .inl Ac))] rfl (by decide) rfl dX1_giveByAxiom_82 ?_
    refine z_goto (pc := 85) (tgt := 163) hC dX1_giveByAxiom_85 (by decide) ?_
    exact z_vret (pc := 163) hC hQ hRT (by
    first
    | rw [byAx_1 e29_1, ea, eb, tn_nI (by omega), tn_nI (by omega)]
    | rw [byAx_2 e29_2, ea, eb, ec, tn_nI (by omega), tn_nI (by omega), tn_nI (by omega)]
    | rw [byAx_3 e29_3, ea, eb, ec, tn_nI (by omega), tn_nI (by omega), tn_nI (by omega)]
    | rw [byAx_4 e29_4, ea, eb, ec, tn_nI (by omega), tn_nI (by omega), tn_nI (by omega)]
    | rw [byAx_5 e29_5, ea, eb, tn_nI (by omega), tn_nI (by omega)]
    | rw [byAx_6 e29_6, ea, eb, ec, tn_nI (by omega), tn_nI (by omega), tn_nI (by omega)]
    | rw [byAx_n e29_1 e29_2 e29_3 e29_4 e29_5 e29_6]) dX1_giveByAxiom_163
  by_cases e29_2 : (Kd k) = nI 2
  · refine z_tableIn (pc := 29) (x := (Kd k)) (off := 59) (tgt := 88) hC dX1_giveByAxiom_29 (by rw [e29_2]; decide +kernel) (by rw [e29_2]; decide +kernel) (by rw [e29_2]; decide +kernel) (by decide) ?_
    obtain ⟨⟨ja, hja, ea⟩, ⟨jb, hjb, eb⟩, jc, hjc, ec⟩ := hax.2.1 e29_2
    refine z_lveq [(5, .int (nI jc)), (4, .int (nI jb)), (3, .int (nI ja)), (0, .ref (q 6)), (1, .ref (q 1)), (2, .int (nI k))] (by rw [ea, eb, ec]) ?_
    refine z_aload_n (pc := 88) hC 3 dX1_giveByAxiom_88 rfl ?_
    refine z_iload_n (pc := 89) hC 5 dX1_giveByAxiom_89 rfl ?_
    refine z_iload_n (pc := 90) hC 2 dX1_giveByAxiom_90 rfl ?_
    refine z_iload (pc := 91) hC 1 dX1_giveByAxiom_91 rfl ?_
    refine z_iload (pc := 93) hC 0 dX1_giveByAxiom_93 rfl ?_
    refine z_callV_V (pc := 95) (y := yX1_giveToBoth) (wy := wsX1_giveToBoth) (rm := { frames := 2, cells := 0, slots := 0, locals := 49 }) (As := [.int (nI k), .int (nI ja), .int (nI jb), .int (nI jc)]) (rest := []) (na := 4) (C := RX1) (T := TX1) (NF := 8) (ci := 2) (wc := [(q 6, .inr (2, [.ref (q 7), .ref (q 8), .ref (q 9), .ref (q 10), .int (nI n), .int fc, .int rc, .int u.2.2])), (q 7, .inl (cI, 168, .inl B)), (q 8, .inl (cI, 168, .inl u.1)), (q 9, .inl (cJ, 4032, .inr (.inl u.2.1)))]) (wc2 := [(q 6, .inr (2, [.ref (q 7), .ref (q 8), .ref (q 9), .ref (q 10), .int (nI n), .int fc, .int rc, .int ((gvBoth n rc B (nI k) ja jb jc u).2.2)])), (q 7, .inl (cI, 168, .inl B)), (q 8, .inl (cI, 168, .inl ((gvBoth n rc B (nI k) ja jb jc u).1))), (q 9, .inl (cJ, 4032, .inr (.inl ((gvBoth n rc B (nI k) ja jb jc u).2.1))))]) hC hRm hDis hLis 0 rfl rfl gX1_giveByAxiom_X1_giveToBoth ⟨rfl, by decide +kernel, by decide +kernel⟩ rfl ⟨by decide, by decide⟩ ⟨by decide, by decide⟩ rfl (Nat.le_of_ble_eq_true rfl) (by decide +kernel) (c_X1_giveToBoth _ _ cI cJ cZ (q) (B) (u) (n) (fc) (rc) (nI k) (ja) (jb) (jc) (by omega) (by omega) (by omega) (by omega)) [0, 1, 2, 3] [4, 5, 6, 7, 8] [5, 6, 7, 8, 0, 1, 2, 3, 4] [(q 1, .inr (1, [.ref (q 2), .ref (q 3), .ref (q 4), .ref (q 5), .int (nI cnt)])), (q 2, .inl (cI, 80, .inl Kd)), (q 3, .inl (cI, 80, .inl Aa)), (q 4, .inl (cI, 80, .inl Ab)), (q 5, .inl (cI, 80, .inl Ac))] rfl (by decide) rfl (by decide) (by decide) [(q 6, .inr (2, [.ref (q 7), .ref (q 8), .ref (q 9), .ref (q 10), .int (nI n), .int fc, .int rc, .int ((gvBoth n rc B (nI k) ja jb jc u).2.2)])), (q 7, .inl (cI, 168, .inl B)), (q 8, .inl (cI, 168, .inl ((gvBoth n rc B (nI k) ja jb jc u).1))), (q 9, .inl (cJ, 4032, .inr (.inl ((gvBoth n rc B (nI k) ja jb jc u).2.1)))), (q 1, .inr (1, [.ref (q 2), .ref (q 3), .ref (q 4), .ref (q 5), .int (nI cnt)])), (q 2, .inl (cI, 80, .inl Kd)), (q 3, .inl (cI, 80, .inl Aa)), (q 4, .inl (cI, 80, .inl Ab)), (q 5, .inl (cI, 80, .inl Ac))] rfl (by decide) rfl dX1_giveByAxiom_95 ?_
    refine z_goto (pc := 98) (tgt := 163) hC dX1_giveByAxiom_98 (by decide) ?_
    exact z_vret (pc := 163) hC hQ hRT (by
    first
    | rw [byAx_1 e29_1, ea, eb, tn_nI (by omega), tn_nI (by omega)]
    | rw [byAx_2 e29_2, ea, eb, ec, tn_nI (by omega), tn_nI (by omega), tn_nI (by omega)]
    | rw [byAx_3 e29_3, ea, eb, ec, tn_nI (by omega), tn_nI (by omega), tn_nI (by omega)]
    | rw [byAx_4 e29_4, ea, eb, ec, tn_nI (by omega), tn_nI (by omega), tn_nI (by omega)]
    | rw [byAx_5 e29_5, ea, eb, tn_nI (by omega), tn_nI (by omega)]
    | rw [byAx_6 e29_6, ea, eb, ec, tn_nI (by omega), tn_nI (by omega), tn_nI (by omega)]
    | rw [byAx_n e29_1 e29_2 e29_3 e29_4 e29_5 e29_6]) dX1_giveByAxiom_163
  by_cases e29_3 : (Kd k) = nI 3
  · refine z_tableIn (pc := 29) (x := (Kd k)) (off := 72) (tgt := 101) hC dX1_giveByAxiom_29 (by rw [e29_3]; decide +kernel) (by rw [e29_3]; decide +kernel) (by rw [e29_3]; decide +kernel) (by decide) ?_
    obtain ⟨⟨ja, hja, ea⟩, ⟨jb, hjb, eb⟩, jc, hjc, ec⟩ := hax.2.2.1 e29_3
    refine z_lveq [(5, .int (nI jc)), (4, .int (nI jb)), (3, .int (nI ja)), (0, .ref (q 6)), (1, .ref (q 1)), (2, .int (nI k))] (by rw [ea, eb, ec]) ?_
    refine z_aload_n (pc := 101) hC 3 dX1_giveByAxiom_101 rfl ?_
    refine z_aload_n (pc := 102) hC 3 dX1_giveByAxiom_102 rfl ?_
    refine z_get (pc := 103) (C := RX1) (T := TX1) (N := 8) hC hinX1 0 rfl rfl 0 (by decide) (by decide +kernel) rfl dX1_giveByAxiom_103 ?_
    refine z_iload_n (pc := 106) hC 2 dX1_giveByAxiom_106 rfl ?_
    refine z_iald (pc := 107) (v := (B ja)) hC 1 0 rfl rfl (by omega) (by decide) (rfl) dX1_giveByAxiom_107 ?_
    refine z_iload (pc := 108) hC 1 dX1_giveByAxiom_108 rfl ?_
    refine z_iload (pc := 110) hC 0 dX1_giveByAxiom_110 rfl ?_
    refine z_callSN_I (pc := 112) (y := yX3_linkColumn) (wy := wsX3_linkColumn) (rm := { frames := 0, cells := 0, slots := 0, locals := 0 }) (As := [.int (nI jb), .int (nI jc)]) (rest := [.int (B ja), .ref (q 6)]) (na := 2)  (wc := []) (wc2 := []) hC hRm hDis hLis gX1_giveByAxiom_X3_linkColumn_n92 (by decide +kernel) (by decide +kernel) (by decide +kernel) ⟨by decide +kernel, by decide +kernel⟩ rfl ⟨by decide, by decide⟩ ⟨by decide, by decide⟩ rfl (Nat.le_of_ble_eq_true rfl) (by decide +kernel) (c_X3_linkColumnN _ _ cI cJ cZ (jb) (jc) ) [] [0, 1, 2, 3, 4, 5, 6, 7, 8] [0, 1, 2, 3, 4, 5, 6, 7, 8] [(q 6, .inr (2, [.ref (q 7), .ref (q 8), .ref (q 9), .ref (q 10), .int (nI n), .int fc, .int rc, .int u.2.2])), (q 7, .inl (cI, 168, .inl B)), (q 8, .inl (cI, 168, .inl u.1)), (q 9, .inl (cJ, 4032, .inr (.inl u.2.1))), (q 1, .inr (1, [.ref (q 2), .ref (q 3), .ref (q 4), .ref (q 5), .int (nI cnt)])), (q 2, .inl (cI, 80, .inl Kd)), (q 3, .inl (cI, 80, .inl Aa)), (q 4, .inl (cI, 80, .inl Ab)), (q 5, .inl (cI, 80, .inl Ac))] rfl (by decide) rfl (by decide) (by decide) [(q 6, .inr (2, [.ref (q 7), .ref (q 8), .ref (q 9), .ref (q 10), .int (nI n), .int fc, .int rc, .int u.2.2])), (q 7, .inl (cI, 168, .inl B)), (q 8, .inl (cI, 168, .inl u.1)), (q 9, .inl (cJ, 4032, .inr (.inl u.2.1))), (q 1, .inr (1, [.ref (q 2), .ref (q 3), .ref (q 4), .ref (q 5), .int (nI cnt)])), (q 2, .inl (cI, 80, .inl Kd)), (q 3, .inl (cI, 80, .inl Aa)), (q 4, .inl (cI, 80, .inl Ab)), (q 5, .inl (cI, 80, .inl Ac))] rfl (by decide) rfl dX1_giveByAxiom_112 ?_
    refine z_iload_n (pc := 115) hC 5 dX1_giveByAxiom_115 rfl ?_
    refine z_iload_n (pc := 116) hC 2 dX1_giveByAxiom_116 rfl ?_
    refine z_sipush (pc := 117) (v := (nI 4095)) hC dX1_giveByAxiom_117 (by decide +kernel) ?_
    refine z_callV_V (pc := 120) (y := yX1_give) (wy := wsX1_give) (rm := { frames := 1, cells := 0, slots := 0, locals := 21 }) (As := [.int (B ja), .int (nI (lcol jb jc)), .int (nI k), .int (nI ja), .int (nI 4095)]) (rest := []) (na := 5) (C := RX1) (T := TX1) (NF := 8) (ci := 2) (wc := [(q 6, .inr (2, [.ref (q 7), .ref (q 8), .ref (q 9), .ref (q 10), .int (nI n), .int fc, .int rc, .int u.2.2])), (q 8, .inl (cI, 168, .inl u.1)), (q 9, .inl (cJ, 4032, .inr (.inl u.2.1)))]) (wc2 := [(q 6, .inr (2, [.ref (q 7), .ref (q 8), .ref (q 9), .ref (q 10), .int (nI n), .int fc, .int rc, .int ((gv n rc (B ja) (lcol jb jc) (nI k) (nI ja) (nI 4095) u).2.2)])), (q 8, .inl (cI, 168, .inl ((gv n rc (B ja) (lcol jb jc) (nI k) (nI ja) (nI 4095) u).1))), (q 9, .inl (cJ, 4032, .inr (.inl ((gv n rc (B ja) (lcol jb jc) (nI k) (nI ja) (nI 4095) u).2.1))))]) hC hRm hDis hLis 0 rfl rfl gX1_giveByAxiom_X1_give ⟨rfl, by decide +kernel, by decide +kernel⟩ rfl ⟨by decide, by decide⟩ ⟨by decide, by decide⟩ rfl (Nat.le_of_ble_eq_true rfl) (by decide +kernel) (c_X1_give _ _ cI cJ cZ (q) (u) (n) (fc) (rc) (B ja) (lcol jb jc) (nI k) (nI ja) (nI 4095) (lcol_lt (by omega) (by omega)) (hn)) [0, 2, 3] [1, 4, 5, 6, 7, 8] [6, 0, 7, 8, 1, 2, 3, 4, 5] [(q 7, .inl (cI, 168, .inl B)), (q 1, .inr (1, [.ref (q 2), .ref (q 3), .ref (q 4), .ref (q 5), .int (nI cnt)])), (q 2, .inl (cI, 80, .inl Kd)), (q 3, .inl (cI, 80, .inl Aa)), (q 4, .inl (cI, 80, .inl Ab)), (q 5, .inl (cI, 80, .inl Ac))] rfl (by decide) rfl (by decide) (by decide) [(q 6, .inr (2, [.ref (q 7), .ref (q 8), .ref (q 9), .ref (q 10), .int (nI n), .int fc, .int rc, .int ((gv n rc (B ja) (lcol jb jc) (nI k) (nI ja) (nI 4095) u).2.2)])), (q 7, .inl (cI, 168, .inl B)), (q 8, .inl (cI, 168, .inl ((gv n rc (B ja) (lcol jb jc) (nI k) (nI ja) (nI 4095) u).1))), (q 9, .inl (cJ, 4032, .inr (.inl ((gv n rc (B ja) (lcol jb jc) (nI k) (nI ja) (nI 4095) u).2.1)))), (q 1, .inr (1, [.ref (q 2), .ref (q 3), .ref (q 4), .ref (q 5), .int (nI cnt)])), (q 2, .inl (cI, 80, .inl Kd)), (q 3, .inl (cI, 80, .inl Aa)), (q 4, .inl (cI, 80, .inl Ab)), (q 5, .inl (cI, 80, .inl Ac))] rfl (by decide) rfl dX1_giveByAxiom_120 ?_
    refine z_goto (pc := 123) (tgt := 163) hC dX1_giveByAxiom_123 (by decide) ?_
    exact z_vret (pc := 163) hC hQ hRT (by
    first
    | rw [byAx_1 e29_1, ea, eb, tn_nI (by omega), tn_nI (by omega)]
    | rw [byAx_2 e29_2, ea, eb, ec, tn_nI (by omega), tn_nI (by omega), tn_nI (by omega)]
    | rw [byAx_3 e29_3, ea, eb, ec, tn_nI (by omega), tn_nI (by omega), tn_nI (by omega)]
    | rw [byAx_4 e29_4, ea, eb, ec, tn_nI (by omega), tn_nI (by omega), tn_nI (by omega)]
    | rw [byAx_5 e29_5, ea, eb, tn_nI (by omega), tn_nI (by omega)]
    | rw [byAx_6 e29_6, ea, eb, ec, tn_nI (by omega), tn_nI (by omega), tn_nI (by omega)]
    | rw [byAx_n e29_1 e29_2 e29_3 e29_4 e29_5 e29_6]) dX1_giveByAxiom_163
  by_cases e29_4 : (Kd k) = nI 4
  · refine z_tableIn (pc := 29) (x := (Kd k)) (off := 97) (tgt := 126) hC dX1_giveByAxiom_29 (by rw [e29_4]; decide +kernel) (by rw [e29_4]; decide +kernel) (by rw [e29_4]; decide +kernel) (by decide) ?_
    obtain ⟨⟨ja, hja, ea⟩, ⟨jb, hjb, eb⟩, jc, hjc, ec⟩ := hax.2.2.2.1 e29_4
    refine z_lveq [(5, .int (nI jc)), (4, .int (nI jb)), (3, .int (nI ja)), (0, .ref (q 6)), (1, .ref (q 1)), (2, .int (nI k))] (by rw [ea, eb, ec]) ?_
    refine z_aload_n (pc := 126) hC 3 dX1_giveByAxiom_126 rfl ?_
    refine z_iload_n (pc := 127) hC 5 dX1_giveByAxiom_127 rfl ?_
    refine z_iload_n (pc := 128) hC 2 dX1_giveByAxiom_128 rfl ?_
    refine z_iload (pc := 129) hC 1 dX1_giveByAxiom_129 rfl ?_
    refine z_iload (pc := 131) hC 0 dX1_giveByAxiom_131 rfl ?_
    refine z_callV_V (pc := 133) (y := yX1_giveToWhatHas) (wy := wsX1_giveToWhatHas) (rm := { frames := 2, cells := 0, slots := 0, locals := 49 }) (As := [.int (nI k), .int (nI ja), .int (nI jb), .int (nI jc)]) (rest := []) (na := 4) (C := RX1) (T := TX1) (NF := 8) (ci := 2) (wc := [(q 6, .inr (2, [.ref (q 7), .ref (q 8), .ref (q 9), .ref (q 10), .int (nI n), .int fc, .int rc, .int u.2.2])), (q 7, .inl (cI, 168, .inl B)), (q 8, .inl (cI, 168, .inl u.1)), (q 9, .inl (cJ, 4032, .inr (.inl u.2.1)))]) (wc2 := [(q 6, .inr (2, [.ref (q 7), .ref (q 8), .ref (q 9), .ref (q 10), .int (nI n), .int fc, .int rc, .int ((gvWh n rc B (nI k) ja jb jc u n).2.2)])), (q 7, .inl (cI, 168, .inl B)), (q 8, .inl (cI, 168, .inl ((gvWh n rc B (nI k) ja jb jc u n).1))), (q 9, .inl (cJ, 4032, .inr (.inl ((gvWh n rc B (nI k) ja jb jc u n).2.1))))]) hC hRm hDis hLis 0 rfl rfl gX1_giveByAxiom_X1_giveToWhatHas ⟨rfl, by decide +kernel, by decide +kernel⟩ rfl ⟨by decide, by decide⟩ ⟨by decide, by decide⟩ rfl (Nat.le_of_ble_eq_true rfl) (by decide +kernel) (c_X1_giveToWhatHas _ _ cI cJ cZ (q) (B) (u) (n) (fc) (rc) (nI k) (ja) (jb) (jc) (by omega) (by omega) (by omega) (by omega)) [0, 1, 2, 3] [4, 5, 6, 7, 8] [5, 6, 7, 8, 0, 1, 2, 3, 4] [(q 1, .inr (1, [.ref (q 2), .ref (q 3), .ref (q 4), .ref (q 5), .int (nI cnt)])), (q 2, .inl (cI, 80, .inl Kd)), (q 3, .inl (cI, 80, .inl Aa)), (q 4, .inl (cI, 80, .inl Ab)), (q 5, .inl (cI, 80, .inl Ac))] rfl (by decide) rfl (by decide) (by decide) [(q 6, .inr (2, [.ref (q 7), .ref (q 8), .ref (q 9), .ref (q 10), .int (nI n), .int fc, .int rc, .int ((gvWh n rc B (nI k) ja jb jc u n).2.2)])), (q 7, .inl (cI, 168, .inl B)), (q 8, .inl (cI, 168, .inl ((gvWh n rc B (nI k) ja jb jc u n).1))), (q 9, .inl (cJ, 4032, .inr (.inl ((gvWh n rc B (nI k) ja jb jc u n).2.1)))), (q 1, .inr (1, [.ref (q 2), .ref (q 3), .ref (q 4), .ref (q 5), .int (nI cnt)])), (q 2, .inl (cI, 80, .inl Kd)), (q 3, .inl (cI, 80, .inl Aa)), (q 4, .inl (cI, 80, .inl Ab)), (q 5, .inl (cI, 80, .inl Ac))] rfl (by decide) rfl dX1_giveByAxiom_133 ?_
    refine z_goto (pc := 136) (tgt := 163) hC dX1_giveByAxiom_136 (by decide) ?_
    exact z_vret (pc := 163) hC hQ hRT (by
    first
    | rw [byAx_1 e29_1, ea, eb, tn_nI (by omega), tn_nI (by omega)]
    | rw [byAx_2 e29_2, ea, eb, ec, tn_nI (by omega), tn_nI (by omega), tn_nI (by omega)]
    | rw [byAx_3 e29_3, ea, eb, ec, tn_nI (by omega), tn_nI (by omega), tn_nI (by omega)]
    | rw [byAx_4 e29_4, ea, eb, ec, tn_nI (by omega), tn_nI (by omega), tn_nI (by omega)]
    | rw [byAx_5 e29_5, ea, eb, tn_nI (by omega), tn_nI (by omega)]
    | rw [byAx_6 e29_6, ea, eb, ec, tn_nI (by omega), tn_nI (by omega), tn_nI (by omega)]
    | rw [byAx_n e29_1 e29_2 e29_3 e29_4 e29_5 e29_6]) dX1_giveByAxiom_163
  by_cases e29_5 : (Kd k) = nI 5
  · refine z_tableIn (pc := 29) (x := (Kd k)) (off := 110) (tgt := 139) hC dX1_giveByAxiom_29 (by rw [e29_5]; decide +kernel) (by rw [e29_5]; decide +kernel) (by rw [e29_5]; decide +kernel) (by decide) ?_
    obtain ⟨⟨ja, hja, ea⟩, jb, hjb, eb⟩ := hax.2.2.2.2.1 e29_5
    refine z_lveq [(5, .int (Ac k)), (4, .int (nI jb)), (3, .int (nI ja)), (0, .ref (q 6)), (1, .ref (q 1)), (2, .int (nI k))] (by rw [ea, eb]) ?_
    refine z_aload_n (pc := 139) hC 3 dX1_giveByAxiom_139 rfl ?_
    refine z_iload_n (pc := 140) hC 5 dX1_giveByAxiom_140 rfl ?_
    refine z_iload_n (pc := 141) hC 2 dX1_giveByAxiom_141 rfl ?_
    refine z_iload (pc := 142) hC 1 dX1_giveByAxiom_142 rfl ?_
    refine z_callV_V (pc := 144) (y := yX1_giveRole) (wy := wsX1_giveRole) (rm := { frames := 2, cells := 0, slots := 0, locals := 49 }) (As := [.int (nI k), .int (nI ja), .int (nI jb)]) (rest := []) (na := 3) (C := RX1) (T := TX1) (NF := 8) (ci := 2) (wc := [(q 6, .inr (2, [.ref (q 7), .ref (q 8), .ref (q 9), .ref (q 10), .int (nI n), .int fc, .int rc, .int u.2.2])), (q 7, .inl (cI, 168, .inl B)), (q 8, .inl (cI, 168, .inl u.1)), (q 9, .inl (cJ, 4032, .inr (.inl u.2.1)))]) (wc2 := [(q 6, .inr (2, [.ref (q 7), .ref (q 8), .ref (q 9), .ref (q 10), .int (nI n), .int fc, .int rc, .int ((gvRo n rc B (nI k) ja jb u n).2.2)])), (q 7, .inl (cI, 168, .inl B)), (q 8, .inl (cI, 168, .inl ((gvRo n rc B (nI k) ja jb u n).1))), (q 9, .inl (cJ, 4032, .inr (.inl ((gvRo n rc B (nI k) ja jb u n).2.1))))]) hC hRm hDis hLis 0 rfl rfl gX1_giveByAxiom_X1_giveRole ⟨rfl, by decide +kernel, by decide +kernel⟩ rfl ⟨by decide, by decide⟩ ⟨by decide, by decide⟩ rfl (Nat.le_of_ble_eq_true rfl) (by decide +kernel) (c_X1_giveRole _ _ cI cJ cZ (q) (B) (u) (n) (fc) (rc) (nI k) (ja) (jb) (by omega) (by omega) (by omega)) [0, 1, 2, 3] [4, 5, 6, 7, 8] [5, 6, 7, 8, 0, 1, 2, 3, 4] [(q 1, .inr (1, [.ref (q 2), .ref (q 3), .ref (q 4), .ref (q 5), .int (nI cnt)])), (q 2, .inl (cI, 80, .inl Kd)), (q 3, .inl (cI, 80, .inl Aa)), (q 4, .inl (cI, 80, .inl Ab)), (q 5, .inl (cI, 80, .inl Ac))] rfl (by decide) rfl (by decide) (by decide) [(q 6, .inr (2, [.ref (q 7), .ref (q 8), .ref (q 9), .ref (q 10), .int (nI n), .int fc, .int rc, .int ((gvRo n rc B (nI k) ja jb u n).2.2)])), (q 7, .inl (cI, 168, .inl B)), (q 8, .inl (cI, 168, .inl ((gvRo n rc B (nI k) ja jb u n).1))), (q 9, .inl (cJ, 4032, .inr (.inl ((gvRo n rc B (nI k) ja jb u n).2.1)))), (q 1, .inr (1, [.ref (q 2), .ref (q 3), .ref (q 4), .ref (q 5), .int (nI cnt)])), (q 2, .inl (cI, 80, .inl Kd)), (q 3, .inl (cI, 80, .inl Aa)), (q 4, .inl (cI, 80, .inl Ab)), (q 5, .inl (cI, 80, .inl Ac))] rfl (by decide) rfl dX1_giveByAxiom_144 ?_
    refine z_goto (pc := 147) (tgt := 163) hC dX1_giveByAxiom_147 (by decide) ?_
    exact z_vret (pc := 163) hC hQ hRT (by
    first
    | rw [byAx_1 e29_1, ea, eb, tn_nI (by omega), tn_nI (by omega)]
    | rw [byAx_2 e29_2, ea, eb, ec, tn_nI (by omega), tn_nI (by omega), tn_nI (by omega)]
    | rw [byAx_3 e29_3, ea, eb, ec, tn_nI (by omega), tn_nI (by omega), tn_nI (by omega)]
    | rw [byAx_4 e29_4, ea, eb, ec, tn_nI (by omega), tn_nI (by omega), tn_nI (by omega)]
    | rw [byAx_5 e29_5, ea, eb, tn_nI (by omega), tn_nI (by omega)]
    | rw [byAx_6 e29_6, ea, eb, ec, tn_nI (by omega), tn_nI (by omega), tn_nI (by omega)]
    | rw [byAx_n e29_1 e29_2 e29_3 e29_4 e29_5 e29_6]) dX1_giveByAxiom_163
  by_cases e29_6 : (Kd k) = nI 6
  · refine z_tableIn (pc := 29) (x := (Kd k)) (off := 121) (tgt := 150) hC dX1_giveByAxiom_29 (by rw [e29_6]; decide +kernel) (by rw [e29_6]; decide +kernel) (by rw [e29_6]; decide +kernel) (by decide) ?_
    obtain ⟨⟨ja, hja, ea⟩, ⟨jb, hjb, eb⟩, jc, hjc, ec⟩ := hax.2.2.2.2.2.1 e29_6
    refine z_lveq [(5, .int (nI jc)), (4, .int (nI jb)), (3, .int (nI ja)), (0, .ref (q 6)), (1, .ref (q 1)), (2, .int (nI k))] (by rw [ea, eb, ec]) ?_
    refine z_aload_n (pc := 150) hC 3 dX1_giveByAxiom_150 rfl ?_
    refine z_iload_n (pc := 151) hC 5 dX1_giveByAxiom_151 rfl ?_
    refine z_iload_n (pc := 152) hC 2 dX1_giveByAxiom_152 rfl ?_
    refine z_iload (pc := 153) hC 1 dX1_giveByAxiom_153 rfl ?_
    refine z_iload (pc := 155) hC 0 dX1_giveByAxiom_155 rfl ?_
    refine z_callV_V (pc := 157) (y := yX1_giveChain) (wy := wsX1_giveChain) (rm := { frames := 2, cells := 0, slots := 0, locals := 49 }) (As := [.int (nI k), .int (nI ja), .int (nI jb), .int (nI jc)]) (rest := []) (na := 4) (C := RX1) (T := TX1) (NF := 8) (ci := 2) (wc := [(q 6, .inr (2, [.ref (q 7), .ref (q 8), .ref (q 9), .ref (q 10), .int (nI n), .int fc, .int rc, .int u.2.2])), (q 7, .inl (cI, 168, .inl B)), (q 8, .inl (cI, 168, .inl u.1)), (q 9, .inl (cJ, 4032, .inr (.inl u.2.1)))]) (wc2 := [(q 6, .inr (2, [.ref (q 7), .ref (q 8), .ref (q 9), .ref (q 10), .int (nI n), .int fc, .int rc, .int ((gvC n rc B (nI k) ja jb jc u n).2.2)])), (q 7, .inl (cI, 168, .inl B)), (q 8, .inl (cI, 168, .inl ((gvC n rc B (nI k) ja jb jc u n).1))), (q 9, .inl (cJ, 4032, .inr (.inl ((gvC n rc B (nI k) ja jb jc u n).2.1))))]) hC hRm hDis hLis 0 rfl rfl gX1_giveByAxiom_X1_giveChain ⟨rfl, by decide +kernel, by decide +kernel⟩ rfl ⟨by decide, by decide⟩ ⟨by decide, by decide⟩ rfl (Nat.le_of_ble_eq_true rfl) (by decide +kernel) (c_X1_giveChain _ _ cI cJ cZ (q) (B) (u) (n) (fc) (rc) (nI k) (ja) (jb) (jc) (by omega) (by omega) (by omega) (by omega)) [0, 1, 2, 3] [4, 5, 6, 7, 8] [5, 6, 7, 8, 0, 1, 2, 3, 4] [(q 1, .inr (1, [.ref (q 2), .ref (q 3), .ref (q 4), .ref (q 5), .int (nI cnt)])), (q 2, .inl (cI, 80, .inl Kd)), (q 3, .inl (cI, 80, .inl Aa)), (q 4, .inl (cI, 80, .inl Ab)), (q 5, .inl (cI, 80, .inl Ac))] rfl (by decide) rfl (by decide) (by decide) [(q 6, .inr (2, [.ref (q 7), .ref (q 8), .ref (q 9), .ref (q 10), .int (nI n), .int fc, .int rc, .int ((gvC n rc B (nI k) ja jb jc u n).2.2)])), (q 7, .inl (cI, 168, .inl B)), (q 8, .inl (cI, 168, .inl ((gvC n rc B (nI k) ja jb jc u n).1))), (q 9, .inl (cJ, 4032, .inr (.inl ((gvC n rc B (nI k) ja jb jc u n).2.1)))), (q 1, .inr (1, [.ref (q 2), .ref (q 3), .ref (q 4), .ref (q 5), .int (nI cnt)])), (q 2, .inl (cI, 80, .inl Kd)), (q 3, .inl (cI, 80, .inl Aa)), (q 4, .inl (cI, 80, .inl Ab)), (q 5, .inl (cI, 80, .inl Ac))] rfl (by decide) rfl dX1_giveByAxiom_157 ?_
    refine z_goto (pc := 160) (tgt := 163) hC dX1_giveByAxiom_160 (by decide) ?_
    exact z_vret (pc := 163) hC hQ hRT (by
    first
    | rw [byAx_1 e29_1, ea, eb, tn_nI (by omega), tn_nI (by omega)]
    | rw [byAx_2 e29_2, ea, eb, ec, tn_nI (by omega), tn_nI (by omega), tn_nI (by omega)]
    | rw [byAx_3 e29_3, ea, eb, ec, tn_nI (by omega), tn_nI (by omega), tn_nI (by omega)]
    | rw [byAx_4 e29_4, ea, eb, ec, tn_nI (by omega), tn_nI (by omega), tn_nI (by omega)]
    | rw [byAx_5 e29_5, ea, eb, tn_nI (by omega), tn_nI (by omega)]
    | rw [byAx_6 e29_6, ea, eb, ec, tn_nI (by omega), tn_nI (by omega), tn_nI (by omega)]
    | rw [byAx_n e29_1 e29_2 e29_3 e29_4 e29_5 e29_6]) dX1_giveByAxiom_163
  refine z_tableOut (pc := 29) (x := (Kd k)) (tgt := 163) hC dX1_giveByAxiom_29 (by have q0 := sw_ne e29_1 (by decide); have q1 := sw_ne e29_2 (by decide); have q2 := sw_ne e29_3 (by decide); have q3 := sw_ne e29_4 (by decide); have q4 := sw_ne e29_5 (by decide); have q5 := sw_ne e29_6 (by decide); omega) (by decide) ?_
  exact z_vret (pc := 163) hC hQ hRT (by
    first
    | rw [byAx_1 e29_1, ea, eb, tn_nI (by omega), tn_nI (by omega)]
    | rw [byAx_2 e29_2, ea, eb, ec, tn_nI (by omega), tn_nI (by omega), tn_nI (by omega)]
    | rw [byAx_3 e29_3, ea, eb, ec, tn_nI (by omega), tn_nI (by omega), tn_nI (by omega)]
    | rw [byAx_4 e29_4, ea, eb, ec, tn_nI (by omega), tn_nI (by omega), tn_nI (by omega)]
    | rw [byAx_5 e29_5, ea, eb, tn_nI (by omega), tn_nI (by omega)]
    | rw [byAx_6 e29_6, ea, eb, ec, tn_nI (by omega), tn_nI (by omega), tn_nI (by omega)]
    | rw [byAx_n e29_1 e29_2 e29_3 e29_4 e29_5 e29_6]) dX1_giveByAxiom_163
