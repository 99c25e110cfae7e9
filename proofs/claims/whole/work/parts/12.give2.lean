/-! giveToBoth, giveToWhatHas, giveRole, giveChain, giveByAxiom, giveAtFirst -/
def gvBl (n : Nat) (rc ax fr : Int32) (one other tgt : Nat) (u : GS) : Nat → GS
  | 0 => u
  | i + 1 => if inB (nI i) fr = true then gv n rc (bitI i) tgt ax (nI one) (nI (cod i other)) (gvBl n rc ax fr one other tgt u i) else gvBl n rc ax fr one other tgt u i
theorem gvBl_t {n : Nat} {rc ax fr : Int32} {one other tgt : Nat} {u : GS} {i : Nat} (h : inB (nI i) fr = true) : gvBl n rc ax fr one other tgt u (i + 1) = gv n rc (bitI i) tgt ax (nI one) (nI (cod i other)) (gvBl n rc ax fr one other tgt u i) := if_pos h
theorem gvBl_f {n : Nat} {rc ax fr : Int32} {one other tgt : Nat} {u : GS} {i : Nat} (h : inB (nI i) fr = false) : gvBl n rc ax fr one other tgt u (i + 1) = gvBl n rc ax fr one other tgt u i := if_neg (by rw [h]; decide)
def gvBoth (n : Nat) (rc : Int32) (B : Nat → Int32) (ax : Int32) (one other tgt : Nat) (u : GS) : GS := if frs (B one &&& B other) (u.1 tgt) = 0 then u else gvBl n rc ax (frs (B one &&& B other) (u.1 tgt)) one other tgt u n
theorem gvBoth_e {n : Nat} {rc : Int32} {B : Nat → Int32} {ax : Int32} {one other tgt : Nat} {u : GS} (h : frs (B one &&& B other) (u.1 tgt) = 0) : gvBoth n rc B ax one other tgt u = u := if_pos h
theorem gvBoth_n {n : Nat} {rc : Int32} {B : Nat → Int32} {ax : Int32} {one other tgt : Nat} {u : GS} (h : ¬ frs (B one &&& B other) (u.1 tgt) = 0) : gvBoth n rc B ax one other tgt u = gvBl n rc ax (frs (B one &&& B other) (u.1 tgt)) one other tgt u n := if_neg h
theorem gvBoth_x {n : Nat} {rc : Int32} {B : Nat → Int32} {ax : Int32} {one other tgt : Nat} {u w : GS} {i : Nat} (hi : i = n) (hw : w = gvBl n rc ax (frs (B one &&& B other) (u.1 tgt)) one other tgt u i) (hz : frs (B one &&& B other) (u.1 tgt) = 0 → i = 0) : gvBoth n rc B ax one other tgt u = w := by
  by_cases h : frs (B one &&& B other) (u.1 tgt) = 0
  · rw [gvBoth_e h, hw, hz h]; rfl
  · rw [gvBoth_n h, hw, hi]

set_option maxRecDepth 100000 in
set_option maxHeartbeats 4000000 in
theorem c_X1_giveToBoth (l : Launch) (D : va_G) (cI cJ cZ : ClassId) (q : Nat → Nat) (B : Nat → Int32) (u : GS) (n : Nat) (fc : Int32) (rc : Int32) (ax : Int32) (one : Nat) (other : Nat) (tgt : Nat) (h1 : one < 168) (h2 : other < 168) (h3 : tgt < 168) (hn : n ≤ 24) : MV l yX1_giveToBoth wsX1_giveToBoth { frames := 2, cells := 0, slots := 0, locals := 49 } D (tyL cI cJ cZ) [.ref (q 6), .int ax, .int (nI one), .int (nI other), .int (nI tgt)] [(q 6, .inr (2, [.ref (q 7), .ref (q 8), .ref (q 9), .ref (q 10), .int (nI n), .int fc, .int rc, .int u.2.2])), (q 7, .inl (cI, 168, .inl B)), (q 8, .inl (cI, 168, .inl u.1)), (q 9, .inl (cJ, 4032, .inr (.inl u.2.1)))] [(q 6, .inr (2, [.ref (q 7), .ref (q 8), .ref (q 9), .ref (q 10), .int (nI n), .int fc, .int rc, .int ((gvBoth n rc B ax one other tgt u).2.2)])), (q 7, .inl (cI, 168, .inl B)), (q 8, .inl (cI, 168, .inl ((gvBoth n rc B ax one other tgt u).1))), (q 9, .inl (cJ, 4032, .inr (.inl ((gvBoth n rc B ax one other tgt u).2.1))))] := by
  refine metV_of (cc := cX1_giveToBoth) (maxL := 7) (ret := none) (by decide +kernel) rfl (Nat.le_of_ble_eq_true rfl) ?_
  intro K hC hRm hNL hDis hLis hRT hIni hQ
  have hinX1 : ∀ w ∈ wsX10, w ∈ wsX1_giveToBoth := by decide +kernel
  refine z_aload_n (pc := 0) hC 0 dX1_giveToBoth_0 rfl ?_
  refine z_get (pc := 1) (C := RX1) (T := TX1) (N := 8) hC hinX1 0 rfl rfl 0 (by decide) (by decide +kernel) rfl dX1_giveToBoth_1 ?_
  refine z_iload_n (pc := 4) hC 2 dX1_giveToBoth_4 rfl ?_
  refine z_iald (pc := 5) (v := (B one)) hC 1 0 rfl rfl (by omega) (by decide) (rfl) dX1_giveToBoth_5 ?_
  refine z_aload_n (pc := 6) hC 0 dX1_giveToBoth_6 rfl ?_
  refine z_get (pc := 7) (C := RX1) (T := TX1) (N := 8) hC hinX1 0 rfl rfl 0 (by decide) (by decide +kernel) rfl dX1_giveToBoth_7 ?_
  refine z_iload_n (pc := 10) hC 3 dX1_giveToBoth_10 rfl ?_
  refine z_iald (pc := 11) (v := (B other)) hC 1 0 rfl rfl (by omega) (by decide) (rfl) dX1_giveToBoth_11 ?_
  refine z_iand (pc := 12) (v := ((B one) &&& (B other))) hC dX1_giveToBoth_12 (rfl) ?_
  refine z_aload_n (pc := 13) hC 0 dX1_giveToBoth_13 rfl ?_
  refine z_get (pc := 14) (C := RX1) (T := TX1) (N := 8) hC hinX1 0 rfl rfl 1 (by decide) (by decide +kernel) rfl dX1_giveToBoth_14 ?_
  refine z_iload (pc := 17) hC 4 dX1_giveToBoth_17 rfl ?_
  refine z_iald (pc := 19) (v := (u.1 tgt)) hC 2 0 rfl rfl (by omega) (by decide) (rfl) dX1_giveToBoth_19 ?_
  refine z_iconst (pc := 20) (v := (-1)) hC dX1_giveToBoth_20 (by decide +kernel) ?_
  refine z_ixor (pc := 21) (v := ((u.1 tgt) ^^^ (-1))) hC dX1_giveToBoth_21 (rfl) ?_
  refine z_iand (pc := 22) (v := (frs ((B one) &&& (B other)) (u.1 tgt))) hC dX1_giveToBoth_22 (rfl) ?_
  refine z_istore (pc := 23) hC hNL [(5, .int (frs ((B one) &&& (B other)) (u.1 tgt))), (0, .ref (q 6)), (1, .int ax), (2, .int (nI one)), (3, .int (nI other)), (4, .int (nI tgt))] dX1_giveToBoth_23 (by decide) rfl ?_
  refine z_iconst (pc := 25) (v := (nI 0)) hC dX1_giveToBoth_25 (by decide +kernel) ?_
  refine z_istore (pc := 26) hC hNL [(6, .int (nI 0)), (5, .int (frs ((B one) &&& (B other)) (u.1 tgt))), (0, .ref (q 6)), (1, .int ax), (2, .int (nI one)), (3, .int (nI other)), (4, .int (nI tgt))] dX1_giveToBoth_26 (by decide) rfl ?_
  have L28 : ∀ (fu : Nat) (i : Nat) (w : GS) (hi : i ≤ n) (hf : n + 1 ≤ i + fu) (hw : w = gvBl n rc ax (frs ((B one) &&& (B other)) (u.1 tgt)) one other tgt u i) (hz : frs ((B one) &&& (B other)) (u.1 tgt) = 0 → i = 0), Z K 0 0 [(q 6, .inr (2, [.ref (q 7), .ref (q 8), .ref (q 9), .ref (q 10), .int (nI n), .int fc, .int rc, .int w.2.2])), (q 7, .inl (cI, 168, .inl B)), (q 8, .inl (cI, 168, .inl w.1)), (q 9, .inl (cJ, 4032, .inr (.inl w.2.1)))] [(6, .int (nI i)), (5, .int (frs ((B one) &&& (B other)) (u.1 tgt))), (0, .ref (q 6)), (1, .int ax), (2, .int (nI one)), (3, .int (nI other)), (4, .int (nI tgt))] 28 [] := by
    intro fu
    induction fu with
    | zero =>
      intro i w hi hf hw hz
      exact absurd trivial (by omega)
    | succ fu ih28 =>
      intro i w hi hf hw hz
      refine z_iload (pc := 28) hC 0 dX1_giveToBoth_28 rfl ?_
      refine z_aload_n (pc := 30) hC 2 dX1_giveToBoth_30 rfl ?_
      refine z_get (pc := 31) (C := RX1) (T := TX1) (N := 8) hC hinX1 0 rfl rfl 4 (by decide) (by decide +kernel) rfl dX1_giveToBoth_31 ?_
      refine z_ncmp_ge (pc := 34) (tgt := 76) hC dX1_giveToBoth_34 (by decide) (by omega) (by omega) (fun h34 => ?_) (fun h34 => ?_)
      · exact z_vret (pc := 76) hC hQ hRT (by first | rw [gvBoth_x (by omega) hw hz] | (rw [gvBoth_e h39, hw, hz h39]; rfl)) dX1_giveToBoth_76
      · refine z_iload (pc := 37) hC 1 dX1_giveToBoth_37 rfl ?_
        refine z_if_eq (pc := 39) (tgt := 76) hC dX1_giveToBoth_39 (by decide) (fun h39 => ?_) (fun h39 => ?_)
        · exact z_vret (pc := 76) hC hQ hRT (by first | rw [gvBoth_x (by omega) hw hz] | (rw [gvBoth_e h39, hw, hz h39]; rfl)) dX1_giveToBoth_76
        · refine z_iload (pc := 42) hC 0 dX1_giveToBoth_42 rfl ?_
          refine z_iload (pc := 44) hC 1 dX1_giveToBoth_44 rfl ?_
          refine z_callSN_I (pc := 46) (y := yX3_isIn) (wy := wsX3_isIn) (rm := { frames := 0, cells := 0, slots := 0, locals := 0 }) (As := [.int (nI i), .int (frs ((B one) &&& (B other)) (u.1 tgt))]) (rest := []) (na := 2)  (wc := []) (wc2 := []) hC hRm hDis hLis gX1_giveToBoth_X3_isIn_n112 (by decide +kernel) (by decide +kernel) (by decide +kernel) ⟨by decide +kernel, by decide +kernel⟩ rfl ⟨by decide, by decide⟩ ⟨by decide, by decide⟩ rfl (Nat.le_of_ble_eq_true rfl) (by decide +kernel) (c_X3_isIn _ _ cI cJ cZ (nI i) (frs ((B one) &&& (B other)) (u.1 tgt)) ) [] [0, 1, 2, 3] [0, 1, 2, 3] [(q 6, .inr (2, [.ref (q 7), .ref (q 8), .ref (q 9), .ref (q 10), .int (nI n), .int fc, .int rc, .int w.2.2])), (q 7, .inl (cI, 168, .inl B)), (q 8, .inl (cI, 168, .inl w.1)), (q 9, .inl (cJ, 4032, .inr (.inl w.2.1)))] rfl (by decide) rfl (by decide) (by decide) [(q 6, .inr (2, [.ref (q 7), .ref (q 8), .ref (q 9), .ref (q 10), .int (nI n), .int fc, .int rc, .int w.2.2])), (q 7, .inl (cI, 168, .inl B)), (q 8, .inl (cI, 168, .inl w.1)), (q 9, .inl (cJ, 4032, .inr (.inl w.2.1)))] rfl (by decide) rfl dX1_giveToBoth_46 ?_
          refine z_bif_eq (pc := 49) (tgt := 70) hC dX1_giveToBoth_49 (by decide) (fun h49 => ?_) (fun h49 => ?_)
          · refine z_iinc (pc := 70) (q := 0) (x := (nI i)) (v := (nI (i + 1))) hC hNL [(6, .int (nI (i + 1))), (5, .int (frs ((B one) &&& (B other)) (u.1 tgt))), (0, .ref (q 6)), (1, .int ax), (2, .int (nI one)), (3, .int (nI other)), (4, .int (nI tgt))] dX1_giveToBoth_70 rfl (nI_add _ _) (by decide) rfl ?_
            refine z_goto (pc := 73) (tgt := 28) hC dX1_giveToBoth_73 (by decide) ?_
            exact ih28 (i + 1) (w) (by omega) (by omega) (by first | rw [gvBl_t h49, hw] | rw [gvBl_f h49, hw]) (fun h9 => absurd h9 h39)
          · refine z_aload_n (pc := 52) hC 2 dX1_giveToBoth_52 rfl ?_
            refine z_iconst (pc := 53) (v := (nI 1)) hC dX1_giveToBoth_53 (by decide +kernel) ?_
            refine z_iload (pc := 54) hC 0 dX1_giveToBoth_54 rfl ?_
            refine z_ishl (pc := 56) (v := (bitI i)) hC dX1_giveToBoth_56 (rfl) ?_
            refine z_iload (pc := 57) hC 6 dX1_giveToBoth_57 rfl ?_
            refine z_iload_n (pc := 59) hC 3 dX1_giveToBoth_59 rfl ?_
            refine z_iload_n (pc := 60) hC 4 dX1_giveToBoth_60 rfl ?_
            refine z_iload (pc := 61) hC 0 dX1_giveToBoth_61 rfl ?_
            refine z_iload_n (pc := 63) hC 5 dX1_giveToBoth_63 rfl ?_
            refine z_callSN_I (pc := 64) (y := yX3_codeOf) (wy := wsX3_codeOf) (rm := { frames := 0, cells := 0, slots := 0, locals := 0 }) (As := [.int (nI i), .int (nI other)]) (rest := [.int (nI one), .int ax, .int (nI tgt), .int (bitI i), .ref (q 6)]) (na := 2)  (wc := []) (wc2 := []) hC hRm hDis hLis gX1_giveToBoth_X3_codeOf_n116 (by decide +kernel) (by decide +kernel) (by decide +kernel) ⟨by decide +kernel, by decide +kernel⟩ rfl ⟨by decide, by decide⟩ ⟨by decide, by decide⟩ rfl (Nat.le_of_ble_eq_true rfl) (by decide +kernel) (c_X3_codeOfN _ _ cI cJ cZ (i) (other) (by omega)) [] [0, 1, 2, 3] [0, 1, 2, 3] [(q 6, .inr (2, [.ref (q 7), .ref (q 8), .ref (q 9), .ref (q 10), .int (nI n), .int fc, .int rc, .int w.2.2])), (q 7, .inl (cI, 168, .inl B)), (q 8, .inl (cI, 168, .inl w.1)), (q 9, .inl (cJ, 4032, .inr (.inl w.2.1)))] rfl (by decide) rfl (by decide) (by decide) [(q 6, .inr (2, [.ref (q 7), .ref (q 8), .ref (q 9), .ref (q 10), .int (nI n), .int fc, .int rc, .int w.2.2])), (q 7, .inl (cI, 168, .inl B)), (q 8, .inl (cI, 168, .inl w.1)), (q 9, .inl (cJ, 4032, .inr (.inl w.2.1)))] rfl (by decide) rfl dX1_giveToBoth_64 ?_
            refine z_callV_V (pc := 67) (y := yX1_give) (wy := wsX1_give) (rm := { frames := 1, cells := 0, slots := 0, locals := 21 }) (As := [.int (bitI i), .int (nI tgt), .int ax, .int (nI one), .int (nI (cod i other))]) (rest := []) (na := 5) (C := RX1) (T := TX1) (NF := 8) (ci := 2) (wc := [(q 6, .inr (2, [.ref (q 7), .ref (q 8), .ref (q 9), .ref (q 10), .int (nI n), .int fc, .int rc, .int w.2.2])), (q 8, .inl (cI, 168, .inl w.1)), (q 9, .inl (cJ, 4032, .inr (.inl w.2.1)))]) (wc2 := [(q 6, .inr (2, [.ref (q 7), .ref (q 8), .ref (q 9), .ref (q 10), .int (nI n), .int fc, .int rc, .int ((gv n rc (bitI i) tgt ax (nI one) (nI (cod i other)) w).2.2)])), (q 8, .inl (cI, 168, .inl ((gv n rc (bitI i) tgt ax (nI one) (nI (cod i other)) w).1))), (q 9, .inl (cJ, 4032, .inr (.inl ((gv n rc (bitI i) tgt ax (nI one) (nI (cod i other)) w).2.1))))]) hC hRm hDis hLis 0 rfl rfl gX1_giveToBoth_X1_give ⟨rfl, by decide +kernel, by decide +kernel⟩ rfl ⟨by decide, by decide⟩ ⟨by decide, by decide⟩ rfl (Nat.le_of_ble_eq_true rfl) (by decide +kernel) (c_X1_give _ _ cI cJ cZ (q) (w) (n) (fc) (rc) (bitI i) (tgt) (ax) (nI one) (nI (cod i other)) (h3) (hn)) [0, 2, 3] [1] [1, 0, 2, 3] [(q 7, .inl (cI, 168, .inl B))] rfl (by decide) rfl (by decide) (by decide) [(q 6, .inr (2, [.ref (q 7), .ref (q 8), .ref (q 9), .ref (q 10), .int (nI n), .int fc, .int rc, .int ((gv n rc (bitI i) tgt ax (nI one) (nI (cod i other)) w).2.2)])), (q 7, .inl (cI, 168, .inl B)), (q 8, .inl (cI, 168, .inl ((gv n rc (bitI i) tgt ax (nI one) (nI (cod i other)) w).1))), (q 9, .inl (cJ, 4032, .inr (.inl ((gv n rc (bitI i) tgt ax (nI one) (nI (cod i other)) w).2.1))))] rfl (by decide) rfl dX1_giveToBoth_67 ?_
            refine z_iinc (pc := 70) (q := 0) (x := (nI i)) (v := (nI (i + 1))) hC hNL [(6, .int (nI (i + 1))), (5, .int (frs ((B one) &&& (B other)) (u.1 tgt))), (0, .ref (q 6)), (1, .int ax), (2, .int (nI one)), (3, .int (nI other)), (4, .int (nI tgt))] dX1_giveToBoth_70 rfl (nI_add _ _) (by decide) rfl ?_
            refine z_goto (pc := 73) (tgt := 28) hC dX1_giveToBoth_73 (by decide) ?_
            exact ih28 (i + 1) (gv n rc (bitI i) tgt ax (nI one) (nI (cod i other)) w) (by omega) (by omega) (by first | rw [gvBl_t h49, hw] | rw [gvBl_f h49, hw]) (fun h9 => absurd h9 h39)
  exact L28 (n + 1) (0) (u) (by omega) (by omega) (rfl) (fun _ => rfl)

def gvWh (n : Nat) (rc : Int32) (B : Nat → Int32) (ax : Int32) (r kt tgt : Nat) (u : GS) : Nat → GS
  | 0 => u
  | i + 1 => if inB (nI i) (B kt) = true then gv n rc (B (lcol r i)) tgt ax (nI (lcol r i)) (nI (cod i kt)) (gvWh n rc B ax r kt tgt u i) else gvWh n rc B ax r kt tgt u i
theorem gvWh_t {n : Nat} {rc : Int32} {B : Nat → Int32} {ax : Int32} {r kt tgt : Nat} {u : GS} {i : Nat} (h : inB (nI i) (B kt) = true) : gvWh n rc B ax r kt tgt u (i + 1) = gv n rc (B (lcol r i)) tgt ax (nI (lcol r i)) (nI (cod i kt)) (gvWh n rc B ax r kt tgt u i) := if_pos h
theorem gvWh_f {n : Nat} {rc : Int32} {B : Nat → Int32} {ax : Int32} {r kt tgt : Nat} {u : GS} {i : Nat} (h : inB (nI i) (B kt) = false) : gvWh n rc B ax r kt tgt u (i + 1) = gvWh n rc B ax r kt tgt u i := if_neg (by rw [h]; decide)

set_option maxRecDepth 100000 in
set_option maxHeartbeats 4000000 in
theorem c_X1_giveToWhatHas (l : Launch) (D : va_G) (cI cJ cZ : ClassId) (q : Nat → Nat) (B : Nat → Int32) (u : GS) (n : Nat) (fc : Int32) (rc : Int32) (ax : Int32) (r : Nat) (kt : Nat) (tgt : Nat) (h1 : r < 6) (h2 : kt < 168) (h3 : tgt < 168) (hn : n ≤ 24) : MV l yX1_giveToWhatHas wsX1_giveToWhatHas { frames := 2, cells := 0, slots := 0, locals := 49 } D (tyL cI cJ cZ) [.ref (q 6), .int ax, .int (nI r), .int (nI kt), .int (nI tgt)] [(q 6, .inr (2, [.ref (q 7), .ref (q 8), .ref (q 9), .ref (q 10), .int (nI n), .int fc, .int rc, .int u.2.2])), (q 7, .inl (cI, 168, .inl B)), (q 8, .inl (cI, 168, .inl u.1)), (q 9, .inl (cJ, 4032, .inr (.inl u.2.1)))] [(q 6, .inr (2, [.ref (q 7), .ref (q 8), .ref (q 9), .ref (q 10), .int (nI n), .int fc, .int rc, .int ((gvWh n rc B ax r kt tgt u n).2.2)])), (q 7, .inl (cI, 168, .inl B)), (q 8, .inl (cI, 168, .inl ((gvWh n rc B ax r kt tgt u n).1))), (q 9, .inl (cJ, 4032, .inr (.inl ((gvWh n rc B ax r kt tgt u n).2.1))))] := by
  refine metV_of (cc := cX1_giveToWhatHas) (maxL := 8) (ret := none) (by decide +kernel) rfl (Nat.le_of_ble_eq_true rfl) ?_
  intro K hC hRm hNL hDis hLis hRT hIni hQ
  have hinX1 : ∀ w ∈ wsX10, w ∈ wsX1_giveToWhatHas := by decide +kernel
  refine z_aload_n (pc := 0) hC 0 dX1_giveToWhatHas_0 rfl ?_
  refine z_get (pc := 1) (C := RX1) (T := TX1) (N := 8) hC hinX1 0 rfl rfl 0 (by decide) (by decide +kernel) rfl dX1_giveToWhatHas_1 ?_
  refine z_iload_n (pc := 4) hC 3 dX1_giveToWhatHas_4 rfl ?_
  refine z_iald (pc := 5) (v := (B kt)) hC 1 0 rfl rfl (by omega) (by decide) (rfl) dX1_giveToWhatHas_5 ?_
  refine z_istore (pc := 6) hC hNL [(5, .int (B kt)), (0, .ref (q 6)), (1, .int ax), (2, .int (nI r)), (3, .int (nI kt)), (4, .int (nI tgt))] dX1_giveToWhatHas_6 (by decide) rfl ?_
  refine z_iconst (pc := 8) (v := (nI 0)) hC dX1_giveToWhatHas_8 (by decide +kernel) ?_
  refine z_istore (pc := 9) hC hNL [(6, .int (nI 0)), (5, .int (B kt)), (0, .ref (q 6)), (1, .int ax), (2, .int (nI r)), (3, .int (nI kt)), (4, .int (nI tgt))] dX1_giveToWhatHas_9 (by decide) rfl ?_
  have L11 : ∀ (fu : Nat) (i : Nat) (w : GS) (hi : i ≤ n) (hf : n + 1 ≤ i + fu) (hw : w = gvWh n rc B ax r kt tgt u i), Z K 0 0 [(q 6, .inr (2, [.ref (q 7), .ref (q 8), .ref (q 9), .ref (q 10), .int (nI n), .int fc, .int rc, .int w.2.2])), (q 7, .inl (cI, 168, .inl B)), (q 8, .inl (cI, 168, .inl w.1)), (q 9, .inl (cJ, 4032, .inr (.inl w.2.1)))] [(6, .int (nI i)), (5, .int (B kt)), (0, .ref (q 6)), (1, .int ax), (2, .int (nI r)), (3, .int (nI kt)), (4, .int (nI tgt))] 11 [] := by
    intro fu
    induction fu with
    | zero =>
      intro i w hi hf hw
      exact absurd trivial (by omega)
    | succ fu ih11 =>
      intro i w hi hf hw
      refine z_iload (pc := 11) hC 0 dX1_giveToWhatHas_11 rfl ?_
      refine z_aload_n (pc := 13) hC 2 dX1_giveToWhatHas_13 rfl ?_
      refine z_get (pc := 14) (C := RX1) (T := TX1) (N := 8) hC hinX1 0 rfl rfl 4 (by decide) (by decide +kernel) rfl dX1_giveToWhatHas_14 ?_
      refine z_ncmp_ge (pc := 17) (tgt := 66) hC dX1_giveToWhatHas_17 (by decide) (by omega) (by omega) (fun h17 => ?_) (fun h17 => ?_)
      · exact z_vret (pc := 66) hC hQ hRT (by rw [hw, show i = n by omega]) dX1_giveToWhatHas_66
      · refine z_iload (pc := 20) hC 0 dX1_giveToWhatHas_20 rfl ?_
        refine z_iload (pc := 22) hC 1 dX1_giveToWhatHas_22 rfl ?_
        refine z_callSN_I (pc := 24) (y := yX3_isIn) (wy := wsX3_isIn) (rm := { frames := 0, cells := 0, slots := 0, locals := 0 }) (As := [.int (nI i), .int (B kt)]) (rest := []) (na := 2)  (wc := []) (wc2 := []) hC hRm hDis hLis gX1_giveToWhatHas_X3_isIn_n112 (by decide +kernel) (by decide +kernel) (by decide +kernel) ⟨by decide +kernel, by decide +kernel⟩ rfl ⟨by decide, by decide⟩ ⟨by decide, by decide⟩ rfl (Nat.le_of_ble_eq_true rfl) (by decide +kernel) (c_X3_isIn _ _ cI cJ cZ (nI i) (B kt) ) [] [0, 1, 2, 3] [0, 1, 2, 3] [(q 6, .inr (2, [.ref (q 7), .ref (q 8), .ref (q 9), .ref (q 10), .int (nI n), .int fc, .int rc, .int w.2.2])), (q 7, .inl (cI, 168, .inl B)), (q 8, .inl (cI, 168, .inl w.1)), (q 9, .inl (cJ, 4032, .inr (.inl w.2.1)))] rfl (by decide) rfl (by decide) (by decide) [(q 6, .inr (2, [.ref (q 7), .ref (q 8), .ref (q 9), .ref (q 10), .int (nI n), .int fc, .int rc, .int w.2.2])), (q 7, .inl (cI, 168, .inl B)), (q 8, .inl (cI, 168, .inl w.1)), (q 9, .inl (cJ, 4032, .inr (.inl w.2.1)))] rfl (by decide) rfl dX1_giveToWhatHas_24 ?_
        refine z_bif_eq (pc := 27) (tgt := 60) hC dX1_giveToWhatHas_27 (by decide) (fun h27 => ?_) (fun h27 => ?_)
        · refine z_iinc (pc := 60) (q := 0) (x := (nI i)) (v := (nI (i + 1))) hC hNL [(6, .int (nI (i + 1))), (5, .int (B kt)), (0, .ref (q 6)), (1, .int ax), (2, .int (nI r)), (3, .int (nI kt)), (4, .int (nI tgt))] dX1_giveToWhatHas_60 rfl (nI_add _ _) (by decide) rfl ?_
          refine z_goto (pc := 63) (tgt := 11) hC dX1_giveToWhatHas_63 (by decide) ?_
          exact ih11 (i + 1) (w) (by omega) (by omega) (by first | rw [gvWh_t h27, hw] | rw [gvWh_f h27, hw])
        · refine z_iload_n (pc := 30) hC 4 dX1_giveToWhatHas_30 rfl ?_
          refine z_iload (pc := 31) hC 0 dX1_giveToWhatHas_31 rfl ?_
          refine z_callSN_I (pc := 33) (y := yX3_linkColumn) (wy := wsX3_linkColumn) (rm := { frames := 0, cells := 0, slots := 0, locals := 0 }) (As := [.int (nI r), .int (nI i)]) (rest := []) (na := 2)  (wc := []) (wc2 := []) hC hRm hDis hLis gX1_giveToWhatHas_X3_linkColumn_n92 (by decide +kernel) (by decide +kernel) (by decide +kernel) ⟨by decide +kernel, by decide +kernel⟩ rfl ⟨by decide, by decide⟩ ⟨by decide, by decide⟩ rfl (Nat.le_of_ble_eq_true rfl) (by decide +kernel) (c_X3_linkColumnN _ _ cI cJ cZ (r) (i) ) [] [0, 1, 2, 3] [0, 1, 2, 3] [(q 6, .inr (2, [.ref (q 7), .ref (q 8), .ref (q 9), .ref (q 10), .int (nI n), .int fc, .int rc, .int w.2.2])), (q 7, .inl (cI, 168, .inl B)), (q 8, .inl (cI, 168, .inl w.1)), (q 9, .inl (cJ, 4032, .inr (.inl w.2.1)))] rfl (by decide) rfl (by decide) (by decide) [(q 6, .inr (2, [.ref (q 7), .ref (q 8), .ref (q 9), .ref (q 10), .int (nI n), .int fc, .int rc, .int w.2.2])), (q 7, .inl (cI, 168, .inl B)), (q 8, .inl (cI, 168, .inl w.1)), (q 9, .inl (cJ, 4032, .inr (.inl w.2.1)))] rfl (by decide) rfl dX1_giveToWhatHas_33 ?_
          refine z_istore (pc := 36) hC hNL [(7, .int (nI (lcol r i))), (6, .int (nI i)), (5, .int (B kt)), (0, .ref (q 6)), (1, .int ax), (2, .int (nI r)), (3, .int (nI kt)), (4, .int (nI tgt))] dX1_giveToWhatHas_36 (by decide) rfl ?_
          refine z_aload_n (pc := 38) hC 3 dX1_giveToWhatHas_38 rfl ?_
          refine z_aload_n (pc := 39) hC 3 dX1_giveToWhatHas_39 rfl ?_
          refine z_get (pc := 40) (C := RX1) (T := TX1) (N := 8) hC hinX1 0 rfl rfl 0 (by decide) (by decide +kernel) rfl dX1_giveToWhatHas_40 ?_
          refine z_iload (pc := 43) hC 0 dX1_giveToWhatHas_43 rfl ?_
          refine z_iald (pc := 45) (v := (B (lcol r i))) hC 1 0 rfl rfl (lcol_lt h1 (by omega)) (by decide) (rfl) dX1_giveToWhatHas_45 ?_
          refine z_iload (pc := 46) hC 7 dX1_giveToWhatHas_46 rfl ?_
          refine z_iload_n (pc := 48) hC 4 dX1_giveToWhatHas_48 rfl ?_
          refine z_iload (pc := 49) hC 0 dX1_giveToWhatHas_49 rfl ?_
          refine z_iload (pc := 51) hC 1 dX1_giveToWhatHas_51 rfl ?_
          refine z_iload_n (pc := 53) hC 6 dX1_giveToWhatHas_53 rfl ?_
          refine z_callSN_I (pc := 54) (y := yX3_codeOf) (wy := wsX3_codeOf) (rm := { frames := 0, cells := 0, slots := 0, locals := 0 }) (As := [.int (nI i), .int (nI kt)]) (rest := [.int (nI (lcol r i)), .int ax, .int (nI tgt), .int (B (lcol r i)), .ref (q 6)]) (na := 2)  (wc := []) (wc2 := []) hC hRm hDis hLis gX1_giveToWhatHas_X3_codeOf_n116 (by decide +kernel) (by decide +kernel) (by decide +kernel) ⟨by decide +kernel, by decide +kernel⟩ rfl ⟨by decide, by decide⟩ ⟨by decide, by decide⟩ rfl (Nat.le_of_ble_eq_true rfl) (by decide +kernel) (c_X3_codeOfN _ _ cI cJ cZ (i) (kt) (by omega)) [] [0, 1, 2, 3] [0, 1, 2, 3] [(q 6, .inr (2, [.ref (q 7), .ref (q 8), .ref (q 9), .ref (q 10), .int (nI n), .int fc, .int rc, .int w.2.2])), (q 7, .inl (cI, 168, .inl B)), (q 8, .inl (cI, 168, .inl w.1)), (q 9, .inl (cJ, 4032, .inr (.inl w.2.1)))] rfl (by decide) rfl (by decide) (by decide) [(q 6, .inr (2, [.ref (q 7), .ref (q 8), .ref (q 9), .ref (q 10), .int (nI n), .int fc, .int rc, .int w.2.2])), (q 7, .inl (cI, 168, .inl B)), (q 8, .inl (cI, 168, .inl w.1)), (q 9, .inl (cJ, 4032, .inr (.inl w.2.1)))] rfl (by decide) rfl dX1_giveToWhatHas_54 ?_
          refine z_callV_V (pc := 57) (y := yX1_give) (wy := wsX1_give) (rm := { frames := 1, cells := 0, slots := 0, locals := 21 }) (As := [.int (B (lcol r i)), .int (nI tgt), .int ax, .int (nI (lcol r i)), .int (nI (cod i kt))]) (rest := []) (na := 5) (C := RX1) (T := TX1) (NF := 8) (ci := 2) (wc := [(q 6, .inr (2, [.ref (q 7), .ref (q 8), .ref (q 9), .ref (q 10), .int (nI n), .int fc, .int rc, .int w.2.2])), (q 8, .inl (cI, 168, .inl w.1)), (q 9, .inl (cJ, 4032, .inr (.inl w.2.1)))]) (wc2 := [(q 6, .inr (2, [.ref (q 7), .ref (q 8), .ref (q 9), .ref (q 10), .int (nI n), .int fc, .int rc, .int ((gv n rc (B (lcol r i)) tgt ax (nI (lcol r i)) (nI (cod i kt)) w).2.2)])), (q 8, .inl (cI, 168, .inl ((gv n rc (B (lcol r i)) tgt ax (nI (lcol r i)) (nI (cod i kt)) w).1))), (q 9, .inl (cJ, 4032, .inr (.inl ((gv n rc (B (lcol r i)) tgt ax (nI (lcol r i)) (nI (cod i kt)) w).2.1))))]) hC hRm hDis hLis 0 rfl rfl gX1_giveToWhatHas_X1_give ⟨rfl, by decide +kernel, by decide +kernel⟩ rfl ⟨by decide, by decide⟩ ⟨by decide, by decide⟩ rfl (Nat.le_of_ble_eq_true rfl) (by decide +kernel) (c_X1_give _ _ cI cJ cZ (q) (w) (n) (fc) (rc) (B (lcol r i)) (tgt) (ax) (nI (lcol r i)) (nI (cod i kt)) (h3) (hn)) [0, 2, 3] [1] [1, 0, 2, 3] [(q 7, .inl (cI, 168, .inl B))] rfl (by decide) rfl (by decide) (by decide) [(q 6, .inr (2, [.ref (q 7), .ref (q 8), .ref (q 9), .ref (q 10), .int (nI n), .int fc, .int rc, .int ((gv n rc (B (lcol r i)) tgt ax (nI (lcol r i)) (nI (cod i kt)) w).2.2)])), (q 7, .inl (cI, 168, .inl B)), (q 8, .inl (cI, 168, .inl ((gv n rc (B (lcol r i)) tgt ax (nI (lcol r i)) (nI (cod i kt)) w).1))), (q 9, .inl (cJ, 4032, .inr (.inl ((gv n rc (B (lcol r i)) tgt ax (nI (lcol r i)) (nI (cod i kt)) w).2.1))))] rfl (by decide) rfl dX1_giveToWhatHas_57 ?_
          refine z_iinc (pc := 60) (q := 1) (x := (nI i)) (v := (nI (i + 1))) hC hNL [(6, .int (nI (i + 1))), (7, .int (nI (lcol r i))), (5, .int (B kt)), (0, .ref (q 6)), (1, .int ax), (2, .int (nI r)), (3, .int (nI kt)), (4, .int (nI tgt))] dX1_giveToWhatHas_60 rfl (nI_add _ _) (by decide) rfl ?_
          refine z_goto (pc := 63) (tgt := 11) hC dX1_giveToWhatHas_63 (by decide) ?_
          refine z_lv [0, 2, 3, 4, 5, 6, 7] rfl ?_
          exact ih11 (i + 1) (gv n rc (B (lcol r i)) tgt ax (nI (lcol r i)) (nI (cod i kt)) w) (by omega) (by omega) (by first | rw [gvWh_t h27, hw] | rw [gvWh_f h27, hw])
  exact L11 (n + 1) (0) (u) (by omega) (by omega) (rfl)

def gvRo (n : Nat) (rc : Int32) (B : Nat → Int32) (ax : Int32) (r s0 : Nat) (u : GS) : Nat → GS
  | 0 => u
  | i + 1 => gv n rc (B (lcol r i)) (lcol s0 i) ax (nI (lcol r i)) (nI 4095) (gvRo n rc B ax r s0 u i)

set_option maxRecDepth 100000 in
set_option maxHeartbeats 4000000 in
theorem c_X1_giveRole (l : Launch) (D : va_G) (cI cJ cZ : ClassId) (q : Nat → Nat) (B : Nat → Int32) (u : GS) (n : Nat) (fc : Int32) (rc : Int32) (ax : Int32) (r : Nat) (s0 : Nat) (h1 : r < 6) (h2 : s0 < 6) (hn : n ≤ 24) : MV l yX1_giveRole wsX1_giveRole { frames := 2, cells := 0, slots := 0, locals := 49 } D (tyL cI cJ cZ) [.ref (q 6), .int ax, .int (nI r), .int (nI s0)] [(q 6, .inr (2, [.ref (q 7), .ref (q 8), .ref (q 9), .ref (q 10), .int (nI n), .int fc, .int rc, .int u.2.2])), (q 7, .inl (cI, 168, .inl B)), (q 8, .inl (cI, 168, .inl u.1)), (q 9, .inl (cJ, 4032, .inr (.inl u.2.1)))] [(q 6, .inr (2, [.ref (q 7), .ref (q 8), .ref (q 9), .ref (q 10), .int (nI n), .int fc, .int rc, .int ((gvRo n rc B ax r s0 u n).2.2)])), (q 7, .inl (cI, 168, .inl B)), (q 8, .inl (cI, 168, .inl ((gvRo n rc B ax r s0 u n).1))), (q 9, .inl (cJ, 4032, .inr (.inl ((gvRo n rc B ax r s0 u n).2.1))))] := by
  refine metV_of (cc := cX1_giveRole) (maxL := 6) (ret := none) (by decide +kernel) rfl (Nat.le_of_ble_eq_true rfl) ?_
  intro K hC hRm hNL hDis hLis hRT hIni hQ
  have hinX1 : ∀ w ∈ wsX10, w ∈ wsX1_giveRole := by decide +kernel
  refine z_iconst (pc := 0) (v := (nI 0)) hC dX1_giveRole_0 (by decide +kernel) ?_
  refine z_istore (pc := 1) hC hNL [(4, .int (nI 0)), (0, .ref (q 6)), (1, .int ax), (2, .int (nI r)), (3, .int (nI s0))] dX1_giveRole_1 (by decide) rfl ?_
  have L3 : ∀ (fu : Nat) (i : Nat) (w : GS) (hi : i ≤ n) (hf : n + 1 ≤ i + fu) (hw : w = gvRo n rc B ax r s0 u i), Z K 0 0 [(q 6, .inr (2, [.ref (q 7), .ref (q 8), .ref (q 9), .ref (q 10), .int (nI n), .int fc, .int rc, .int w.2.2])), (q 7, .inl (cI, 168, .inl B)), (q 8, .inl (cI, 168, .inl w.1)), (q 9, .inl (cJ, 4032, .inr (.inl w.2.1)))] [(4, .int (nI i)), (0, .ref (q 6)), (1, .int ax), (2, .int (nI r)), (3, .int (nI s0))] 3 [] := by
    intro fu
    induction fu with
    | zero =>
      intro i w hi hf hw
      exact absurd trivial (by omega)
    | succ fu ih3 =>
      intro i w hi hf hw
      refine z_iload (pc := 3) hC 0 dX1_giveRole_3 rfl ?_
      refine z_aload_n (pc := 5) hC 1 dX1_giveRole_5 rfl ?_
      refine z_get (pc := 6) (C := RX1) (T := TX1) (N := 8) hC hinX1 0 rfl rfl 4 (by decide) (by decide +kernel) rfl dX1_giveRole_6 ?_
      refine z_ncmp_ge (pc := 9) (tgt := 49) hC dX1_giveRole_9 (by decide) (by omega) (by omega) (fun h9 => ?_) (fun h9 => ?_)
      · exact z_vret (pc := 49) hC hQ hRT (by rw [hw, show i = n by omega]) dX1_giveRole_49
      · refine z_iload_n (pc := 12) hC 3 dX1_giveRole_12 rfl ?_
        refine z_iload (pc := 13) hC 0 dX1_giveRole_13 rfl ?_
        refine z_callSN_I (pc := 15) (y := yX3_linkColumn) (wy := wsX3_linkColumn) (rm := { frames := 0, cells := 0, slots := 0, locals := 0 }) (As := [.int (nI r), .int (nI i)]) (rest := []) (na := 2)  (wc := []) (wc2 := []) hC hRm hDis hLis gX1_giveRole_X3_linkColumn_n92 (by decide +kernel) (by decide +kernel) (by decide +kernel) ⟨by decide +kernel, by decide +kernel⟩ rfl ⟨by decide, by decide⟩ ⟨by decide, by decide⟩ rfl (Nat.le_of_ble_eq_true rfl) (by decide +kernel) (c_X3_linkColumnN _ _ cI cJ cZ (r) (i) ) [] [0, 1, 2, 3] [0, 1, 2, 3] [(q 6, .inr (2, [.ref (q 7), .ref (q 8), .ref (q 9), .ref (q 10), .int (nI n), .int fc, .int rc, .int w.2.2])), (q 7, .inl (cI, 168, .inl B)), (q 8, .inl (cI, 168, .inl w.1)), (q 9, .inl (cJ, 4032, .inr (.inl w.2.1)))] rfl (by decide) rfl (by decide) (by decide) [(q 6, .inr (2, [.ref (q 7), .ref (q 8), .ref (q 9), .ref (q 10), .int (nI n), .int fc, .int rc, .int w.2.2])), (q 7, .inl (cI, 168, .inl B)), (q 8, .inl (cI, 168, .inl w.1)), (q 9, .inl (cJ, 4032, .inr (.inl w.2.1)))] rfl (by decide) rfl dX1_giveRole_15 ?_
        refine z_istore (pc := 18) hC hNL [(5, .int (nI (lcol r i))), (4, .int (nI i)), (0, .ref (q 6)), (1, .int ax), (2, .int (nI r)), (3, .int (nI s0))] dX1_giveRole_18 (by decide) rfl ?_
        refine z_aload_n (pc := 20) hC 2 dX1_giveRole_20 rfl ?_
        refine z_aload_n (pc := 21) hC 2 dX1_giveRole_21 rfl ?_
        refine z_get (pc := 22) (C := RX1) (T := TX1) (N := 8) hC hinX1 0 rfl rfl 0 (by decide) (by decide +kernel) rfl dX1_giveRole_22 ?_
        refine z_iload (pc := 25) hC 0 dX1_giveRole_25 rfl ?_
        refine z_iald (pc := 27) (v := (B (lcol r i))) hC 1 0 rfl rfl (lcol_lt h1 (by omega)) (by decide) (rfl) dX1_giveRole_27 ?_
        refine z_iload_n (pc := 28) hC 5 dX1_giveRole_28 rfl ?_
        refine z_iload (pc := 29) hC 1 dX1_giveRole_29 rfl ?_
        refine z_callSN_I (pc := 31) (y := yX3_linkColumn) (wy := wsX3_linkColumn) (rm := { frames := 0, cells := 0, slots := 0, locals := 0 }) (As := [.int (nI s0), .int (nI i)]) (rest := [.int (B (lcol r i)), .ref (q 6)]) (na := 2)  (wc := []) (wc2 := []) hC hRm hDis hLis gX1_giveRole_X3_linkColumn_n92 (by decide +kernel) (by decide +kernel) (by decide +kernel) ⟨by decide +kernel, by decide +kernel⟩ rfl ⟨by decide, by decide⟩ ⟨by decide, by decide⟩ rfl (Nat.le_of_ble_eq_true rfl) (by decide +kernel) (c_X3_linkColumnN _ _ cI cJ cZ (s0) (i) ) [] [0, 1, 2, 3] [0, 1, 2, 3] [(q 6, .inr (2, [.ref (q 7), .ref (q 8), .ref (q 9), .ref (q 10), .int (nI n), .int fc, .int rc, .int w.2.2])), (q 7, .inl (cI, 168, .inl B)), (q 8, .inl (cI, 168, .inl w.1)), (q 9, .inl (cJ, 4032, .inr (.inl w.2.1)))] rfl (by decide) rfl (by decide) (by decide) [(q 6, .inr (2, [.ref (q 7), .ref (q 8), .ref (q 9), .ref (q 10), .int (nI n), .int fc, .int rc, .int w.2.2])), (q 7, .inl (cI, 168, .inl B)), (q 8, .inl (cI, 168, .inl w.1)), (q 9, .inl (cJ, 4032, .inr (.inl w.2.1)))] rfl (by decide) rfl dX1_giveRole_31 ?_
        refine z_iload_n (pc := 34) hC 3 dX1_giveRole_34 rfl ?_
        refine z_iload (pc := 35) hC 0 dX1_giveRole_35 rfl ?_
        refine z_sipush (pc := 37) (v := (nI 4095)) hC dX1_giveRole_37 (by decide +kernel) ?_
        refine z_callV_V (pc := 40) (y := yX1_give) (wy := wsX1_give) (rm := { frames := 1, cells := 0, slots := 0, locals := 21 }) (As := [.int (B (lcol r i)), .int (nI (lcol s0 i)), .int ax, .int (nI (lcol r i)), .int (nI 4095)]) (rest := []) (na := 5) (C := RX1) (T := TX1) (NF := 8) (ci := 2) (wc := [(q 6, .inr (2, [.ref (q 7), .ref (q 8), .ref (q 9), .ref (q 10), .int (nI n), .int fc, .int rc, .int w.2.2])), (q 8, .inl (cI, 168, .inl w.1)), (q 9, .inl (cJ, 4032, .inr (.inl w.2.1)))]) (wc2 := [(q 6, .inr (2, [.ref (q 7), .ref (q 8), .ref (q 9), .ref (q 10), .int (nI n), .int fc, .int rc, .int ((gv n rc (B (lcol r i)) (lcol s0 i) ax (nI (lcol r i)) (nI 4095) w).2.2)])), (q 8, .inl (cI, 168, .inl ((gv n rc (B (lcol r i)) (lcol s0 i) ax (nI (lcol r i)) (nI 4095) w).1))), (q 9, .inl (cJ, 4032, .inr (.inl ((gv n rc (B (lcol r i)) (lcol s0 i) ax (nI (lcol r i)) (nI 4095) w).2.1))))]) hC hRm hDis hLis 0 rfl rfl gX1_giveRole_X1_give ⟨rfl, by decide +kernel, by decide +kernel⟩ rfl ⟨by decide, by decide⟩ ⟨by decide, by decide⟩ rfl (Nat.le_of_ble_eq_true rfl) (by decide +kernel) (c_X1_give _ _ cI cJ cZ (q) (w) (n) (fc) (rc) (B (lcol r i)) (lcol s0 i) (ax) (nI (lcol r i)) (nI 4095) (lcol_lt h2 (by omega)) (hn)) [0, 2, 3] [1] [1, 0, 2, 3] [(q 7, .inl (cI, 168, .inl B))] rfl (by decide) rfl (by decide) (by decide) [(q 6, .inr (2, [.ref (q 7), .ref (q 8), .ref (q 9), .ref (q 10), .int (nI n), .int fc, .int rc, .int ((gv n rc (B (lcol r i)) (lcol s0 i) ax (nI (lcol r i)) (nI 4095) w).2.2)])), (q 7, .inl (cI, 168, .inl B)), (q 8, .inl (cI, 168, .inl ((gv n rc (B (lcol r i)) (lcol s0 i) ax (nI (lcol r i)) (nI 4095) w).1))), (q 9, .inl (cJ, 4032, .inr (.inl ((gv n rc (B (lcol r i)) (lcol s0 i) ax (nI (lcol r i)) (nI 4095) w).2.1))))] rfl (by decide) rfl dX1_giveRole_40 ?_
        refine z_iinc (pc := 43) (q := 1) (x := (nI i)) (v := (nI (i + 1))) hC hNL [(4, .int (nI (i + 1))), (5, .int (nI (lcol r i))), (0, .ref (q 6)), (1, .int ax), (2, .int (nI r)), (3, .int (nI s0))] dX1_giveRole_43 rfl (nI_add _ _) (by decide) rfl ?_
        refine z_goto (pc := 46) (tgt := 3) hC dX1_giveRole_46 (by decide) ?_
        refine z_lv [0, 2, 3, 4, 5] rfl ?_
        exact ih3 (i + 1) (gv n rc (B (lcol r i)) (lcol s0 i) ax (nI (lcol r i)) (nI 4095) w) (by omega) (by omega) (by rw [hw]; rfl)
  exact L3 (n + 1) (0) (u) (by omega) (by omega) (rfl)

def gvCi (n : Nat) (rc : Int32) (B : Nat → Int32) (ax : Int32) (r s0 t0 c0 : Nat) (u : GS) : Nat → GS
  | 0 => u
  | i + 1 => if inB (nI i) (B (lcol s0 c0)) = true then gv n rc (B (lcol r i)) (lcol t0 c0) ax (nI (lcol r i)) (nI (cod i (lcol s0 c0))) (gvCi n rc B ax r s0 t0 c0 u i) else gvCi n rc B ax r s0 t0 c0 u i
theorem gvCi_t {n : Nat} {rc : Int32} {B : Nat → Int32} {ax : Int32} {r s0 t0 c0 : Nat} {u : GS} {i : Nat} (h : inB (nI i) (B (lcol s0 c0)) = true) : gvCi n rc B ax r s0 t0 c0 u (i + 1) = gv n rc (B (lcol r i)) (lcol t0 c0) ax (nI (lcol r i)) (nI (cod i (lcol s0 c0))) (gvCi n rc B ax r s0 t0 c0 u i) := if_pos h
theorem gvCi_f {n : Nat} {rc : Int32} {B : Nat → Int32} {ax : Int32} {r s0 t0 c0 : Nat} {u : GS} {i : Nat} (h : inB (nI i) (B (lcol s0 c0)) = false) : gvCi n rc B ax r s0 t0 c0 u (i + 1) = gvCi n rc B ax r s0 t0 c0 u i := if_neg (by rw [h]; decide)
def gvC (n : Nat) (rc : Int32) (B : Nat → Int32) (ax : Int32) (r s0 t0 : Nat) (u : GS) : Nat → GS
  | 0 => u
  | c0 + 1 => if B (lcol s0 c0) = 0 then gvC n rc B ax r s0 t0 u c0 else gvCi n rc B ax r s0 t0 c0 (gvC n rc B ax r s0 t0 u c0) n
theorem gvC_e {n : Nat} {rc : Int32} {B : Nat → Int32} {ax : Int32} {r s0 t0 : Nat} {u : GS} {c0 : Nat} (h : B (lcol s0 c0) = 0) : gvC n rc B ax r s0 t0 u (c0 + 1) = gvC n rc B ax r s0 t0 u c0 := if_pos h
theorem gvC_n {n : Nat} {rc : Int32} {B : Nat → Int32} {ax : Int32} {r s0 t0 : Nat} {u : GS} {c0 : Nat} (h : ¬ B (lcol s0 c0) = 0) : gvC n rc B ax r s0 t0 u (c0 + 1) = gvCi n rc B ax r s0 t0 c0 (gvC n rc B ax r s0 t0 u c0) n := if_neg h
theorem gvC_x {n : Nat} {rc : Int32} {B : Nat → Int32} {ax : Int32} {r s0 t0 : Nat} {u v w : GS} {c0 i : Nat} (hi : i = n) (hv : v = gvC n rc B ax r s0 t0 u c0) (hw : w = gvCi n rc B ax r s0 t0 c0 v i) (hz : B (lcol s0 c0) = 0 → i = 0) : w = gvC n rc B ax r s0 t0 u (c0 + 1) := by
  by_cases h : B (lcol s0 c0) = 0
  · rw [gvC_e h, hw, hz h, hv]; rfl
  · rw [gvC_n h, hw, hi, hv]
theorem gvC_x2 {n : Nat} {rc : Int32} {B : Nat → Int32} {ax : Int32} {r s0 t0 : Nat} {u v w : GS} {c0 i : Nat} (h : B (lcol s0 c0) = 0) (hv : v = gvC n rc B ax r s0 t0 u c0) (hw : w = gvCi n rc B ax r s0 t0 c0 v i) (hz : B (lcol s0 c0) = 0 → i = 0) : w = gvC n rc B ax r s0 t0 u (c0 + 1) := by
  rw [gvC_e h, hw, hz h, hv]; rfl

set_option maxRecDepth 100000 in
set_option maxHeartbeats 4000000 in
theorem c_X1_giveChain (l : Launch) (D : va_G) (cI cJ cZ : ClassId) (q : Nat → Nat) (B : Nat → Int32) (u : GS) (n : Nat) (fc : Int32) (rc : Int32) (ax : Int32) (r : Nat) (s0 : Nat) (t0 : Nat) (h1 : r < 6) (h2 : s0 < 6) (h3 : t0 < 6) (hn : n ≤ 24) : MV l yX1_giveChain wsX1_giveChain { frames := 2, cells := 0, slots := 0, locals := 49 } D (tyL cI cJ cZ) [.ref (q 6), .int ax, .int (nI r), .int (nI s0), .int (nI t0)] [(q 6, .inr (2, [.ref (q 7), .ref (q 8), .ref (q 9), .ref (q 10), .int (nI n), .int fc, .int rc, .int u.2.2])), (q 7, .inl (cI, 168, .inl B)), (q 8, .inl (cI, 168, .inl u.1)), (q 9, .inl (cJ, 4032, .inr (.inl u.2.1)))] [(q 6, .inr (2, [.ref (q 7), .ref (q 8), .ref (q 9), .ref (q 10), .int (nI n), .int fc, .int rc, .int ((gvC n rc B ax r s0 t0 u n).2.2)])), (q 7, .inl (cI, 168, .inl B)), (q 8, .inl (cI, 168, .inl ((gvC n rc B ax r s0 t0 u n).1))), (q 9, .inl (cJ, 4032, .inr (.inl ((gvC n rc B ax r s0 t0 u n).2.1))))] := by
  refine metV_of (cc := cX1_giveChain) (maxL := 10) (ret := none) (by decide +kernel) rfl (Nat.le_of_ble_eq_true rfl) ?_
  intro K hC hRm hNL hDis hLis hRT hIni hQ
  have hinX1 : ∀ w ∈ wsX10, w ∈ wsX1_giveChain := by decide +kernel
  refine z_iconst (pc := 0) (v := (nI 0)) hC dX1_giveChain_0 (by decide +kernel) ?_
  refine z_istore (pc := 1) hC hNL [(5, .int (nI 0)), (0, .ref (q 6)), (1, .int ax), (2, .int (nI r)), (3, .int (nI s0)), (4, .int (nI t0))] dX1_giveChain_1 (by decide) rfl ?_
  have L3 : ∀ (fu : Nat) (c0 : Nat) (v : GS) (hi : c0 ≤ n) (hf : n + 1 ≤ c0 + fu) (hv : v = gvC n rc B ax r s0 t0 u c0), Z K 0 0 [(q 6, .inr (2, [.ref (q 7), .ref (q 8), .ref (q 9), .ref (q 10), .int (nI n), .int fc, .int rc, .int v.2.2])), (q 7, .inl (cI, 168, .inl B)), (q 8, .inl (cI, 168, .inl v.1)), (q 9, .inl (cJ, 4032, .inr (.inl v.2.1)))] [(5, .int (nI c0)), (0, .ref (q 6)), (1, .int ax), (2, .int (nI r)), (3, .int (nI s0)), (4, .int (nI t0))] 3 [] := by
    intro fu
    induction fu with
    | zero =>
      intro c0 v hi hf hv
      exact absurd trivial (by omega)
    | succ fu ih3 =>
      intro c0 v hi hf hv
      refine z_iload (pc := 3) hC 0 dX1_giveChain_3 rfl ?_
      refine z_aload_n (pc := 5) hC 1 dX1_giveChain_5 rfl ?_
      refine z_get (pc := 6) (C := RX1) (T := TX1) (N := 8) hC hinX1 0 rfl rfl 4 (by decide) (by decide +kernel) rfl dX1_giveChain_6 ?_
      refine z_ncmp_ge (pc := 9) (tgt := 104) hC dX1_giveChain_9 (by decide) (by omega) (by omega) (fun h9 => ?_) (fun h9 => ?_)
      · exact z_vret (pc := 104) hC hQ hRT (by rw [hv, show c0 = n by omega]) dX1_giveChain_104
      · refine z_iload_n (pc := 12) hC 4 dX1_giveChain_12 rfl ?_
        refine z_iload (pc := 13) hC 0 dX1_giveChain_13 rfl ?_
        refine z_callSN_I (pc := 15) (y := yX3_linkColumn) (wy := wsX3_linkColumn) (rm := { frames := 0, cells := 0, slots := 0, locals := 0 }) (As := [.int (nI s0), .int (nI c0)]) (rest := []) (na := 2)  (wc := []) (wc2 := []) hC hRm hDis hLis gX1_giveChain_X3_linkColumn_n92 (by decide +kernel) (by decide +kernel) (by decide +kernel) ⟨by decide +kernel, by decide +kernel⟩ rfl ⟨by decide, by decide⟩ ⟨by decide, by decide⟩ rfl (Nat.le_of_ble_eq_true rfl) (by decide +kernel) (c_X3_linkColumnN _ _ cI cJ cZ (s0) (c0) ) [] [0, 1, 2, 3] [0, 1, 2, 3] [(q 6, .inr (2, [.ref (q 7), .ref (q 8), .ref (q 9), .ref (q 10), .int (nI n), .int fc, .int rc, .int v.2.2])), (q 7, .inl (cI, 168, .inl B)), (q 8, .inl (cI, 168, .inl v.1)), (q 9, .inl (cJ, 4032, .inr (.inl v.2.1)))] rfl (by decide) rfl (by decide) (by decide) [(q 6, .inr (2, [.ref (q 7), .ref (q 8), .ref (q 9), .ref (q 10), .int (nI n), .int fc, .int rc, .int v.2.2])), (q 7, .inl (cI, 168, .inl B)), (q 8, .inl (cI, 168, .inl v.1)), (q 9, .inl (cJ, 4032, .inr (.inl v.2.1)))] rfl (by decide) rfl dX1_giveChain_15 ?_
        refine z_istore (pc := 18) hC hNL [(6, .int (nI (lcol s0 c0))), (5, .int (nI c0)), (0, .ref (q 6)), (1, .int ax), (2, .int (nI r)), (3, .int (nI s0)), (4, .int (nI t0))] dX1_giveChain_18 (by decide) rfl ?_
        refine z_aload_n (pc := 20) hC 2 dX1_giveChain_20 rfl ?_
        refine z_get (pc := 21) (C := RX1) (T := TX1) (N := 8) hC hinX1 0 rfl rfl 0 (by decide) (by decide +kernel) rfl dX1_giveChain_21 ?_
        refine z_iload (pc := 24) hC 0 dX1_giveChain_24 rfl ?_
        refine z_iald (pc := 26) (v := (B (lcol s0 c0))) hC 1 0 rfl rfl (lcol_lt h2 (by omega)) (by decide) (rfl) dX1_giveChain_26 ?_
        refine z_istore (pc := 27) hC hNL [(7, .int (B (lcol s0 c0))), (6, .int (nI (lcol s0 c0))), (5, .int (nI c0)), (0, .ref (q 6)), (1, .int ax), (2, .int (nI r)), (3, .int (nI s0)), (4, .int (nI t0))] dX1_giveChain_27 (by decide) rfl ?_
        refine z_iconst (pc := 29) (v := (nI 0)) hC dX1_giveChain_29 (by decide +kernel) ?_
        refine z_istore (pc := 30) hC hNL [(8, .int (nI 0)), (7, .int (B (lcol s0 c0))), (6, .int (nI (lcol s0 c0))), (5, .int (nI c0)), (0, .ref (q 6)), (1, .int ax), (2, .int (nI r)), (3, .int (nI s0)), (4, .int (nI t0))] dX1_giveChain_30 (by decide) rfl ?_
        have L32 : ∀ (fu : Nat) (i : Nat) (w : GS) (hj : i ≤ n) (hg : n + 1 ≤ i + fu) (hw : w = gvCi n rc B ax r s0 t0 c0 v i) (hz : B (lcol s0 c0) = 0 → i = 0), Z K 0 0 [(q 6, .inr (2, [.ref (q 7), .ref (q 8), .ref (q 9), .ref (q 10), .int (nI n), .int fc, .int rc, .int w.2.2])), (q 7, .inl (cI, 168, .inl B)), (q 8, .inl (cI, 168, .inl w.1)), (q 9, .inl (cJ, 4032, .inr (.inl w.2.1)))] [(8, .int (nI i)), (7, .int (B (lcol s0 c0))), (6, .int (nI (lcol s0 c0))), (5, .int (nI c0)), (0, .ref (q 6)), (1, .int ax), (2, .int (nI r)), (3, .int (nI s0)), (4, .int (nI t0))] 32 [] := by
          intro fu
          induction fu with
          | zero =>
            intro i w hj hg hw hz
            exact absurd trivial (by omega)
          | succ fu ih32 =>
            intro i w hj hg hw hz
            refine z_iload (pc := 32) hC 0 dX1_giveChain_32 rfl ?_
            refine z_aload_n (pc := 34) hC 4 dX1_giveChain_34 rfl ?_
            refine z_get (pc := 35) (C := RX1) (T := TX1) (N := 8) hC hinX1 0 rfl rfl 4 (by decide) (by decide +kernel) rfl dX1_giveChain_35 ?_
            refine z_ncmp_ge (pc := 38) (tgt := 98) hC dX1_giveChain_38 (by decide) (by omega) (by omega) (fun h38 => ?_) (fun h38 => ?_)
            · refine z_iinc (pc := 98) (q := 3) (x := (nI c0)) (v := (nI (c0 + 1))) hC hNL [(5, .int (nI (c0 + 1))), (8, .int (nI i)), (7, .int (B (lcol s0 c0))), (6, .int (nI (lcol s0 c0))), (0, .ref (q 6)), (1, .int ax), (2, .int (nI r)), (3, .int (nI s0)), (4, .int (nI t0))] dX1_giveChain_98 rfl (nI_add _ _) (by decide) rfl ?_
              refine z_goto (pc := 101) (tgt := 3) hC dX1_giveChain_101 (by decide) ?_
              refine z_lv [0, 4, 5, 6, 7, 8] rfl ?_
              exact ih3 (c0 + 1) (w) (by omega) (by omega) (by first | exact gvC_x (by omega) hv hw hz | exact gvC_x2 h43 hv hw hz)
            · refine z_iload (pc := 41) hC 1 dX1_giveChain_41 rfl ?_
              refine z_if_eq (pc := 43) (tgt := 98) hC dX1_giveChain_43 (by decide) (fun h43 => ?_) (fun h43 => ?_)
              · refine z_iinc (pc := 98) (q := 3) (x := (nI c0)) (v := (nI (c0 + 1))) hC hNL [(5, .int (nI (c0 + 1))), (8, .int (nI i)), (7, .int (B (lcol s0 c0))), (6, .int (nI (lcol s0 c0))), (0, .ref (q 6)), (1, .int ax), (2, .int (nI r)), (3, .int (nI s0)), (4, .int (nI t0))] dX1_giveChain_98 rfl (nI_add _ _) (by decide) rfl ?_
                refine z_goto (pc := 101) (tgt := 3) hC dX1_giveChain_101 (by decide) ?_
                refine z_lv [0, 4, 5, 6, 7, 8] rfl ?_
                exact ih3 (c0 + 1) (w) (by omega) (by omega) (by first | exact gvC_x (by omega) hv hw hz | exact gvC_x2 h43 hv hw hz)
              · refine z_iload (pc := 46) hC 0 dX1_giveChain_46 rfl ?_
                refine z_iload (pc := 48) hC 1 dX1_giveChain_48 rfl ?_
                refine z_callSN_I (pc := 50) (y := yX3_isIn) (wy := wsX3_isIn) (rm := { frames := 0, cells := 0, slots := 0, locals := 0 }) (As := [.int (nI i), .int (B (lcol s0 c0))]) (rest := []) (na := 2)  (wc := []) (wc2 := []) hC hRm hDis hLis gX1_giveChain_X3_isIn_n112 (by decide +kernel) (by decide +kernel) (by decide +kernel) ⟨by decide +kernel, by decide +kernel⟩ rfl ⟨by decide, by decide⟩ ⟨by decide, by decide⟩ rfl (Nat.le_of_ble_eq_true rfl) (by decide +kernel) (c_X3_isIn _ _ cI cJ cZ (nI i) (B (lcol s0 c0)) ) [] [0, 1, 2, 3] [0, 1, 2, 3] [(q 6, .inr (2, [.ref (q 7), .ref (q 8), .ref (q 9), .ref (q 10), .int (nI n), .int fc, .int rc, .int w.2.2])), (q 7, .inl (cI, 168, .inl B)), (q 8, .inl (cI, 168, .inl w.1)), (q 9, .inl (cJ, 4032, .inr (.inl w.2.1)))] rfl (by decide) rfl (by decide) (by decide) [(q 6, .inr (2, [.ref (q 7), .ref (q 8), .ref (q 9), .ref (q 10), .int (nI n), .int fc, .int rc, .int w.2.2])), (q 7, .inl (cI, 168, .inl B)), (q 8, .inl (cI, 168, .inl w.1)), (q 9, .inl (cJ, 4032, .inr (.inl w.2.1)))] rfl (by decide) rfl dX1_giveChain_50 ?_
                refine z_bif_eq (pc := 53) (tgt := 92) hC dX1_giveChain_53 (by decide) (fun h53 => ?_) (fun h53 => ?_)
                · refine z_iinc (pc := 92) (q := 0) (x := (nI i)) (v := (nI (i + 1))) hC hNL [(8, .int (nI (i + 1))), (7, .int (B (lcol s0 c0))), (6, .int (nI (lcol s0 c0))), (5, .int (nI c0)), (0, .ref (q 6)), (1, .int ax), (2, .int (nI r)), (3, .int (nI s0)), (4, .int (nI t0))] dX1_giveChain_92 rfl (nI_add _ _) (by decide) rfl ?_
                  refine z_goto (pc := 95) (tgt := 32) hC dX1_giveChain_95 (by decide) ?_
                  exact ih32 (i + 1) (w) (by omega) (by omega) (by first | rw [gvCi_t h53, hw] | rw [gvCi_f h53, hw]) (fun h9 => absurd h9 h43)
                · refine z_iload_n (pc := 56) hC 6 dX1_giveChain_56 rfl ?_
                  refine z_iload (pc := 57) hC 0 dX1_giveChain_57 rfl ?_
                  refine z_callSN_I (pc := 59) (y := yX3_linkColumn) (wy := wsX3_linkColumn) (rm := { frames := 0, cells := 0, slots := 0, locals := 0 }) (As := [.int (nI r), .int (nI i)]) (rest := []) (na := 2)  (wc := []) (wc2 := []) hC hRm hDis hLis gX1_giveChain_X3_linkColumn_n92 (by decide +kernel) (by decide +kernel) (by decide +kernel) ⟨by decide +kernel, by decide +kernel⟩ rfl ⟨by decide, by decide⟩ ⟨by decide, by decide⟩ rfl (Nat.le_of_ble_eq_true rfl) (by decide +kernel) (c_X3_linkColumnN _ _ cI cJ cZ (r) (i) ) [] [0, 1, 2, 3] [0, 1, 2, 3] [(q 6, .inr (2, [.ref (q 7), .ref (q 8), .ref (q 9), .ref (q 10), .int (nI n), .int fc, .int rc, .int w.2.2])), (q 7, .inl (cI, 168, .inl B)), (q 8, .inl (cI, 168, .inl w.1)), (q 9, .inl (cJ, 4032, .inr (.inl w.2.1)))] rfl (by decide) rfl (by decide) (by decide) [(q 6, .inr (2, [.ref (q 7), .ref (q 8), .ref (q 9), .ref (q 10), .int (nI n), .int fc, .int rc, .int w.2.2])), (q 7, .inl (cI, 168, .inl B)), (q 8, .inl (cI, 168, .inl w.1)), (q 9, .inl (cJ, 4032, .inr (.inl w.2.1)))] rfl (by decide) rfl dX1_giveChain_59 ?_
                  refine z_istore (pc := 62) hC hNL [(9, .int (nI (lcol r i))), (8, .int (nI i)), (7, .int (B (lcol s0 c0))), (6, .int (nI (lcol s0 c0))), (5, .int (nI c0)), (0, .ref (q 6)), (1, .int ax), (2, .int (nI r)), (3, .int (nI s0)), (4, .int (nI t0))] dX1_giveChain_62 (by decide) rfl ?_
                  refine z_aload_n (pc := 64) hC 5 dX1_giveChain_64 rfl ?_
                  refine z_aload_n (pc := 65) hC 5 dX1_giveChain_65 rfl ?_
                  refine z_get (pc := 66) (C := RX1) (T := TX1) (N := 8) hC hinX1 0 rfl rfl 0 (by decide) (by decide +kernel) rfl dX1_giveChain_66 ?_
                  refine z_iload (pc := 69) hC 0 dX1_giveChain_69 rfl ?_
                  refine z_iald (pc := 71) (v := (B (lcol r i))) hC 1 0 rfl rfl (lcol_lt h1 (by omega)) (by decide) (rfl) dX1_giveChain_71 ?_
                  refine z_iload (pc := 72) hC 9 dX1_giveChain_72 rfl ?_
                  refine z_iload (pc := 74) hC 4 dX1_giveChain_74 rfl ?_
                  refine z_callSN_I (pc := 76) (y := yX3_linkColumn) (wy := wsX3_linkColumn) (rm := { frames := 0, cells := 0, slots := 0, locals := 0 }) (As := [.int (nI t0), .int (nI c0)]) (rest := [.int (B (lcol r i)), .ref (q 6)]) (na := 2)  (wc := []) (wc2 := []) hC hRm hDis hLis gX1_giveChain_X3_linkColumn_n92 (by decide +kernel) (by decide +kernel) (by decide +kernel) ⟨by decide +kernel, by decide +kernel⟩ rfl ⟨by decide, by decide⟩ ⟨by decide, by decide⟩ rfl (Nat.le_of_ble_eq_true rfl) (by decide +kernel) (c_X3_linkColumnN _ _ cI cJ cZ (t0) (c0) ) [] [0, 1, 2, 3] [0, 1, 2, 3] [(q 6, .inr (2, [.ref (q 7), .ref (q 8), .ref (q 9), .ref (q 10), .int (nI n), .int fc, .int rc, .int w.2.2])), (q 7, .inl (cI, 168, .inl B)), (q 8, .inl (cI, 168, .inl w.1)), (q 9, .inl (cJ, 4032, .inr (.inl w.2.1)))] rfl (by decide) rfl (by decide) (by decide) [(q 6, .inr (2, [.ref (q 7), .ref (q 8), .ref (q 9), .ref (q 10), .int (nI n), .int fc, .int rc, .int w.2.2])), (q 7, .inl (cI, 168, .inl B)), (q 8, .inl (cI, 168, .inl w.1)), (q 9, .inl (cJ, 4032, .inr (.inl w.2.1)))] rfl (by decide) rfl dX1_giveChain_76 ?_
                  refine z_iload_n (pc := 79) hC 6 dX1_giveChain_79 rfl ?_
                  refine z_iload (pc := 80) hC 0 dX1_giveChain_80 rfl ?_
                  refine z_iload (pc := 82) hC 1 dX1_giveChain_82 rfl ?_
                  refine z_iload (pc := 84) hC 3 dX1_giveChain_84 rfl ?_
                  refine z_callSN_I (pc := 86) (y := yX3_codeOf) (wy := wsX3_codeOf) (rm := { frames := 0, cells := 0, slots := 0, locals := 0 }) (As := [.int (nI i), .int (nI (lcol s0 c0))]) (rest := [.int (nI (lcol r i)), .int ax, .int (nI (lcol t0 c0)), .int (B (lcol r i)), .ref (q 6)]) (na := 2)  (wc := []) (wc2 := []) hC hRm hDis hLis gX1_giveChain_X3_codeOf_n116 (by decide +kernel) (by decide +kernel) (by decide +kernel) ⟨by decide +kernel, by decide +kernel⟩ rfl ⟨by decide, by decide⟩ ⟨by decide, by decide⟩ rfl (Nat.le_of_ble_eq_true rfl) (by decide +kernel) (c_X3_codeOfN _ _ cI cJ cZ (i) (lcol s0 c0) (Nat.lt_trans (lcol_lt h2 (show c0 < 24 by omega)) (by decide))) [] [0, 1, 2, 3] [0, 1, 2, 3] [(q 6, .inr (2, [.ref (q 7), .ref (q 8), .ref (q 9), .ref (q 10), .int (nI n), .int fc, .int rc, .int w.2.2])), (q 7, .inl (cI, 168, .inl B)), (q 8, .inl (cI, 168, .inl w.1)), (q 9, .inl (cJ, 4032, .inr (.inl w.2.1)))] rfl (by decide) rfl (by decide) (by decide) [(q 6, .inr (2, [.ref (q 7), .ref (q 8), .ref (q 9), .ref (q 10), .int (nI n), .int fc, .int rc, .int w.2.2])), (q 7, .inl (cI, 168, .inl B)), (q 8, .inl (cI, 168, .inl w.1)), (q 9, .inl (cJ, 4032, .inr (.inl w.2.1)))] rfl (by decide) rfl dX1_giveChain_86 ?_
                  refine z_callV_V (pc := 89) (y := yX1_give) (wy := wsX1_give) (rm := { frames := 1, cells := 0, slots := 0, locals := 21 }) (As := [.int (B (lcol r i)), .int (nI (lcol t0 c0)), .int ax, .int (nI (lcol r i)), .int (nI (cod i (lcol s0 c0)))]) (rest := []) (na := 5) (C := RX1) (T := TX1) (NF := 8) (ci := 2) (wc := [(q 6, .inr (2, [.ref (q 7), .ref (q 8), .ref (q 9), .ref (q 10), .int (nI n), .int fc, .int rc, .int w.2.2])), (q 8, .inl (cI, 168, .inl w.1)), (q 9, .inl (cJ, 4032, .inr (.inl w.2.1)))]) (wc2 := [(q 6, .inr (2, [.ref (q 7), .ref (q 8), .ref (q 9), .ref (q 10), .int (nI n), .int fc, .int rc, .int ((gv n rc (B (lcol r i)) (lcol t0 c0) ax (nI (lcol r i)) (nI (cod i (lcol s0 c0))) w).2.2)])), (q 8, .inl (cI, 168, .inl ((gv n rc (B (lcol r i)) (lcol t0 c0) ax (nI (lcol r i)) (nI (cod i (lcol s0 c0))) w).1))), (q 9, .inl (cJ, 4032, .inr (.inl ((gv n rc (B (lcol r i)) (lcol t0 c0) ax (nI (lcol r i)) (nI (cod i (lcol s0 c0))) w).2.1))))]) hC hRm hDis hLis 0 rfl rfl gX1_giveChain_X1_give ⟨rfl, by decide +kernel, by decide +kernel⟩ rfl ⟨by decide, by decide⟩ ⟨by decide, by decide⟩ rfl (Nat.le_of_ble_eq_true rfl) (by decide +kernel) (c_X1_give _ _ cI cJ cZ (q) (w) (n) (fc) (rc) (B (lcol r i)) (lcol t0 c0) (ax) (nI (lcol r i)) (nI (cod i (lcol s0 c0))) (lcol_lt h3 (by omega)) (hn)) [0, 2, 3] [1] [1, 0, 2, 3] [(q 7, .inl (cI, 168, .inl B))] rfl (by decide) rfl (by decide) (by decide) [(q 6, .inr (2, [.ref (q 7), .ref (q 8), .ref (q 9), .ref (q 10), .int (nI n), .int fc, .int rc, .int ((gv n rc (B (lcol r i)) (lcol t0 c0) ax (nI (lcol r i)) (nI (cod i (lcol s0 c0))) w).2.2)])), (q 7, .inl (cI, 168, .inl B)), (q 8, .inl (cI, 168, .inl ((gv n rc (B (lcol r i)) (lcol t0 c0) ax (nI (lcol r i)) (nI (cod i (lcol s0 c0))) w).1))), (q 9, .inl (cJ, 4032, .inr (.inl ((gv n rc (B (lcol r i)) (lcol t0 c0) ax (nI (lcol r i)) (nI (cod i (lcol s0 c0))) w).2.1))))] rfl (by decide) rfl dX1_giveChain_89 ?_
                  refine z_iinc (pc := 92) (q := 1) (x := (nI i)) (v := (nI (i + 1))) hC hNL [(8, .int (nI (i + 1))), (9, .int (nI (lcol r i))), (7, .int (B (lcol s0 c0))), (6, .int (nI (lcol s0 c0))), (5, .int (nI c0)), (0, .ref (q 6)), (1, .int ax), (2, .int (nI r)), (3, .int (nI s0)), (4, .int (nI t0))] dX1_giveChain_92 rfl (nI_add _ _) (by decide) rfl ?_
                  refine z_goto (pc := 95) (tgt := 32) hC dX1_giveChain_95 (by decide) ?_
                  refine z_lv [0, 2, 3, 4, 5, 6, 7, 8, 9] rfl ?_
                  exact ih32 (i + 1) (gv n rc (B (lcol r i)) (lcol t0 c0) ax (nI (lcol r i)) (nI (cod i (lcol s0 c0))) w) (by omega) (by omega) (by first | rw [gvCi_t h53, hw] | rw [gvCi_f h53, hw]) (fun h9 => absurd h9 h43)
        exact L32 (n + 1) (0) (v) (by omega) (by omega) (rfl) (fun _ => rfl)
  exact L3 (n + 1) (0) (u) (by omega) (by omega) (rfl)
