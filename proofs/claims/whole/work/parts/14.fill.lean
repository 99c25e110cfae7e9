/-! the order of facts: listFactsOf, listColumns, endRound -/
abbrev OS : Type := (Nat → Int32) × Nat
def lfo (B N0 : Nat → Int32) (a fr : Nat) (o : OS) : Nat → OS
  | 0 => o
  | t + 1 => if inB (nI a) (N0 (fr + t) &&& (B (fr + t) ^^^ (-1))) = true ∧ (lfo B N0 a fr o t).2 < 4032 then (upd (lfo B N0 a fr o t).1 (lfo B N0 a fr o t).2 (nI (cod a (fr + t))), (lfo B N0 a fr o t).2 + 1) else lfo B N0 a fr o t
theorem lfo_t {B N0 : Nat → Int32} {a fr : Nat} {o : OS} {t : Nat} (h1 : inB (nI a) (N0 (fr + t) &&& (B (fr + t) ^^^ (-1))) = true) (h2 : (lfo B N0 a fr o t).2 < 4032) : lfo B N0 a fr o (t + 1) = (upd (lfo B N0 a fr o t).1 (lfo B N0 a fr o t).2 (nI (cod a (fr + t))), (lfo B N0 a fr o t).2 + 1) := if_pos ⟨h1, h2⟩
theorem lfo_f {B N0 : Nat → Int32} {a fr : Nat} {o : OS} {t : Nat} (h1 : inB (nI a) (N0 (fr + t) &&& (B (fr + t) ^^^ (-1))) = false) : lfo B N0 a fr o (t + 1) = lfo B N0 a fr o t := if_neg (fun h => by rw [h1] at h; exact absurd h.1 (by decide))
theorem lfo_g {B N0 : Nat → Int32} {a fr : Nat} {o : OS} {t : Nat} (h1 : 4032 ≤ (lfo B N0 a fr o t).2) : lfo B N0 a fr o (t + 1) = lfo B N0 a fr o t := if_neg (fun h => absurd h.2 (by omega))
theorem lfo_le {B N0 : Nat → Int32} {a fr : Nat} {o : OS} (h : o.2 ≤ 4032) : ∀ t : Nat, (lfo B N0 a fr o t).2 ≤ 4032
  | 0 => h
  | t + 1 => by
    have := lfo_le (B := B) (N0 := N0) (a := a) (fr := fr) h t
    unfold lfo
    split
    · rename_i h1; exact h1.2
    · exact this
def lcs (B N0 : Nat → Int32) (ga : Int32) (fr en : Nat) (o : OS) : Nat → OS
  | 0 => o
  | i + 1 => if inB (nI i) ga = true then lfo B N0 i fr (lcs B N0 ga fr en o i) (en - fr) else lcs B N0 ga fr en o i
theorem lcs_t {B N0 : Nat → Int32} {ga : Int32} {fr en : Nat} {o : OS} {i : Nat} (h : inB (nI i) ga = true) : lcs B N0 ga fr en o (i + 1) = lfo B N0 i fr (lcs B N0 ga fr en o i) (en - fr) := if_pos h
theorem lcs_f {B N0 : Nat → Int32} {ga : Int32} {fr en : Nat} {o : OS} {i : Nat} (h : inB (nI i) ga = false) : lcs B N0 ga fr en o (i + 1) = lcs B N0 ga fr en o i := if_neg (by rw [h]; decide)
theorem lcs_le {B N0 : Nat → Int32} {ga : Int32} {fr en : Nat} {o : OS} (h : o.2 ≤ 4032) : ∀ i : Nat, (lcs B N0 ga fr en o i).2 ≤ 4032
  | 0 => h
  | i + 1 => by
    have := lcs_le (B := B) (N0 := N0) (ga := ga) (fr := fr) (en := en) h i
    unfold lcs
    split
    · exact lfo_le this _
    · exact this
def erO (n : Nat) (B N0 : Nat → Int32) (ga : Int32) (o : OS) : OS := if ga = 0 then o else lcs B N0 ga 24 168 (lcs B N0 ga 0 24 o n) n
def erR (ga : Int32) (r : Nat) : Nat := if ga = 0 then r else r + 1
theorem erO_le {n : Nat} {B N0 : Nat → Int32} {ga : Int32} {o : OS} (h : o.2 ≤ 4032) : (erO n B N0 ga o).2 ≤ 4032 := by
  unfold erO
  split
  · exact h
  · exact lcs_le (lcs_le h n) n
theorem erO_e {n : Nat} {B N0 : Nat → Int32} {ga : Int32} {o : OS} (h : ga = 0) : erO n B N0 ga o = o := if_pos h
theorem erO_n {n : Nat} {B N0 : Nat → Int32} {ga : Int32} {o : OS} (h : ga ≠ 0) : erO n B N0 ga o = lcs B N0 ga 24 168 (lcs B N0 ga 0 24 o n) n := if_neg h
theorem erR_e {ga : Int32} {r : Nat} (h : ga = 0) : erR ga r = r := if_pos h
theorem erR_n {ga : Int32} {r : Nat} (h : ga ≠ 0) : erR ga r = r + 1 := if_neg h

set_option maxRecDepth 100000 in
set_option maxHeartbeats 4000000 in
theorem c_X1_listFactsOf (l : Launch) (D : va_G) (cI cJ cZ : ClassId) (q : Nat → Nat) (B : Nat → Int32) (N0 : Nat → Int32) (o : OS) (n : Nat) (rc : Int32) (ga : Int32) (a : Nat) (fr : Nat) (en : Nat) (ha : a < 24) (h1 : fr ≤ en) (h2 : en ≤ 168) (ho : o.2 ≤ 4032) : MV l yX1_listFactsOf wsX1_listFactsOf { frames := 1, cells := 0, slots := 0, locals := 21 } D (tyL cI cJ cZ) [.ref (q 6), .int (nI a), .int (nI fr), .int (nI en)] [(q 6, .inr (2, [.ref (q 7), .ref (q 8), .ref (q 9), .ref (q 10), .int (nI n), .int (nI (o.2)), .int rc, .int ga])), (q 7, .inl (cI, 168, .inl B)), (q 8, .inl (cI, 168, .inl N0)), (q 10, .inl (cI, 4032, .inl o.1))] [(q 6, .inr (2, [.ref (q 7), .ref (q 8), .ref (q 9), .ref (q 10), .int (nI n), .int (nI ((lfo B N0 a fr o (en - fr)).2)), .int rc, .int ga])), (q 7, .inl (cI, 168, .inl B)), (q 8, .inl (cI, 168, .inl N0)), (q 10, .inl (cI, 4032, .inl ((lfo B N0 a fr o (en - fr)).1)))] := by
  refine metV_of (cc := cX1_listFactsOf) (maxL := 5) (ret := none) (by decide +kernel) rfl (Nat.le_of_ble_eq_true rfl) ?_
  intro K hC hRm hNL hDis hLis hRT hIni hQ
  have hinX1 : ∀ w ∈ wsX10, w ∈ wsX1_listFactsOf := by decide +kernel
  refine z_iload_n (pc := 0) hC 2 dX1_listFactsOf_0 rfl ?_
  refine z_istore (pc := 1) hC hNL [(4, .int (nI fr)), (0, .ref (q 6)), (1, .int (nI a)), (2, .int (nI fr)), (3, .int (nI en))] dX1_listFactsOf_1 (by decide) rfl ?_
  have L3 : ∀ (fu : Nat) (t : Nat) (w : OS) (hi : fr + t ≤ en) (hf : en - fr + 1 ≤ t + fu) (hwl : w.2 ≤ 4032) (hw : w = lfo B N0 a fr o t), Z K 0 0 [(q 6, .inr (2, [.ref (q 7), .ref (q 8), .ref (q 9), .ref (q 10), .int (nI n), .int (nI (w.2)), .int rc, .int ga])), (q 7, .inl (cI, 168, .inl B)), (q 8, .inl (cI, 168, .inl N0)), (q 10, .inl (cI, 4032, .inl w.1))] [(4, .int (nI (fr + t))), (0, .ref (q 6)), (1, .int (nI a)), (2, .int (nI fr)), (3, .int (nI en))] 3 [] := by
    intro fu
    induction fu with
    | zero =>
      intro t w hi hf hwl hw
      exact absurd trivial (by omega)
    | succ fu ih3 =>
      intro t w hi hf hwl hw
      refine z_iload (pc := 3) hC 0 dX1_listFactsOf_3 rfl ?_
      refine z_iload_n (pc := 5) hC 4 dX1_listFactsOf_5 rfl ?_
      refine z_ncmp_ge (pc := 6) (tgt := 74) hC dX1_listFactsOf_6 (by decide) (by omega) (by omega) (fun h6 => ?_) (fun h6 => ?_)
      · exact z_vret (pc := 74) hC hQ hRT (by rw [hw, show t = en - fr by omega]) dX1_listFactsOf_74
      · refine z_iload_n (pc := 9) hC 2 dX1_listFactsOf_9 rfl ?_
        refine z_aload_n (pc := 10) hC 1 dX1_listFactsOf_10 rfl ?_
        refine z_get (pc := 11) (C := RX1) (T := TX1) (N := 8) hC hinX1 0 rfl rfl 1 (by decide) (by decide +kernel) rfl dX1_listFactsOf_11 ?_
        refine z_iload (pc := 14) hC 0 dX1_listFactsOf_14 rfl ?_
        refine z_iald (pc := 16) (v := (N0 (fr + t))) hC 2 0 rfl rfl (by omega) (by decide) (rfl) dX1_listFactsOf_16 ?_
        refine z_aload_n (pc := 17) hC 1 dX1_listFactsOf_17 rfl ?_
        refine z_get (pc := 18) (C := RX1) (T := TX1) (N := 8) hC hinX1 0 rfl rfl 0 (by decide) (by decide +kernel) rfl dX1_listFactsOf_18 ?_
        refine z_iload (pc := 21) hC 0 dX1_listFactsOf_21 rfl ?_
        refine z_iald (pc := 23) (v := (B (fr + t))) hC 1 0 rfl rfl (by omega) (by decide) (rfl) dX1_listFactsOf_23 ?_
        refine z_iconst (pc := 24) (v := (-1)) hC dX1_listFactsOf_24 (by decide +kernel) ?_
        refine z_ixor (pc := 25) (v := ((B (fr + t)) ^^^ (-1))) hC dX1_listFactsOf_25 (rfl) ?_
        refine z_iand (pc := 26) (v := ((N0 (fr + t)) &&& ((B (fr + t)) ^^^ (-1)))) hC dX1_listFactsOf_26 (rfl) ?_
        refine z_callSN_I (pc := 27) (y := yX3_isIn) (wy := wsX3_isIn) (rm := { frames := 0, cells := 0, slots := 0, locals := 0 }) (As := [.int (nI a), .int ((N0 (fr + t)) &&& ((B (fr + t)) ^^^ (-1)))]) (rest := []) (na := 2)  (wc := []) (wc2 := []) hC hRm hDis hLis gX1_listFactsOf_X3_isIn_n112 (by decide +kernel) (by decide +kernel) (by decide +kernel) ⟨by decide +kernel, by decide +kernel⟩ rfl ⟨by decide, by decide⟩ ⟨by decide, by decide⟩ rfl (Nat.le_of_ble_eq_true rfl) (by decide +kernel) (c_X3_isIn _ _ cI cJ cZ (nI a) ((N0 (fr + t)) &&& ((B (fr + t)) ^^^ (-1))) ) [] [0, 1, 2, 3] [0, 1, 2, 3] [(q 6, .inr (2, [.ref (q 7), .ref (q 8), .ref (q 9), .ref (q 10), .int (nI n), .int (nI (w.2)), .int rc, .int ga])), (q 7, .inl (cI, 168, .inl B)), (q 8, .inl (cI, 168, .inl N0)), (q 10, .inl (cI, 4032, .inl w.1))] rfl (by decide) rfl (by decide) (by decide) [(q 6, .inr (2, [.ref (q 7), .ref (q 8), .ref (q 9), .ref (q 10), .int (nI n), .int (nI (w.2)), .int rc, .int ga])), (q 7, .inl (cI, 168, .inl B)), (q 8, .inl (cI, 168, .inl N0)), (q 10, .inl (cI, 4032, .inl w.1))] rfl (by decide) rfl dX1_listFactsOf_27 ?_
        refine z_bif_eq (pc := 30) (tgt := 68) hC dX1_listFactsOf_30 (by decide) (fun h30 => ?_) (fun h30 => ?_)
        · refine z_iinc (pc := 68) (q := 0) (x := (nI (fr + t))) (v := (nI (fr + t + 1))) hC hNL [(4, .int (nI (fr + t + 1))), (0, .ref (q 6)), (1, .int (nI a)), (2, .int (nI fr)), (3, .int (nI en))] dX1_listFactsOf_68 rfl (nI_add _ _) (by decide) rfl ?_
          refine z_goto (pc := 71) (tgt := 3) hC dX1_listFactsOf_71 (by decide) ?_
          exact ih3 (t + 1) (w) (by omega) (by omega) (by first | exact hwl | (show w.2 + 1 ≤ 4032; omega)) (by first | rw [lfo_f h30, hw] | rw [lfo_g (by rw [← hw]; exact h40), hw] | rw [lfo_t h30 (by rw [← hw]; exact h40), hw])
        · refine z_aload_n (pc := 33) hC 1 dX1_listFactsOf_33 rfl ?_
          refine z_get (pc := 34) (C := RX1) (T := TX1) (N := 8) hC hinX1 0 rfl rfl 5 (by decide) (by decide +kernel) rfl dX1_listFactsOf_34 ?_
          refine z_sipush (pc := 37) (v := (nI 4032)) hC dX1_listFactsOf_37 (by decide +kernel) ?_
          refine z_ncmp_ge (pc := 40) (tgt := 68) hC dX1_listFactsOf_40 (by decide) (by omega) (by omega) (fun h40 => ?_) (fun h40 => ?_)
          · refine z_iinc (pc := 68) (q := 0) (x := (nI (fr + t))) (v := (nI (fr + t + 1))) hC hNL [(4, .int (nI (fr + t + 1))), (0, .ref (q 6)), (1, .int (nI a)), (2, .int (nI fr)), (3, .int (nI en))] dX1_listFactsOf_68 rfl (nI_add _ _) (by decide) rfl ?_
            refine z_goto (pc := 71) (tgt := 3) hC dX1_listFactsOf_71 (by decide) ?_
            exact ih3 (t + 1) (w) (by omega) (by omega) (by first | exact hwl | (show w.2 + 1 ≤ 4032; omega)) (by first | rw [lfo_f h30, hw] | rw [lfo_g (by rw [← hw]; exact h40), hw] | rw [lfo_t h30 (by rw [← hw]; exact h40), hw])
          · refine z_aload_n (pc := 43) hC 1 dX1_listFactsOf_43 rfl ?_
            refine z_get (pc := 44) (C := RX1) (T := TX1) (N := 8) hC hinX1 0 rfl rfl 3 (by decide) (by decide +kernel) rfl dX1_listFactsOf_44 ?_
            refine z_aload_n (pc := 47) hC 1 dX1_listFactsOf_47 rfl ?_
            refine z_get (pc := 48) (C := RX1) (T := TX1) (N := 8) hC hinX1 0 rfl rfl 5 (by decide) (by decide +kernel) rfl dX1_listFactsOf_48 ?_
            refine z_iload_n (pc := 51) hC 2 dX1_listFactsOf_51 rfl ?_
            refine z_iload (pc := 52) hC 0 dX1_listFactsOf_52 rfl ?_
            refine z_callSN_I (pc := 54) (y := yX3_codeOf) (wy := wsX3_codeOf) (rm := { frames := 0, cells := 0, slots := 0, locals := 0 }) (As := [.int (nI a), .int (nI (fr + t))]) (rest := [.int (nI (w.2)), .ref (q 10)]) (na := 2)  (wc := []) (wc2 := []) hC hRm hDis hLis gX1_listFactsOf_X3_codeOf_n116 (by decide +kernel) (by decide +kernel) (by decide +kernel) ⟨by decide +kernel, by decide +kernel⟩ rfl ⟨by decide, by decide⟩ ⟨by decide, by decide⟩ rfl (Nat.le_of_ble_eq_true rfl) (by decide +kernel) (c_X3_codeOfN _ _ cI cJ cZ (a) (fr + t) (by omega)) [] [0, 1, 2, 3] [0, 1, 2, 3] [(q 6, .inr (2, [.ref (q 7), .ref (q 8), .ref (q 9), .ref (q 10), .int (nI n), .int (nI (w.2)), .int rc, .int ga])), (q 7, .inl (cI, 168, .inl B)), (q 8, .inl (cI, 168, .inl N0)), (q 10, .inl (cI, 4032, .inl w.1))] rfl (by decide) rfl (by decide) (by decide) [(q 6, .inr (2, [.ref (q 7), .ref (q 8), .ref (q 9), .ref (q 10), .int (nI n), .int (nI (w.2)), .int rc, .int ga])), (q 7, .inl (cI, 168, .inl B)), (q 8, .inl (cI, 168, .inl N0)), (q 10, .inl (cI, 4032, .inl w.1))] rfl (by decide) rfl dX1_listFactsOf_54 ?_
            refine z_iast (pc := 57) hC 3 0 rfl rfl (by omega) (by decide) [(q 6, .inr (2, [.ref (q 7), .ref (q 8), .ref (q 9), .ref (q 10), .int (nI n), .int (nI (w.2)), .int rc, .int ga])), (q 7, .inl (cI, 168, .inl B)), (q 8, .inl (cI, 168, .inl N0)), (q 10, .inl (cI, 4032, .inl (upd w.1 w.2 (nI (cod a (fr + t))))))] rfl dX1_listFactsOf_57 ?_
            refine z_aload_n (pc := 58) hC 1 dX1_listFactsOf_58 rfl ?_
            refine z_dup (pc := 59) hC dX1_listFactsOf_59 rfl ?_
            refine z_get (pc := 60) (C := RX1) (T := TX1) (N := 8) hC hinX1 0 rfl rfl 5 (by decide) (by decide +kernel) rfl dX1_listFactsOf_60 ?_
            refine z_iconst (pc := 63) (v := (nI 1)) hC dX1_listFactsOf_63 (by decide +kernel) ?_
            refine z_iadd (pc := 64) (v := (nI (w.2 + 1))) hC dX1_listFactsOf_64 (nI_add _ _) ?_
            refine z_put (pc := 65) (C := RX1) (T := TX1) (N := 8) hC hinX1 0 rfl rfl 5 (by decide) tyX1 tyX1_ok nmX1 (by decide +kernel) rfl (rfl) (rfl) (Nat.le_of_ble_eq_true rfl) [(q 6, .inr (2, [.ref (q 7), .ref (q 8), .ref (q 9), .ref (q 10), .int (nI n), .int (nI (w.2 + 1)), .int rc, .int ga])), (q 7, .inl (cI, 168, .inl B)), (q 8, .inl (cI, 168, .inl N0)), (q 10, .inl (cI, 4032, .inl (upd w.1 w.2 (nI (cod a (fr + t))))))] rfl dX1_listFactsOf_65 ?_
            refine z_iinc (pc := 68) (q := 0) (x := (nI (fr + t))) (v := (nI (fr + t + 1))) hC hNL [(4, .int (nI (fr + t + 1))), (0, .ref (q 6)), (1, .int (nI a)), (2, .int (nI fr)), (3, .int (nI en))] dX1_listFactsOf_68 rfl (nI_add _ _) (by decide) rfl ?_
            refine z_goto (pc := 71) (tgt := 3) hC dX1_listFactsOf_71 (by decide) ?_
            exact ih3 (t + 1) ((upd w.1 w.2 (nI (cod a (fr + t))), w.2 + 1)) (by omega) (by omega) (by first | exact hwl | (show w.2 + 1 ≤ 4032; omega)) (by first | rw [lfo_f h30, hw] | rw [lfo_g (by rw [← hw]; exact h40), hw] | rw [lfo_t h30 (by rw [← hw]; exact h40), hw])
  exact L3 (en - fr + 1) (0) (o) (by omega) (by omega) (ho) (rfl)

set_option maxRecDepth 100000 in
set_option maxHeartbeats 4000000 in
theorem c_X1_listColumns (l : Launch) (D : va_G) (cI cJ cZ : ClassId) (q : Nat → Nat) (B : Nat → Int32) (N0 : Nat → Int32) (o : OS) (n : Nat) (rc : Int32) (ga : Int32) (fr : Nat) (en : Nat) (hn : n ≤ 24) (h1 : fr ≤ en) (h2 : en ≤ 168) (ho : o.2 ≤ 4032) : MV l yX1_listColumns wsX1_listColumns { frames := 2, cells := 0, slots := 0, locals := 45 } D (tyL cI cJ cZ) [.ref (q 6), .int (nI fr), .int (nI en)] [(q 6, .inr (2, [.ref (q 7), .ref (q 8), .ref (q 9), .ref (q 10), .int (nI n), .int (nI (o.2)), .int rc, .int ga])), (q 7, .inl (cI, 168, .inl B)), (q 8, .inl (cI, 168, .inl N0)), (q 10, .inl (cI, 4032, .inl o.1))] [(q 6, .inr (2, [.ref (q 7), .ref (q 8), .ref (q 9), .ref (q 10), .int (nI n), .int (nI ((lcs B N0 ga fr en o n).2)), .int rc, .int ga])), (q 7, .inl (cI, 168, .inl B)), (q 8, .inl (cI, 168, .inl N0)), (q 10, .inl (cI, 4032, .inl ((lcs B N0 ga fr en o n).1)))] := by
  refine metV_of (cc := cX1_listColumns) (maxL := 4) (ret := none) (by decide +kernel) rfl (Nat.le_of_ble_eq_true rfl) ?_
  intro K hC hRm hNL hDis hLis hRT hIni hQ
  have hinX1 : ∀ w ∈ wsX10, w ∈ wsX1_listColumns := by decide +kernel
  refine z_iconst (pc := 0) (v := (nI 0)) hC dX1_listColumns_0 (by decide +kernel) ?_
  refine z_istore_n (pc := 1) hC hNL [(3, .int (nI 0)), (0, .ref (q 6)), (1, .int (nI fr)), (2, .int (nI en))] dX1_listColumns_1 (by decide) rfl ?_
  have L2 : ∀ (fu : Nat) (i : Nat) (w : OS) (hi : i ≤ n) (hf : n + 1 ≤ i + fu) (hwl : w.2 ≤ 4032) (hw : w = lcs B N0 ga fr en o i), Z K 0 0 [(q 6, .inr (2, [.ref (q 7), .ref (q 8), .ref (q 9), .ref (q 10), .int (nI n), .int (nI (w.2)), .int rc, .int ga])), (q 7, .inl (cI, 168, .inl B)), (q 8, .inl (cI, 168, .inl N0)), (q 10, .inl (cI, 4032, .inl w.1))] [(3, .int (nI i)), (0, .ref (q 6)), (1, .int (nI fr)), (2, .int (nI en))] 2 [] := by
    intro fu
    induction fu with
    | zero =>
      intro i w hi hf hwl hw
      exact absurd trivial (by omega)
    | succ fu ih2 =>
      intro i w hi hf hwl hw
      refine z_iload_n (pc := 2) hC 0 dX1_listColumns_2 rfl ?_
      refine z_aload_n (pc := 3) hC 1 dX1_listColumns_3 rfl ?_
      refine z_get (pc := 4) (C := RX1) (T := TX1) (N := 8) hC hinX1 0 rfl rfl 4 (by decide) (by decide +kernel) rfl dX1_listColumns_4 ?_
      refine z_ncmp_ge (pc := 7) (tgt := 34) hC dX1_listColumns_7 (by decide) (by omega) (by omega) (fun h7 => ?_) (fun h7 => ?_)
      · exact z_vret (pc := 34) hC hQ hRT (by rw [hw, show i = n by omega]) dX1_listColumns_34
      · refine z_iload_n (pc := 10) hC 0 dX1_listColumns_10 rfl ?_
        refine z_aload_n (pc := 11) hC 1 dX1_listColumns_11 rfl ?_
        refine z_get (pc := 12) (C := RX1) (T := TX1) (N := 8) hC hinX1 0 rfl rfl 7 (by decide) (by decide +kernel) rfl dX1_listColumns_12 ?_
        refine z_callSN_I (pc := 15) (y := yX3_isIn) (wy := wsX3_isIn) (rm := { frames := 0, cells := 0, slots := 0, locals := 0 }) (As := [.int (nI i), .int ga]) (rest := []) (na := 2)  (wc := []) (wc2 := []) hC hRm hDis hLis gX1_listColumns_X3_isIn_n112 (by decide +kernel) (by decide +kernel) (by decide +kernel) ⟨by decide +kernel, by decide +kernel⟩ rfl ⟨by decide, by decide⟩ ⟨by decide, by decide⟩ rfl (Nat.le_of_ble_eq_true rfl) (by decide +kernel) (c_X3_isIn _ _ cI cJ cZ (nI i) (ga) ) [] [0, 1, 2, 3] [0, 1, 2, 3] [(q 6, .inr (2, [.ref (q 7), .ref (q 8), .ref (q 9), .ref (q 10), .int (nI n), .int (nI (w.2)), .int rc, .int ga])), (q 7, .inl (cI, 168, .inl B)), (q 8, .inl (cI, 168, .inl N0)), (q 10, .inl (cI, 4032, .inl w.1))] rfl (by decide) rfl (by decide) (by decide) [(q 6, .inr (2, [.ref (q 7), .ref (q 8), .ref (q 9), .ref (q 10), .int (nI n), .int (nI (w.2)), .int rc, .int ga])), (q 7, .inl (cI, 168, .inl B)), (q 8, .inl (cI, 168, .inl N0)), (q 10, .inl (cI, 4032, .inl w.1))] rfl (by decide) rfl dX1_listColumns_15 ?_
        refine z_bif_eq (pc := 18) (tgt := 28) hC dX1_listColumns_18 (by decide) (fun h18 => ?_) (fun h18 => ?_)
        · refine z_iinc (pc := 28) (q := 0) (x := (nI i)) (v := (nI (i + 1))) hC hNL [(3, .int (nI (i + 1))), (0, .ref (q 6)), (1, .int (nI fr)), (2, .int (nI en))] dX1_listColumns_28 rfl (nI_add _ _) (by decide) rfl ?_
          refine z_goto (pc := 31) (tgt := 2) hC dX1_listColumns_31 (by decide) ?_
          exact ih2 (i + 1) (w) (by omega) (by omega) (by first | exact hwl | exact lfo_le hwl _) (by first | rw [lcs_t h18, hw] | rw [lcs_f h18, hw])
        · refine z_aload_n (pc := 21) hC 1 dX1_listColumns_21 rfl ?_
          refine z_iload_n (pc := 22) hC 0 dX1_listColumns_22 rfl ?_
          refine z_iload_n (pc := 23) hC 2 dX1_listColumns_23 rfl ?_
          refine z_iload_n (pc := 24) hC 3 dX1_listColumns_24 rfl ?_
          refine z_callV_V (pc := 25) (y := yX1_listFactsOf) (wy := wsX1_listFactsOf) (rm := { frames := 1, cells := 0, slots := 0, locals := 21 }) (As := [.int (nI i), .int (nI fr), .int (nI en)]) (rest := []) (na := 3) (C := RX1) (T := TX1) (NF := 8) (ci := 2) (wc := [(q 6, .inr (2, [.ref (q 7), .ref (q 8), .ref (q 9), .ref (q 10), .int (nI n), .int (nI (w.2)), .int rc, .int ga])), (q 7, .inl (cI, 168, .inl B)), (q 8, .inl (cI, 168, .inl N0)), (q 10, .inl (cI, 4032, .inl w.1))]) (wc2 := [(q 6, .inr (2, [.ref (q 7), .ref (q 8), .ref (q 9), .ref (q 10), .int (nI n), .int (nI ((lfo B N0 i fr w (en - fr)).2)), .int rc, .int ga])), (q 7, .inl (cI, 168, .inl B)), (q 8, .inl (cI, 168, .inl N0)), (q 10, .inl (cI, 4032, .inl ((lfo B N0 i fr w (en - fr)).1)))]) hC hRm hDis hLis 0 rfl rfl gX1_listColumns_X1_listFactsOf ⟨rfl, by decide +kernel, by decide +kernel⟩ rfl ⟨by decide, by decide⟩ ⟨by decide, by decide⟩ rfl (Nat.le_of_ble_eq_true rfl) (by decide +kernel) (c_X1_listFactsOf _ _ cI cJ cZ (q) (B) (N0) (w) (n) (rc) (ga) (i) (fr) (en) (by omega) (by omega) (by omega) (hwl)) [0, 1, 2, 3] [] [0, 1, 2, 3] [] rfl (by decide) rfl (by decide) (by decide) [(q 6, .inr (2, [.ref (q 7), .ref (q 8), .ref (q 9), .ref (q 10), .int (nI n), .int (nI ((lfo B N0 i fr w (en - fr)).2)), .int rc, .int ga])), (q 7, .inl (cI, 168, .inl B)), (q 8, .inl (cI, 168, .inl N0)), (q 10, .inl (cI, 4032, .inl ((lfo B N0 i fr w (en - fr)).1)))] rfl (by decide) rfl dX1_listColumns_25 ?_
          refine z_iinc (pc := 28) (q := 0) (x := (nI i)) (v := (nI (i + 1))) hC hNL [(3, .int (nI (i + 1))), (0, .ref (q 6)), (1, .int (nI fr)), (2, .int (nI en))] dX1_listColumns_28 rfl (nI_add _ _) (by decide) rfl ?_
          refine z_goto (pc := 31) (tgt := 2) hC dX1_listColumns_31 (by decide) ?_
          exact ih2 (i + 1) (lfo B N0 i fr w (en - fr)) (by omega) (by omega) (by first | exact hwl | exact lfo_le hwl _) (by first | rw [lcs_t h18, hw] | rw [lcs_f h18, hw])
  exact L2 (n + 1) (0) (o) (by omega) (by omega) (ho) (rfl)

set_option maxRecDepth 100000 in
set_option maxHeartbeats 4000000 in
theorem c_X1_endRound (l : Launch) (D : va_G) (cI cJ cZ : ClassId) (q : Nat → Nat) (B : Nat → Int32) (N0 : Nat → Int32) (o : OS) (n : Nat) (r : Nat) (ga : Int32) (hn : n ≤ 24) (ho : o.2 ≤ 4032) : MV l yX1_endRound wsX1_endRound { frames := 3, cells := 0, slots := 0, locals := 68 } D (tyL cI cJ cZ) [.ref (q 6)] [(q 6, .inr (2, [.ref (q 7), .ref (q 8), .ref (q 9), .ref (q 10), .int (nI n), .int (nI (o.2)), .int (nI r), .int ga])), (q 7, .inl (cI, 168, .inl B)), (q 8, .inl (cI, 168, .inl N0)), (q 10, .inl (cI, 4032, .inl o.1))] [(q 6, .inr (2, [.ref (q 7), .ref (q 8), .ref (q 9), .ref (q 10), .int (nI n), .int (nI ((erO n B N0 ga o).2)), .int (nI (erR ga r)), .int ga])), (q 7, .inl (cI, 168, .inl B)), (q 8, .inl (cI, 168, .inl N0)), (q 10, .inl (cI, 4032, .inl ((erO n B N0 ga o).1)))] := by
  refine metV_of (cc := cX1_endRound) (maxL := 1) (ret := none) (by decide +kernel) rfl (Nat.le_of_ble_eq_true rfl) ?_
  intro K hC hRm hNL hDis hLis hRT hIni hQ
  have hinX1 : ∀ w ∈ wsX10, w ∈ wsX1_endRound := by decide +kernel
  refine z_aload_n (pc := 0) hC 0 dX1_endRound_0 rfl ?_
  refine z_get (pc := 1) (C := RX1) (T := TX1) (N := 8) hC hinX1 0 rfl rfl 7 (by decide) (by decide +kernel) rfl dX1_endRound_1 ?_
  refine z_if_ne (pc := 4) (tgt := 8) hC dX1_endRound_4 (by decide) (fun h4 => ?_) (fun h4 => ?_)
  · refine z_aload_n (pc := 8) hC 0 dX1_endRound_8 rfl ?_
    refine z_iconst (pc := 9) (v := (nI 0)) hC dX1_endRound_9 (by decide +kernel) ?_
    refine z_bipush (pc := 10) (v := (nI 24)) hC dX1_endRound_10 (by decide +kernel) ?_
    refine z_callV_V (pc := 12) (y := yX1_listColumns) (wy := wsX1_listColumns) (rm := { frames := 2, cells := 0, slots := 0, locals := 45 }) (As := [.int (nI 0), .int (nI 24)]) (rest := []) (na := 2) (C := RX1) (T := TX1) (NF := 8) (ci := 2) (wc := [(q 6, .inr (2, [.ref (q 7), .ref (q 8), .ref (q 9), .ref (q 10), .int (nI n), .int (nI (o.2)), .int (nI r), .int ga])), (q 7, .inl (cI, 168, .inl B)), (q 8, .inl (cI, 168, .inl N0)), (q 10, .inl (cI, 4032, .inl o.1))]) (wc2 := [(q 6, .inr (2, [.ref (q 7), .ref (q 8), .ref (q 9), .ref (q 10), .int (nI n), .int (nI ((lcs B N0 ga 0 24 o n).2)), .int (nI r), .int ga])), (q 7, .inl (cI, 168, .inl B)), (q 8, .inl (cI, 168, .inl N0)), (q 10, .inl (cI, 4032, .inl ((lcs B N0 ga 0 24 o n).1)))]) hC hRm hDis hLis 0 rfl rfl gX1_endRound_X1_listColumns ⟨rfl, by decide +kernel, by decide +kernel⟩ rfl ⟨by decide, by decide⟩ ⟨by decide, by decide⟩ rfl (Nat.le_of_ble_eq_true rfl) (by decide +kernel) (c_X1_listColumns _ _ cI cJ cZ (q) (B) (N0) (o) (n) (nI r) (ga) (0) (24) (hn) (by decide) (by decide) (ho)) [0, 1, 2, 3] [] [0, 1, 2, 3] [] rfl (by decide) rfl (by decide) (by decide) [(q 6, .inr (2, [.ref (q 7), .ref (q 8), .ref (q 9), .ref (q 10), .int (nI n), .int (nI ((lcs B N0 ga 0 24 o n).2)), .int (nI r), .int ga])), (q 7, .inl (cI, 168, .inl B)), (q 8, .inl (cI, 168, .inl N0)), (q 10, .inl (cI, 4032, .inl ((lcs B N0 ga 0 24 o n).1)))] rfl (by decide) rfl dX1_endRound_12 ?_
    refine z_aload_n (pc := 15) hC 0 dX1_endRound_15 rfl ?_
    refine z_bipush (pc := 16) (v := (nI 24)) hC dX1_endRound_16 (by decide +kernel) ?_
    refine z_sipush (pc := 18) (v := (nI 168)) hC dX1_endRound_18 (by decide +kernel) ?_
    refine z_callV_V (pc := 21) (y := yX1_listColumns) (wy := wsX1_listColumns) (rm := { frames := 2, cells := 0, slots := 0, locals := 45 }) (As := [.int (nI 24), .int (nI 168)]) (rest := []) (na := 2) (C := RX1) (T := TX1) (NF := 8) (ci := 2) (wc := [(q 6, .inr (2, [.ref (q 7), .ref (q 8), .ref (q 9), .ref (q 10), .int (nI n), .int (nI ((lcs B N0 ga 0 24 o n).2)), .int (nI r), .int ga])), (q 7, .inl (cI, 168, .inl B)), (q 8, .inl (cI, 168, .inl N0)), (q 10, .inl (cI, 4032, .inl ((lcs B N0 ga 0 24 o n).1)))]) (wc2 := [(q 6, .inr (2, [.ref (q 7), .ref (q 8), .ref (q 9), .ref (q 10), .int (nI n), .int (nI ((lcs B N0 ga 24 168 (lcs B N0 ga 0 24 o n) n).2)), .int (nI r), .int ga])), (q 7, .inl (cI, 168, .inl B)), (q 8, .inl (cI, 168, .inl N0)), (q 10, .inl (cI, 4032, .inl ((lcs B N0 ga 24 168 (lcs B N0 ga 0 24 o n) n).1)))]) hC hRm hDis hLis 0 rfl rfl gX1_endRound_X1_listColumns ⟨rfl, by decide +kernel, by decide +kernel⟩ rfl ⟨by decide, by decide⟩ ⟨by decide, by decide⟩ rfl (Nat.le_of_ble_eq_true rfl) (by decide +kernel) (c_X1_listColumns _ _ cI cJ cZ (q) (B) (N0) (lcs B N0 ga 0 24 o n) (n) (nI r) (ga) (24) (168) (hn) (by decide) (by decide) (lcs_le ho n)) [0, 1, 2, 3] [] [0, 1, 2, 3] [] rfl (by decide) rfl (by decide) (by decide) [(q 6, .inr (2, [.ref (q 7), .ref (q 8), .ref (q 9), .ref (q 10), .int (nI n), .int (nI ((lcs B N0 ga 24 168 (lcs B N0 ga 0 24 o n) n).2)), .int (nI r), .int ga])), (q 7, .inl (cI, 168, .inl B)), (q 8, .inl (cI, 168, .inl N0)), (q 10, .inl (cI, 4032, .inl ((lcs B N0 ga 24 168 (lcs B N0 ga 0 24 o n) n).1)))] rfl (by decide) rfl dX1_endRound_21 ?_
    refine z_aload_n (pc := 24) hC 0 dX1_endRound_24 rfl ?_
    refine z_dup (pc := 25) hC dX1_endRound_25 rfl ?_
    refine z_get (pc := 26) (C := RX1) (T := TX1) (N := 8) hC hinX1 0 rfl rfl 6 (by decide) (by decide +kernel) rfl dX1_endRound_26 ?_
    refine z_iconst (pc := 29) (v := (nI 1)) hC dX1_endRound_29 (by decide +kernel) ?_
    refine z_iadd (pc := 30) (v := (nI (r + 1))) hC dX1_endRound_30 (nI_add _ _) ?_
    refine z_put (pc := 31) (C := RX1) (T := TX1) (N := 8) hC hinX1 0 rfl rfl 6 (by decide) tyX1 tyX1_ok nmX1 (by decide +kernel) rfl (rfl) (rfl) (Nat.le_of_ble_eq_true rfl) [(q 6, .inr (2, [.ref (q 7), .ref (q 8), .ref (q 9), .ref (q 10), .int (nI n), .int (nI ((lcs B N0 ga 24 168 (lcs B N0 ga 0 24 o n) n).2)), .int (nI (r + 1)), .int ga])), (q 7, .inl (cI, 168, .inl B)), (q 8, .inl (cI, 168, .inl N0)), (q 10, .inl (cI, 4032, .inl ((lcs B N0 ga 24 168 (lcs B N0 ga 0 24 o n) n).1)))] rfl dX1_endRound_31 ?_
    exact z_vret (pc := 34) hC hQ hRT (by rw [erO_n h4, erR_n h4]) dX1_endRound_34
  · exact z_vret (pc := 7) hC hQ hRT (by rw [erO_e h4, erR_e h4]) dX1_endRound_7

set_option maxRecDepth 100000 in
set_option maxHeartbeats 4000000 in
theorem c_X1_clear (l : Launch) (D : va_G) (cI cJ cZ : ClassId) (q : Nat → Nat) (B : Nat → Int32) (N0 : Nat → Int32) (G0 : Nat → Int64) (c0 : Int32) (fc : Int32) (rc : Int32) (ga : Int32) (n : Nat) : MV l yX1_clear wsX1_clear { frames := 1, cells := 0, slots := 0, locals := 24 } D (tyL cI cJ cZ) [.ref (q 6), .int (nI n)] [(q 6, .inr (2, [.ref (q 7), .ref (q 8), .ref (q 9), .ref (q 10), .int c0, .int fc, .int rc, .int ga])), (q 7, .inl (cI, 168, .inl B)), (q 8, .inl (cI, 168, .inl N0)), (q 9, .inl (cJ, 4032, .inr (.inl G0)))] [(q 6, .inr (2, [.ref (q 7), .ref (q 8), .ref (q 9), .ref (q 10), .int (nI n), .int (nI 0), .int (nI 0), .int (nI 0)])), (q 7, .inl (cI, 168, .inl (fun _ => nI 0))), (q 8, .inl (cI, 168, .inl (fun _ => nI 0))), (q 9, .inl (cJ, 4032, .inr (.inl (fun _ => (-1)))))] := by
  refine metV_of (cc := cX1_clear) (maxL := 2) (ret := none) (by decide +kernel) rfl (Nat.le_of_ble_eq_true rfl) ?_
  intro K hC hRm hNL hDis hLis hRT hIni hQ
  have hinX1 : ∀ w ∈ wsX10, w ∈ wsX1_clear := by decide +kernel
  refine z_aload_n (pc := 0) hC 0 dX1_clear_0 rfl ?_
  refine z_get (pc := 1) (C := RX1) (T := TX1) (N := 8) hC hinX1 0 rfl rfl 0 (by decide) (by decide +kernel) rfl dX1_clear_1 ?_
  refine z_iconst (pc := 4) (v := (nI 0)) hC dX1_clear_4 (by decide +kernel) ?_
  refine z_callS_V (pc := 5) (y := yJ7_fill_53178) (wy := wsJ7_fill_53178) (rm := { frames := 0, cells := 0, slots := 0, locals := 0 }) (As := [.ref (q 7), .int (nI 0)]) (rest := []) (na := 2)  (wc := [(q 7, .inl (cI, 168, .inl B))]) (wc2 := [(q 7, .inl (cI, 168, .inl (fun _ => (nI 0))))]) hC hRm hDis hLis gX1_clear_J7_fill_53178 ⟨by decide +kernel, by decide +kernel⟩ rfl ⟨by decide, by decide⟩ ⟨by decide, by decide⟩ rfl (Nat.le_of_ble_eq_true rfl) (by decide +kernel) (c_J7_fill_53178 _ _ cI cJ cZ (q 7) (168) (B) (nI 0) (by decide)) [1] [0, 2, 3] [0, 3, 1, 2] [(q 6, .inr (2, [.ref (q 7), .ref (q 8), .ref (q 9), .ref (q 10), .int c0, .int fc, .int rc, .int ga])), (q 8, .inl (cI, 168, .inl N0)), (q 9, .inl (cJ, 4032, .inr (.inl G0)))] rfl (by decide) rfl (by decide) (by decide) [(q 6, .inr (2, [.ref (q 7), .ref (q 8), .ref (q 9), .ref (q 10), .int c0, .int fc, .int rc, .int ga])), (q 7, .inl (cI, 168, .inl (fun _ => (nI 0)))), (q 8, .inl (cI, 168, .inl N0)), (q 9, .inl (cJ, 4032, .inr (.inl G0)))] rfl (by decide) rfl dX1_clear_5 ?_
  refine z_aload_n (pc := 8) hC 0 dX1_clear_8 rfl ?_
  refine z_get (pc := 9) (C := RX1) (T := TX1) (N := 8) hC hinX1 0 rfl rfl 1 (by decide) (by decide +kernel) rfl dX1_clear_9 ?_
  refine z_iconst (pc := 12) (v := (nI 0)) hC dX1_clear_12 (by decide +kernel) ?_
  refine z_callS_V (pc := 13) (y := yJ7_fill_53178) (wy := wsJ7_fill_53178) (rm := { frames := 0, cells := 0, slots := 0, locals := 0 }) (As := [.ref (q 8), .int (nI 0)]) (rest := []) (na := 2)  (wc := [(q 8, .inl (cI, 168, .inl N0))]) (wc2 := [(q 8, .inl (cI, 168, .inl (fun _ => (nI 0))))]) hC hRm hDis hLis gX1_clear_J7_fill_53178 ⟨by decide +kernel, by decide +kernel⟩ rfl ⟨by decide, by decide⟩ ⟨by decide, by decide⟩ rfl (Nat.le_of_ble_eq_true rfl) (by decide +kernel) (c_J7_fill_53178 _ _ cI cJ cZ (q 8) (168) (N0) (nI 0) (by decide)) [2] [0, 1, 3] [0, 1, 3, 2] [(q 6, .inr (2, [.ref (q 7), .ref (q 8), .ref (q 9), .ref (q 10), .int c0, .int fc, .int rc, .int ga])), (q 7, .inl (cI, 168, .inl (fun _ => (nI 0)))), (q 9, .inl (cJ, 4032, .inr (.inl G0)))] rfl (by decide) rfl (by decide) (by decide) [(q 6, .inr (2, [.ref (q 7), .ref (q 8), .ref (q 9), .ref (q 10), .int c0, .int fc, .int rc, .int ga])), (q 7, .inl (cI, 168, .inl (fun _ => (nI 0)))), (q 8, .inl (cI, 168, .inl (fun _ => (nI 0)))), (q 9, .inl (cJ, 4032, .inr (.inl G0)))] rfl (by decide) rfl dX1_clear_13 ?_
  refine z_aload_n (pc := 16) hC 0 dX1_clear_16 rfl ?_
  refine z_get (pc := 17) (C := RX1) (T := TX1) (N := 8) hC hinX1 0 rfl rfl 2 (by decide) (by decide +kernel) rfl dX1_clear_17 ?_
  refine z_ldc2 (pc := 20) (v := -1) hC (by decide +kernel) dX1_clear_20 ?_
  refine z_callS_V (pc := 23) (y := yJ7_fill_d0a16) (wy := wsJ7_fill_d0a16) (rm := { frames := 0, cells := 0, slots := 0, locals := 0 }) (As := [.ref (q 9), .long (-1)]) (rest := []) (na := 2)  (wc := [(q 9, .inl (cJ, 4032, .inr (.inl G0)))]) (wc2 := [(q 9, .inl (cJ, 4032, .inr (.inl (fun _ => (-1)))))]) hC hRm hDis hLis gX1_clear_J7_fill_d0a16 ⟨by decide +kernel, by decide +kernel⟩ rfl ⟨by decide, by decide⟩ ⟨by decide, by decide⟩ rfl (Nat.le_of_ble_eq_true rfl) (by decide +kernel) (c_J7_fill_d0a16 _ _ cI cJ cZ (q 9) (4032) (G0) (-1) (by decide)) [3] [0, 1, 2] [0, 1, 2, 3] [(q 6, .inr (2, [.ref (q 7), .ref (q 8), .ref (q 9), .ref (q 10), .int c0, .int fc, .int rc, .int ga])), (q 7, .inl (cI, 168, .inl (fun _ => (nI 0)))), (q 8, .inl (cI, 168, .inl (fun _ => (nI 0))))] rfl (by decide) rfl (by decide) (by decide) [(q 6, .inr (2, [.ref (q 7), .ref (q 8), .ref (q 9), .ref (q 10), .int c0, .int fc, .int rc, .int ga])), (q 7, .inl (cI, 168, .inl (fun _ => (nI 0)))), (q 8, .inl (cI, 168, .inl (fun _ => (nI 0)))), (q 9, .inl (cJ, 4032, .inr (.inl (fun _ => (-1)))))] rfl (by decide) rfl dX1_clear_23 ?_
  refine z_aload_n (pc := 26) hC 0 dX1_clear_26 rfl ?_
  refine z_iload_n (pc := 27) hC 1 dX1_clear_27 rfl ?_
  refine z_put (pc := 28) (C := RX1) (T := TX1) (N := 8) hC hinX1 0 rfl rfl 4 (by decide) tyX1 tyX1_ok nmX1 (by decide +kernel) rfl (rfl) (rfl) (Nat.le_of_ble_eq_true rfl) [(q 6, .inr (2, [.ref (q 7), .ref (q 8), .ref (q 9), .ref (q 10), .int (nI n), .int fc, .int rc, .int ga])), (q 7, .inl (cI, 168, .inl (fun _ => (nI 0)))), (q 8, .inl (cI, 168, .inl (fun _ => (nI 0)))), (q 9, .inl (cJ, 4032, .inr (.inl (fun _ => (-1)))))] rfl dX1_clear_28 ?_
  refine z_aload_n (pc := 31) hC 0 dX1_clear_31 rfl ?_
  refine z_iconst (pc := 32) (v := (nI 0)) hC dX1_clear_32 (by decide +kernel) ?_
  refine z_put (pc := 33) (C := RX1) (T := TX1) (N := 8) hC hinX1 0 rfl rfl 5 (by decide) tyX1 tyX1_ok nmX1 (by decide +kernel) rfl (rfl) (rfl) (Nat.le_of_ble_eq_true rfl) [(q 6, .inr (2, [.ref (q 7), .ref (q 8), .ref (q 9), .ref (q 10), .int (nI n), .int (nI 0), .int rc, .int ga])), (q 7, .inl (cI, 168, .inl (fun _ => (nI 0)))), (q 8, .inl (cI, 168, .inl (fun _ => (nI 0)))), (q 9, .inl (cJ, 4032, .inr (.inl (fun _ => (-1)))))] rfl dX1_clear_33 ?_
  refine z_aload_n (pc := 36) hC 0 dX1_clear_36 rfl ?_
  refine z_iconst (pc := 37) (v := (nI 0)) hC dX1_clear_37 (by decide +kernel) ?_
  refine z_put (pc := 38) (C := RX1) (T := TX1) (N := 8) hC hinX1 0 rfl rfl 6 (by decide) tyX1 tyX1_ok nmX1 (by decide +kernel) rfl (rfl) (rfl) (Nat.le_of_ble_eq_true rfl) [(q 6, .inr (2, [.ref (q 7), .ref (q 8), .ref (q 9), .ref (q 10), .int (nI n), .int (nI 0), .int (nI 0), .int ga])), (q 7, .inl (cI, 168, .inl (fun _ => (nI 0)))), (q 8, .inl (cI, 168, .inl (fun _ => (nI 0)))), (q 9, .inl (cJ, 4032, .inr (.inl (fun _ => (-1)))))] rfl dX1_clear_38 ?_
  refine z_aload_n (pc := 41) hC 0 dX1_clear_41 rfl ?_
  refine z_iconst (pc := 42) (v := (nI 0)) hC dX1_clear_42 (by decide +kernel) ?_
  refine z_put (pc := 43) (C := RX1) (T := TX1) (N := 8) hC hinX1 0 rfl rfl 7 (by decide) tyX1 tyX1_ok nmX1 (by decide +kernel) rfl (rfl) (rfl) (Nat.le_of_ble_eq_true rfl) [(q 6, .inr (2, [.ref (q 7), .ref (q 8), .ref (q 9), .ref (q 10), .int (nI n), .int (nI 0), .int (nI 0), .int (nI 0)])), (q 7, .inl (cI, 168, .inl (fun _ => (nI 0)))), (q 8, .inl (cI, 168, .inl (fun _ => (nI 0)))), (q 9, .inl (cJ, 4032, .inr (.inl (fun _ => (-1)))))] rfl dX1_clear_43 ?_
  exact z_vret (pc := 46) hC hQ hRT (rfl) dX1_clear_46

/-! fill: the rounds -/
def fAx (n : Nat) (rc : Int32) (B Kd Aa Ab Ac : Nat → Int32) (u : GS) : Nat → GS
  | 0 => u
  | k + 1 => byAx n rc B k (Kd k) (tn (Aa k)) (tn (Ab k)) (tn (Ac k)) (fAx n rc B Kd Aa Ab Ac u k)
def fBo (n : Nat) (rc : Int32) (B : Nat → Int32) (u : GS) : Nat → GS
  | 0 => u
  | r + 1 => gvWh n rc B (nI 100) r 1 1 (fBo n rc B u r) n
abbrev FS : Type := GS × (Nat → Int32) × OS × Nat
/-- what a round gives: (now, grounds, gainers) -/
def fGive (n cnt : Nat) (Kd Aa Ab Ac : Nat → Int32) (x : FS) : GS := fBo n (nI x.2.2.2) x.1.1 (fAx n (nI x.2.2.2) x.1.1 Kd Aa Ab Ac (x.1.1, x.1.2.1, nI 0) cnt) 6
def fRound (n cnt : Nat) (Kd Aa Ab Ac : Nat → Int32) (x : FS) : FS := (fGive n cnt Kd Aa Ab Ac x, x.1.1, erO n x.1.1 (fGive n cnt Kd Aa Ab Ac x).1 (fGive n cnt Kd Aa Ab Ac x).2.2 x.2.2.1, erR (fGive n cnt Kd Aa Ab Ac x).2.2 x.2.2.2)
def fLoop (n cnt : Nat) (Kd Aa Ab Ac : Nat → Int32) : Nat → FS → FS
  | 0, x => x
  | f + 1, x => if x.1.2.2 = 0 then x else fLoop n cnt Kd Aa Ab Ac f (fRound n cnt Kd Aa Ab Ac x)
def fFirst (n cnt : Nat) (Kd Aa : Nat → Int32) : GS := gv7 n (nI 0) Kd Aa (gv0 n (nI 0) (fun _ => nI 0, fun _ => (-1), nI 0) n) cnt
def fStart (n cnt : Nat) (Kd Aa : Nat → Int32) (O : Nat → Int32) : FS := (fFirst n cnt Kd Aa, fun _ => nI 0, erO n (fun _ => nI 0) (fFirst n cnt Kd Aa).1 (fFirst n cnt Kd Aa).2.2 (O, 0), erR (fFirst n cnt Kd Aa).2.2 0)
def fillF (n cnt : Nat) (Kd Aa Ab Ac : Nat → Int32) (O : Nat → Int32) : FS := fLoop n cnt Kd Aa Ab Ac 4031 (fStart n cnt Kd Aa O)
theorem fLoop_e {n cnt : Nat} {Kd Aa Ab Ac : Nat → Int32} {f : Nat} {x : FS} (h : x.1.2.2 = 0) : fLoop n cnt Kd Aa Ab Ac f x = x := by
  cases f with
  | zero => rfl
  | succ f => exact if_pos h
theorem fLoop_n {n cnt : Nat} {Kd Aa Ab Ac : Nat → Int32} {f : Nat} {x : FS} (hf : 1 ≤ f) (h : ¬ x.1.2.2 = 0) : fLoop n cnt Kd Aa Ab Ac f x = fLoop n cnt Kd Aa Ab Ac (f - 1) (fRound n cnt Kd Aa Ab Ac x) := by
  obtain ⟨g, rfl⟩ : ∃ g, f = g + 1 := ⟨f - 1, by omega⟩
  exact if_neg h

set_option maxRecDepth 100000 in
set_option maxHeartbeats 4000000 in
theorem c_X1_fill (l : Launch) (D : va_G) (cI cJ cZ : ClassId) (q : Nat → Nat) (B : Nat → Int32) (N0 : Nat → Int32) (G0 : Nat → Int64) (O : Nat → Int32) (c0 : Int32) (fc : Int32) (rc : Int32) (ga : Int32) (Kd : Nat → Int32) (Aa : Nat → Int32) (Ab : Nat → Int32) (Ac : Nat → Int32) (cnt : Nat) (n : Nat) (hn : n ≤ 24) (hcnt : cnt ≤ 80) (hax : ∀ k, k < cnt → axV n (Kd k) (Aa k) (Ab k) (Ac k)) : MV l yX1_fill wsX1_fill { frames := 4, cells := 0, slots := 0, locals := 103 } D (tyL cI cJ cZ) [.ref (q 6), .ref (q 1), .int (nI n)] [(q 6, .inr (2, [.ref (q 7), .ref (q 8), .ref (q 9), .ref (q 10), .int c0, .int fc, .int rc, .int ga])), (q 7, .inl (cI, 168, .inl B)), (q 8, .inl (cI, 168, .inl N0)), (q 9, .inl (cJ, 4032, .inr (.inl G0))), (q 10, .inl (cI, 4032, .inl O)), (q 1, .inr (1, [.ref (q 2), .ref (q 3), .ref (q 4), .ref (q 5), .int (nI cnt)])), (q 2, .inl (cI, 80, .inl Kd)), (q 3, .inl (cI, 80, .inl Aa)), (q 4, .inl (cI, 80, .inl Ab)), (q 5, .inl (cI, 80, .inl Ac))] [(q 6, .inr (2, [.ref (q 7), .ref (q 8), .ref (q 9), .ref (q 10), .int (nI n), .int (nI ((fillF n cnt Kd Aa Ab Ac O).2.2.1.2)), .int (nI ((fillF n cnt Kd Aa Ab Ac O).2.2.2)), .int ((fillF n cnt Kd Aa Ab Ac O).1.2.2)])), (q 7, .inl (cI, 168, .inl ((fillF n cnt Kd Aa Ab Ac O).2.1))), (q 8, .inl (cI, 168, .inl ((fillF n cnt Kd Aa Ab Ac O).1.1))), (q 9, .inl (cJ, 4032, .inr (.inl ((fillF n cnt Kd Aa Ab Ac O).1.2.1)))), (q 10, .inl (cI, 4032, .inl ((fillF n cnt Kd Aa Ab Ac O).2.2.1.1))), (q 1, .inr (1, [.ref (q 2), .ref (q 3), .ref (q 4), .ref (q 5), .int (nI cnt)])), (q 2, .inl (cI, 80, .inl Kd)), (q 3, .inl (cI, 80, .inl Aa)), (q 4, .inl (cI, 80, .inl Ab)), (q 5, .inl (cI, 80, .inl Ac))] := by
  refine metV_of (cc := cX1_fill) (maxL := 5) (ret := none) (by decide +kernel) rfl (Nat.le_of_ble_eq_true rfl) ?_
  intro K hC hRm hNL hDis hLis hRT hIni hQ
  have hinX0 : ∀ w ∈ wsX00, w ∈ wsX1_fill := by decide +kernel
  have hinX1 : ∀ w ∈ wsX10, w ∈ wsX1_fill := by decide +kernel
  refine z_aload_n (pc := 0) hC 0 dX1_fill_0 rfl ?_
  refine z_iload_n (pc := 1) hC 2 dX1_fill_1 rfl ?_
  refine z_callV_V (pc := 2) (y := yX1_clear) (wy := wsX1_clear) (rm := { frames := 1, cells := 0, slots := 0, locals := 24 }) (As := [.int (nI n)]) (rest := []) (na := 1) (C := RX1) (T := TX1) (NF := 8) (ci := 2) (wc := [(q 6, .inr (2, [.ref (q 7), .ref (q 8), .ref (q 9), .ref (q 10), .int c0, .int fc, .int rc, .int ga])), (q 7, .inl (cI, 168, .inl B)), (q 8, .inl (cI, 168, .inl N0)), (q 9, .inl (cJ, 4032, .inr (.inl G0)))]) (wc2 := [(q 6, .inr (2, [.ref (q 7), .ref (q 8), .ref (q 9), .ref (q 10), .int (nI n), .int (nI 0), .int (nI 0), .int (nI 0)])), (q 7, .inl (cI, 168, .inl (fun _ => nI 0))), (q 8, .inl (cI, 168, .inl (fun _ => nI 0))), (q 9, .inl (cJ, 4032, .inr (.inl (fun _ => (-1)))))]) hC hRm hDis hLis 0 rfl rfl gX1_fill_X1_clear ⟨rfl, by decide +kernel, by decide +kernel⟩ rfl ⟨by decide, by decide⟩ ⟨by decide, by decide⟩ rfl (Nat.le_of_ble_eq_true rfl) (by decide +kernel) (c_X1_clear _ _ cI cJ cZ (q) (B) (N0) (G0) (c0) (fc) (rc) (ga) (n) ) [0, 1, 2, 3] [4, 5, 6, 7, 8, 9] [6, 7, 8, 9, 0, 1, 2, 3, 4, 5] [(q 10, .inl (cI, 4032, .inl O)), (q 1, .inr (1, [.ref (q 2), .ref (q 3), .ref (q 4), .ref (q 5), .int (nI cnt)])), (q 2, .inl (cI, 80, .inl Kd)), (q 3, .inl (cI, 80, .inl Aa)), (q 4, .inl (cI, 80, .inl Ab)), (q 5, .inl (cI, 80, .inl Ac))] rfl (by decide) rfl (by decide) (by decide) [(q 6, .inr (2, [.ref (q 7), .ref (q 8), .ref (q 9), .ref (q 10), .int (nI n), .int (nI 0), .int (nI 0), .int (nI 0)])), (q 7, .inl (cI, 168, .inl (fun _ => nI 0))), (q 8, .inl (cI, 168, .inl (fun _ => nI 0))), (q 9, .inl (cJ, 4032, .inr (.inl (fun _ => (-1))))), (q 10, .inl (cI, 4032, .inl O)), (q 1, .inr (1, [.ref (q 2), .ref (q 3), .ref (q 4), .ref (q 5), .int (nI cnt)])), (q 2, .inl (cI, 80, .inl Kd)), (q 3, .inl (cI, 80, .inl Aa)), (q 4, .inl (cI, 80, .inl Ab)), (q 5, .inl (cI, 80, .inl Ac))] rfl (by decide) rfl dX1_fill_2 ?_
  refine z_aload_n (pc := 5) hC 0 dX1_fill_5 rfl ?_
  refine z_aload_n (pc := 6) hC 1 dX1_fill_6 rfl ?_
  refine z_callV_V (pc := 7) (y := yX1_giveAtFirst) (wy := wsX1_giveAtFirst) (rm := { frames := 3, cells := 0, slots := 0, locals := 71 }) (As := [.ref (q 1)]) (rest := []) (na := 1) (C := RX1) (T := TX1) (NF := 8) (ci := 2) (wc := [(q 6, .inr (2, [.ref (q 7), .ref (q 8), .ref (q 9), .ref (q 10), .int (nI n), .int (nI 0), .int (nI 0), .int (nI 0)])), (q 8, .inl (cI, 168, .inl (fun _ => nI 0))), (q 9, .inl (cJ, 4032, .inr (.inl (fun _ => (-1))))), (q 1, .inr (1, [.ref (q 2), .ref (q 3), .ref (q 4), .ref (q 5), .int (nI cnt)])), (q 2, .inl (cI, 80, .inl Kd)), (q 3, .inl (cI, 80, .inl Aa))]) (wc2 := [(q 6, .inr (2, [.ref (q 7), .ref (q 8), .ref (q 9), .ref (q 10), .int (nI n), .int (nI 0), .int (nI 0), .int ((gv7 n (nI 0) Kd Aa (gv0 n (nI 0) (fun _ => nI 0, fun _ => (-1), nI 0) n) cnt).2.2)])), (q 8, .inl (cI, 168, .inl ((gv7 n (nI 0) Kd Aa (gv0 n (nI 0) (fun _ => nI 0, fun _ => (-1), nI 0) n) cnt).1))), (q 9, .inl (cJ, 4032, .inr (.inl ((gv7 n (nI 0) Kd Aa (gv0 n (nI 0) (fun _ => nI 0, fun _ => (-1), nI 0) n) cnt).2.1)))), (q 1, .inr (1, [.ref (q 2), .ref (q 3), .ref (q 4), .ref (q 5), .int (nI cnt)])), (q 2, .inl (cI, 80, .inl Kd)), (q 3, .inl (cI, 80, .inl Aa))]) hC hRm hDis hLis 0 rfl rfl gX1_fill_X1_giveAtFirst ⟨rfl, by decide +kernel, by decide +kernel⟩ rfl ⟨by decide, by decide⟩ ⟨by decide, by decide⟩ rfl (Nat.le_of_ble_eq_true rfl) (by decide +kernel) (c_X1_giveAtFirst _ _ cI cJ cZ (q) ((fun _ => nI 0, fun _ => (-1), nI 0)) (n) (nI 0) (nI 0) (Kd) (Aa) (cnt) (hn) (hcnt) (fun k hk e => (hax k hk).2.2.2.2.2.2 e)) [0, 2, 3, 5, 6, 7] [1, 4, 8, 9] [4, 0, 5, 6, 1, 7, 8, 9, 2, 3] [(q 7, .inl (cI, 168, .inl (fun _ => nI 0))), (q 10, .inl (cI, 4032, .inl O)), (q 4, .inl (cI, 80, .inl Ab)), (q 5, .inl (cI, 80, .inl Ac))] rfl (by decide) rfl (by decide) (by decide) [(q 6, .inr (2, [.ref (q 7), .ref (q 8), .ref (q 9), .ref (q 10), .int (nI n), .int (nI 0), .int (nI 0), .int ((gv7 n (nI 0) Kd Aa (gv0 n (nI 0) (fun _ => nI 0, fun _ => (-1), nI 0) n) cnt).2.2)])), (q 7, .inl (cI, 168, .inl (fun _ => nI 0))), (q 8, .inl (cI, 168, .inl ((gv7 n (nI 0) Kd Aa (gv0 n (nI 0) (fun _ => nI 0, fun _ => (-1), nI 0) n) cnt).1))), (q 9, .inl (cJ, 4032, .inr (.inl ((gv7 n (nI 0) Kd Aa (gv0 n (nI 0) (fun _ => nI 0, fun _ => (-1), nI 0) n) cnt).2.1)))), (q 10, .inl (cI, 4032, .inl O)), (q 1, .inr (1, [.ref (q 2), .ref (q 3), .ref (q 4), .ref (q 5), .int (nI cnt)])), (q 2, .inl (cI, 80, .inl Kd)), (q 3, .inl (cI, 80, .inl Aa)), (q 4, .inl (cI, 80, .inl Ab)), (q 5, .inl (cI, 80, .inl Ac))] rfl (by decide) rfl dX1_fill_7 ?_
  refine z_aload_n (pc := 10) hC 0 dX1_fill_10 rfl ?_
  refine z_callV_V (pc := 11) (y := yX1_endRound) (wy := wsX1_endRound) (rm := { frames := 3, cells := 0, slots := 0, locals := 68 }) (As := []) (rest := []) (na := 0) (C := RX1) (T := TX1) (NF := 8) (ci := 2) (wc := [(q 6, .inr (2, [.ref (q 7), .ref (q 8), .ref (q 9), .ref (q 10), .int (nI n), .int (nI 0), .int (nI 0), .int ((gv7 n (nI 0) Kd Aa (gv0 n (nI 0) (fun _ => nI 0, fun _ => (-1), nI 0) n) cnt).2.2)])), (q 7, .inl (cI, 168, .inl (fun _ => nI 0))), (q 8, .inl (cI, 168, .inl ((gv7 n (nI 0) Kd Aa (gv0 n (nI 0) (fun _ => nI 0, fun _ => (-1), nI 0) n) cnt).1))), (q 10, .inl (cI, 4032, .inl O))]) (wc2 := [(q 6, .inr (2, [.ref (q 7), .ref (q 8), .ref (q 9), .ref (q 10), .int (nI n), .int (nI ((erO n (fun _ => nI 0) ((gv7 n (nI 0) Kd Aa (gv0 n (nI 0) (fun _ => nI 0, fun _ => (-1), nI 0) n) cnt).1) ((gv7 n (nI 0) Kd Aa (gv0 n (nI 0) (fun _ => nI 0, fun _ => (-1), nI 0) n) cnt).2.2) (O, 0)).2)), .int (nI (erR ((gv7 n (nI 0) Kd Aa (gv0 n (nI 0) (fun _ => nI 0, fun _ => (-1), nI 0) n) cnt).2.2) 0)), .int ((gv7 n (nI 0) Kd Aa (gv0 n (nI 0) (fun _ => nI 0, fun _ => (-1), nI 0) n) cnt).2.2)])), (q 7, .inl (cI, 168, .inl (fun _ => nI 0))), (q 8, .inl (cI, 168, .inl ((gv7 n (nI 0) Kd Aa (gv0 n (nI 0) (fun _ => nI 0, fun _ => (-1), nI 0) n) cnt).1))), (q 10, .inl (cI, 4032, .inl ((erO n (fun _ => nI 0) ((gv7 n (nI 0) Kd Aa (gv0 n (nI 0) (fun _ => nI 0, fun _ => (-1), nI 0) n) cnt).1) ((gv7 n (nI 0) Kd Aa (gv0 n (nI 0) (fun _ => nI 0, fun _ => (-1), nI 0) n) cnt).2.2) (O, 0)).1)))]) hC hRm hDis hLis 0 rfl rfl gX1_fill_X1_endRound ⟨rfl, by decide +kernel, by decide +kernel⟩ rfl ⟨by decide, by decide⟩ ⟨by decide, by decide⟩ rfl (Nat.le_of_ble_eq_true rfl) (by decide +kernel) (c_X1_endRound _ _ cI cJ cZ (q) (fun _ => nI 0) ((gv7 n (nI 0) Kd Aa (gv0 n (nI 0) (fun _ => nI 0, fun _ => (-1), nI 0) n) cnt).1) ((O, 0)) (n) (0) ((gv7 n (nI 0) Kd Aa (gv0 n (nI 0) (fun _ => nI 0, fun _ => (-1), nI 0) n) cnt).2.2) (hn) (Nat.zero_le 4032)) [0, 1, 2, 4] [3, 5, 6, 7, 8, 9] [6, 7, 8, 0, 9, 1, 2, 3, 4, 5] [(q 9, .inl (cJ, 4032, .inr (.inl ((gv7 n (nI 0) Kd Aa (gv0 n (nI 0) (fun _ => nI 0, fun _ => (-1), nI 0) n) cnt).2.1)))), (q 1, .inr (1, [.ref (q 2), .ref (q 3), .ref (q 4), .ref (q 5), .int (nI cnt)])), (q 2, .inl (cI, 80, .inl Kd)), (q 3, .inl (cI, 80, .inl Aa)), (q 4, .inl (cI, 80, .inl Ab)), (q 5, .inl (cI, 80, .inl Ac))] rfl (by decide) rfl (by decide) (by decide) [(q 6, .inr (2, [.ref (q 7), .ref (q 8), .ref (q 9), .ref (q 10), .int (nI n), .int (nI ((erO n (fun _ => nI 0) ((gv7 n (nI 0) Kd Aa (gv0 n (nI 0) (fun _ => nI 0, fun _ => (-1), nI 0) n) cnt).1) ((gv7 n (nI 0) Kd Aa (gv0 n (nI 0) (fun _ => nI 0, fun _ => (-1), nI 0) n) cnt).2.2) (O, 0)).2)), .int (nI (erR ((gv7 n (nI 0) Kd Aa (gv0 n (nI 0) (fun _ => nI 0, fun _ => (-1), nI 0) n) cnt).2.2) 0)), .int ((gv7 n (nI 0) Kd Aa (gv0 n (nI 0) (fun _ => nI 0, fun _ => (-1), nI 0) n) cnt).2.2)])), (q 7, .inl (cI, 168, .inl (fun _ => nI 0))), (q 8, .inl (cI, 168, .inl ((gv7 n (nI 0) Kd Aa (gv0 n (nI 0) (fun _ => nI 0, fun _ => (-1), nI 0) n) cnt).1))), (q 9, .inl (cJ, 4032, .inr (.inl ((gv7 n (nI 0) Kd Aa (gv0 n (nI 0) (fun _ => nI 0, fun _ => (-1), nI 0) n) cnt).2.1)))), (q 10, .inl (cI, 4032, .inl ((erO n (fun _ => nI 0) ((gv7 n (nI 0) Kd Aa (gv0 n (nI 0) (fun _ => nI 0, fun _ => (-1), nI 0) n) cnt).1) ((gv7 n (nI 0) Kd Aa (gv0 n (nI 0) (fun _ => nI 0, fun _ => (-1), nI 0) n) cnt).2.2) (O, 0)).1))), (q 1, .inr (1, [.ref (q 2), .ref (q 3), .ref (q 4), .ref (q 5), .int (nI cnt)])), (q 2, .inl (cI, 80, .inl Kd)), (q 3, .inl (cI, 80, .inl Aa)), (q 4, .inl (cI, 80, .inl Ab)), (q 5, .inl (cI, 80, .inl Ac))] rfl (by decide) rfl dX1_fill_11 ?_
  refine z_iconst (pc := 14) (v := (nI 1)) hC dX1_fill_14 (by decide +kernel) ?_
  refine z_istore_n (pc := 15) hC hNL [(3, .int (nI 1)), (0, .ref (q 6)), (1, .ref (q 1)), (2, .int (nI n))] dX1_fill_15 (by decide) rfl ?_
  have L16 : ∀ (fu : Nat) (j : Nat) (x : FS) (hj : 1 ≤ j) (hi : j ≤ 4032) (hf : 4033 ≤ j + fu) (hfc : x.2.2.1.2 ≤ 4032) (hX : fillF n cnt Kd Aa Ab Ac O = fLoop n cnt Kd Aa Ab Ac (4032 - j) x), Z K 0 0 [(q 6, .inr (2, [.ref (q 7), .ref (q 8), .ref (q 9), .ref (q 10), .int (nI n), .int (nI ((x).2.2.1.2)), .int (nI ((x).2.2.2)), .int ((x).1.2.2)])), (q 7, .inl (cI, 168, .inl ((x).2.1))), (q 8, .inl (cI, 168, .inl ((x).1.1))), (q 9, .inl (cJ, 4032, .inr (.inl ((x).1.2.1)))), (q 10, .inl (cI, 4032, .inl ((x).2.2.1.1))), (q 1, .inr (1, [.ref (q 2), .ref (q 3), .ref (q 4), .ref (q 5), .int (nI cnt)])), (q 2, .inl (cI, 80, .inl Kd)), (q 3, .inl (cI, 80, .inl Aa)), (q 4, .inl (cI, 80, .inl Ab)), (q 5, .inl (cI, 80, .inl Ac))] [(3, .int (nI j)), (0, .ref (q 6)), (1, .ref (q 1)), (2, .int (nI n))] 16 [] := by
    intro fu
    induction fu with
    | zero =>
      intro j x hj hi hf hfc hX
      exact absurd trivial (by omega)
    | succ fu ih16 =>
      intro j x hj hi hf hfc hX
      refine z_iload_n (pc := 16) hC 0 dX1_fill_16 rfl ?_
      refine z_sipush (pc := 17) (v := (nI 4032)) hC dX1_fill_17 (by decide +kernel) ?_
      refine z_ncmp_ge (pc := 20) (tgt := 112) hC dX1_fill_20 (by decide) (by omega) (by omega) (fun h20 => ?_) (fun h20 => ?_)
      · exact z_vret (pc := 112) hC hQ hRT (by first | rw [hX, show 4032 - j = 0 by omega]; rfl | rw [hX, fLoop_e h27]) dX1_fill_112
      · refine z_aload_n (pc := 23) hC 1 dX1_fill_23 rfl ?_
        refine z_get (pc := 24) (C := RX1) (T := TX1) (N := 8) hC hinX1 0 rfl rfl 7 (by decide) (by decide +kernel) rfl dX1_fill_24 ?_
        refine z_if_eq (pc := 27) (tgt := 112) hC dX1_fill_27 (by decide) (fun h27 => ?_) (fun h27 => ?_)
        · exact z_vret (pc := 112) hC hQ hRT (by first | rw [hX, show 4032 - j = 0 by omega]; rfl | rw [hX, fLoop_e h27]) dX1_fill_112
        · refine z_aload_n (pc := 30) hC 1 dX1_fill_30 rfl ?_
          refine z_get (pc := 31) (C := RX1) (T := TX1) (N := 8) hC hinX1 0 rfl rfl 1 (by decide) (by decide +kernel) rfl dX1_fill_31 ?_
          refine z_iconst (pc := 34) (v := (nI 0)) hC dX1_fill_34 (by decide +kernel) ?_
          refine z_aload_n (pc := 35) hC 1 dX1_fill_35 rfl ?_
          refine z_get (pc := 36) (C := RX1) (T := TX1) (N := 8) hC hinX1 0 rfl rfl 0 (by decide) (by decide +kernel) rfl dX1_fill_36 ?_
          refine z_iconst (pc := 39) (v := (nI 0)) hC dX1_fill_39 (by decide +kernel) ?_
          refine z_sipush (pc := 40) (v := (nI 168)) hC dX1_fill_40 (by decide +kernel) ?_
          refine z_copyi (pc := 43) hC hRm (by decide +kernel) (by decide +kernel) (by decide +kernel) (by decide +kernel) 2 1 0 0 rfl rfl rfl rfl (by omega) (by omega) (by decide) (by decide) (by decide) (by decide +kernel) [(q 6, .inr (2, [.ref (q 7), .ref (q 8), .ref (q 9), .ref (q 10), .int (nI n), .int (nI ((x).2.2.1.2)), .int (nI ((x).2.2.2)), .int ((x).1.2.2)])), (q 7, .inl (cI, 168, .inl (va_cpy ((x).1.1) ((x).2.1) 0 0 168))), (q 8, .inl (cI, 168, .inl ((x).1.1))), (q 9, .inl (cJ, 4032, .inr (.inl ((x).1.2.1)))), (q 10, .inl (cI, 4032, .inl ((x).2.2.1.1))), (q 1, .inr (1, [.ref (q 2), .ref (q 3), .ref (q 4), .ref (q 5), .int (nI cnt)])), (q 2, .inl (cI, 80, .inl Kd)), (q 3, .inl (cI, 80, .inl Aa)), (q 4, .inl (cI, 80, .inl Ab)), (q 5, .inl (cI, 80, .inl Ac))] rfl dX1_fill_43 ?_
          refine z_arrI (f' := x.1.1) 1 rfl (fun j hj => sb_cpy0 hj) [(q 6, .inr (2, [.ref (q 7), .ref (q 8), .ref (q 9), .ref (q 10), .int (nI n), .int (nI ((x).2.2.1.2)), .int (nI ((x).2.2.2)), .int ((x).1.2.2)])), (q 7, .inl (cI, 168, .inl x.1.1)), (q 8, .inl (cI, 168, .inl ((x).1.1))), (q 9, .inl (cJ, 4032, .inr (.inl ((x).1.2.1)))), (q 10, .inl (cI, 4032, .inl ((x).2.2.1.1))), (q 1, .inr (1, [.ref (q 2), .ref (q 3), .ref (q 4), .ref (q 5), .int (nI cnt)])), (q 2, .inl (cI, 80, .inl Kd)), (q 3, .inl (cI, 80, .inl Aa)), (q 4, .inl (cI, 80, .inl Ab)), (q 5, .inl (cI, 80, .inl Ac))] rfl ?_
          refine z_aload_n (pc := 46) hC 1 dX1_fill_46 rfl ?_
          refine z_iconst (pc := 47) (v := (nI 0)) hC dX1_fill_47 (by decide +kernel) ?_
          refine z_put (pc := 48) (C := RX1) (T := TX1) (N := 8) hC hinX1 0 rfl rfl 7 (by decide) tyX1 tyX1_ok nmX1 (by decide +kernel) rfl (rfl) (rfl) (Nat.le_of_ble_eq_true rfl) [(q 6, .inr (2, [.ref (q 7), .ref (q 8), .ref (q 9), .ref (q 10), .int (nI n), .int (nI ((x).2.2.1.2)), .int (nI ((x).2.2.2)), .int (nI 0)])), (q 7, .inl (cI, 168, .inl x.1.1)), (q 8, .inl (cI, 168, .inl ((x).1.1))), (q 9, .inl (cJ, 4032, .inr (.inl ((x).1.2.1)))), (q 10, .inl (cI, 4032, .inl ((x).2.2.1.1))), (q 1, .inr (1, [.ref (q 2), .ref (q 3), .ref (q 4), .ref (q 5), .int (nI cnt)])), (q 2, .inl (cI, 80, .inl Kd)), (q 3, .inl (cI, 80, .inl Aa)), (q 4, .inl (cI, 80, .inl Ab)), (q 5, .inl (cI, 80, .inl Ac))] rfl dX1_fill_48 ?_
          refine z_iconst (pc := 51) (v := (nI 0)) hC dX1_fill_51 (by decide +kernel) ?_
          refine z_istore (pc := 52) hC hNL [(4, .int (nI 0)), (3, .int (nI j)), (0, .ref (q 6)), (1, .ref (q 1)), (2, .int (nI n))] dX1_fill_52 (by decide) rfl ?_
          have L54 : ∀ (fu : Nat) (k : Nat) (w : GS) (hk : k ≤ cnt) (hf2 : cnt + 1 ≤ k + fu) (hw : w = fAx n (nI x.2.2.2) x.1.1 Kd Aa Ab Ac (x.1.1, x.1.2.1, nI 0) k), Z K 0 0 [(q 6, .inr (2, [.ref (q 7), .ref (q 8), .ref (q 9), .ref (q 10), .int (nI n), .int (nI ((x).2.2.1.2)), .int (nI ((x).2.2.2)), .int w.2.2])), (q 7, .inl (cI, 168, .inl x.1.1)), (q 8, .inl (cI, 168, .inl w.1)), (q 9, .inl (cJ, 4032, .inr (.inl w.2.1))), (q 10, .inl (cI, 4032, .inl ((x).2.2.1.1))), (q 1, .inr (1, [.ref (q 2), .ref (q 3), .ref (q 4), .ref (q 5), .int (nI cnt)])), (q 2, .inl (cI, 80, .inl Kd)), (q 3, .inl (cI, 80, .inl Aa)), (q 4, .inl (cI, 80, .inl Ab)), (q 5, .inl (cI, 80, .inl Ac))] [(4, .int (nI k)), (3, .int (nI j)), (0, .ref (q 6)), (1, .ref (q 1)), (2, .int (nI n))] 54 [] := by
            intro fu
            induction fu with
            | zero =>
              intro k w hk hf2 hw
              exact absurd trivial (by omega)
            | succ fu ih54 =>
              intro k w hk hf2 hw
              refine z_iload (pc := 54) hC 0 dX1_fill_54 rfl ?_
              refine z_aload_n (pc := 56) hC 3 dX1_fill_56 rfl ?_
              refine z_getN (pc := 57) (C := RX0) (T := TX0) (N := 5) hC hinX0 5 rfl rfl 4 (by decide) (by decide +kernel) rfl dX1_fill_57 ?_
              refine z_ncmp_ge (pc := 60) (tgt := 76) hC dX1_fill_60 (by decide) (by omega) (by omega) (fun h60 => ?_) (fun h60 => ?_)
              · refine z_iconst (pc := 76) (v := (nI 0)) hC dX1_fill_76 (by decide +kernel) ?_
                refine z_istore (pc := 77) hC hNL [(4, .int (nI 0)), (3, .int (nI j)), (0, .ref (q 6)), (1, .ref (q 1)), (2, .int (nI n))] dX1_fill_77 (by decide) rfl ?_
                have L79 : ∀ (fu : Nat) (r9 : Nat) (v : GS) (hr9 : r9 ≤ 6) (hf3 : 7 ≤ r9 + fu) (hv : v = fBo n (nI x.2.2.2) x.1.1 (fAx n (nI x.2.2.2) x.1.1 Kd Aa Ab Ac (x.1.1, x.1.2.1, nI 0) cnt) r9), Z K 0 0 [(q 6, .inr (2, [.ref (q 7), .ref (q 8), .ref (q 9), .ref (q 10), .int (nI n), .int (nI ((x).2.2.1.2)), .int (nI ((x).2.2.2)), .int v.2.2])), (q 7, .inl (cI, 168, .inl x.1.1)), (q 8, .inl (cI, 168, .inl v.1)), (q 9, .inl (cJ, 4032, .inr (.inl v.2.1))), (q 10, .inl (cI, 4032, .inl ((x).2.2.1.1))), (q 1, .inr (1, [.ref (q 2), .ref (q 3), .ref (q 4), .ref (q 5), .int (nI cnt)])), (q 2, .inl (cI, 80, .inl Kd)), (q 3, .inl (cI, 80, .inl Aa)), (q 4, .inl (cI, 80, .inl Ab)), (q 5, .inl (cI, 80, .inl Ac))] [(4, .int (nI r9)), (3, .int (nI j)), (0, .ref (q 6)), (1, .ref (q 1)), (2, .int (nI n))] 79 [] := by
                  intro fu
                  induction fu with
                  | zero =>
                    intro r9 v hr9 hf3 hv
                    exact absurd trivial (by omega)
                  | succ fu ih79 =>
                    intro r9 v hr9 hf3 hv
                    refine z_iload (pc := 79) hC 0 dX1_fill_79 rfl ?_
                    refine z_bipush (pc := 81) (v := (nI 6)) hC dX1_fill_81 (by decide +kernel) ?_
                    refine z_ncmp_ge (pc := 83) (tgt := 102) hC dX1_fill_83 (by decide) (by omega) (by omega) (fun h83 => ?_) (fun h83 => ?_)
                    · have e9 : r9 = 6 := by omega
                      subst e9
                      have ev : v = fGive n cnt Kd Aa Ab Ac x := hv
                      subst ev
                      refine z_aload_n (pc := 102) hC 2 dX1_fill_102 rfl ?_
                      refine z_callV_V (pc := 103) (y := yX1_endRound) (wy := wsX1_endRound) (rm := { frames := 3, cells := 0, slots := 0, locals := 68 }) (As := []) (rest := []) (na := 0) (C := RX1) (T := TX1) (NF := 8) (ci := 2) (wc := [(q 6, .inr (2, [.ref (q 7), .ref (q 8), .ref (q 9), .ref (q 10), .int (nI n), .int (nI ((x).2.2.1.2)), .int (nI ((x).2.2.2)), .int ((fGive n cnt Kd Aa Ab Ac x).2.2)])), (q 7, .inl (cI, 168, .inl x.1.1)), (q 8, .inl (cI, 168, .inl ((fGive n cnt Kd Aa Ab Ac x).1))), (q 10, .inl (cI, 4032, .inl ((x).2.2.1.1)))]) (wc2 := [(q 6, .inr (2, [.ref (q 7), .ref (q 8), .ref (q 9), .ref (q 10), .int (nI n), .int (nI ((erO n x.1.1 ((fGive n cnt Kd Aa Ab Ac x).1) ((fGive n cnt Kd Aa Ab Ac x).2.2) x.2.2.1).2)), .int (nI (erR ((fGive n cnt Kd Aa Ab Ac x).2.2) x.2.2.2)), .int ((fGive n cnt Kd Aa Ab Ac x).2.2)])), (q 7, .inl (cI, 168, .inl x.1.1)), (q 8, .inl (cI, 168, .inl ((fGive n cnt Kd Aa Ab Ac x).1))), (q 10, .inl (cI, 4032, .inl ((erO n x.1.1 ((fGive n cnt Kd Aa Ab Ac x).1) ((fGive n cnt Kd Aa Ab Ac x).2.2) x.2.2.1).1)))]) hC hRm hDis hLis 0 rfl rfl gX1_fill_X1_endRound ⟨rfl, by decide +kernel, by decide +kernel⟩ rfl ⟨by decide, by decide⟩ ⟨by decide, by decide⟩ rfl (Nat.le_of_ble_eq_true rfl) (by decide +kernel) (c_X1_endRound _ _ cI cJ cZ (q) (x.1.1) ((fGive n cnt Kd Aa Ab Ac x).1) (x.2.2.1) (n) (x.2.2.2) ((fGive n cnt Kd Aa Ab Ac x).2.2) (hn) (hfc)) [0, 1, 2, 4] [3, 5, 6, 7, 8, 9] [6, 7, 8, 0, 9, 1, 2, 3, 4, 5] [(q 9, .inl (cJ, 4032, .inr (.inl ((fGive n cnt Kd Aa Ab Ac x).2.1)))), (q 1, .inr (1, [.ref (q 2), .ref (q 3), .ref (q 4), .ref (q 5), .int (nI cnt)])), (q 2, .inl (cI, 80, .inl Kd)), (q 3, .inl (cI, 80, .inl Aa)), (q 4, .inl (cI, 80, .inl Ab)), (q 5, .inl (cI, 80, .inl Ac))] rfl (by decide) rfl (by decide) (by decide) [(q 6, .inr (2, [.ref (q 7), .ref (q 8), .ref (q 9), .ref (q 10), .int (nI n), .int (nI ((erO n x.1.1 ((fGive n cnt Kd Aa Ab Ac x).1) ((fGive n cnt Kd Aa Ab Ac x).2.2) x.2.2.1).2)), .int (nI (erR ((fGive n cnt Kd Aa Ab Ac x).2.2) x.2.2.2)), .int ((fGive n cnt Kd Aa Ab Ac x).2.2)])), (q 7, .inl (cI, 168, .inl x.1.1)), (q 8, .inl (cI, 168, .inl ((fGive n cnt Kd Aa Ab Ac x).1))), (q 9, .inl (cJ, 4032, .inr (.inl ((fGive n cnt Kd Aa Ab Ac x).2.1)))), (q 10, .inl (cI, 4032, .inl ((erO n x.1.1 ((fGive n cnt Kd Aa Ab Ac x).1) ((fGive n cnt Kd Aa Ab Ac x).2.2) x.2.2.1).1))), (q 1, .inr (1, [.ref (q 2), .ref (q 3), .ref (q 4), .ref (q 5), .int (nI cnt)])), (q 2, .inl (cI, 80, .inl Kd)), (q 3, .inl (cI, 80, .inl Aa)), (q 4, .inl (cI, 80, .inl Ab)), (q 5, .inl (cI, 80, .inl Ac))] rfl (by decide) rfl dX1_fill_103 ?_
                      refine z_iinc (pc := 106) (q := 1) (x := (nI j)) (v := (nI (j + 1))) hC hNL [(3, .int (nI (j + 1))), (4, .int (nI 6)), (0, .ref (q 6)), (1, .ref (q 1)), (2, .int (nI n))] dX1_fill_106 rfl (nI_add _ _) (by decide) rfl ?_
                      refine z_goto (pc := 109) (tgt := 16) hC dX1_fill_109 (by decide) ?_
                      refine z_lv [0, 2, 3, 4] rfl ?_
                      exact ih16 (j + 1) (fRound n cnt Kd Aa Ab Ac x) (by omega) (by omega) (by omega) (by exact erO_le hfc) (by rw [hX, fLoop_n (by omega) h27, show 4032 - j - 1 = 4032 - (j + 1) by omega])
                    · refine z_aload_n (pc := 86) hC 2 dX1_fill_86 rfl ?_
                      refine z_bipush (pc := 87) (v := (nI 100)) hC dX1_fill_87 (by decide +kernel) ?_
                      refine z_iload (pc := 89) hC 0 dX1_fill_89 rfl ?_
                      refine z_iconst (pc := 91) (v := (nI 1)) hC dX1_fill_91 (by decide +kernel) ?_
                      refine z_iconst (pc := 92) (v := (nI 1)) hC dX1_fill_92 (by decide +kernel) ?_
                      refine z_callV_V (pc := 93) (y := yX1_giveToWhatHas) (wy := wsX1_giveToWhatHas) (rm := { frames := 2, cells := 0, slots := 0, locals := 49 }) (As := [.int (nI 100), .int (nI r9), .int (nI 1), .int (nI 1)]) (rest := []) (na := 4) (C := RX1) (T := TX1) (NF := 8) (ci := 2) (wc := [(q 6, .inr (2, [.ref (q 7), .ref (q 8), .ref (q 9), .ref (q 10), .int (nI n), .int (nI ((x).2.2.1.2)), .int (nI ((x).2.2.2)), .int v.2.2])), (q 7, .inl (cI, 168, .inl x.1.1)), (q 8, .inl (cI, 168, .inl v.1)), (q 9, .inl (cJ, 4032, .inr (.inl v.2.1)))]) (wc2 := [(q 6, .inr (2, [.ref (q 7), .ref (q 8), .ref (q 9), .ref (q 10), .int (nI n), .int (nI ((x).2.2.1.2)), .int (nI ((x).2.2.2)), .int ((gvWh n (nI ((x).2.2.2)) x.1.1 (nI 100) r9 1 1 v n).2.2)])), (q 7, .inl (cI, 168, .inl x.1.1)), (q 8, .inl (cI, 168, .inl ((gvWh n (nI ((x).2.2.2)) x.1.1 (nI 100) r9 1 1 v n).1))), (q 9, .inl (cJ, 4032, .inr (.inl ((gvWh n (nI ((x).2.2.2)) x.1.1 (nI 100) r9 1 1 v n).2.1))))]) hC hRm hDis hLis 0 rfl rfl gX1_fill_X1_giveToWhatHas ⟨rfl, by decide +kernel, by decide +kernel⟩ rfl ⟨by decide, by decide⟩ ⟨by decide, by decide⟩ rfl (Nat.le_of_ble_eq_true rfl) (by decide +kernel) (c_X1_giveToWhatHas _ _ cI cJ cZ (q) (x.1.1) (v) (n) (nI ((x).2.2.1.2)) (nI ((x).2.2.2)) (nI 100) (r9) (1) (1) (by omega) (by decide) (by decide) (hn)) [0, 1, 2, 3] [4, 5, 6, 7, 8, 9] [6, 7, 8, 9, 0, 1, 2, 3, 4, 5] [(q 10, .inl (cI, 4032, .inl ((x).2.2.1.1))), (q 1, .inr (1, [.ref (q 2), .ref (q 3), .ref (q 4), .ref (q 5), .int (nI cnt)])), (q 2, .inl (cI, 80, .inl Kd)), (q 3, .inl (cI, 80, .inl Aa)), (q 4, .inl (cI, 80, .inl Ab)), (q 5, .inl (cI, 80, .inl Ac))] rfl (by decide) rfl (by decide) (by decide) [(q 6, .inr (2, [.ref (q 7), .ref (q 8), .ref (q 9), .ref (q 10), .int (nI n), .int (nI ((x).2.2.1.2)), .int (nI ((x).2.2.2)), .int ((gvWh n (nI ((x).2.2.2)) x.1.1 (nI 100) r9 1 1 v n).2.2)])), (q 7, .inl (cI, 168, .inl x.1.1)), (q 8, .inl (cI, 168, .inl ((gvWh n (nI ((x).2.2.2)) x.1.1 (nI 100) r9 1 1 v n).1))), (q 9, .inl (cJ, 4032, .inr (.inl ((gvWh n (nI ((x).2.2.2)) x.1.1 (nI 100) r9 1 1 v n).2.1)))), (q 10, .inl (cI, 4032, .inl ((x).2.2.1.1))), (q 1, .inr (1, [.ref (q 2), .ref (q 3), .ref (q 4), .ref (q 5), .int (nI cnt)])), (q 2, .inl (cI, 80, .inl Kd)), (q 3, .inl (cI, 80, .inl Aa)), (q 4, .inl (cI, 80, .inl Ab)), (q 5, .inl (cI, 80, .inl Ac))] rfl (by decide) rfl dX1_fill_93 ?_
                      refine z_iinc (pc := 96) (q := 0) (x := (nI r9)) (v := (nI (r9 + 1))) hC hNL [(4, .int (nI (r9 + 1))), (3, .int (nI j)), (0, .ref (q 6)), (1, .ref (q 1)), (2, .int (nI n))] dX1_fill_96 rfl (nI_add _ _) (by decide) rfl ?_
                      refine z_goto (pc := 99) (tgt := 79) hC dX1_fill_99 (by decide) ?_
                      exact ih79 (r9 + 1) (gvWh n (nI ((x).2.2.2)) x.1.1 (nI 100) r9 1 1 v n) (by omega) (by omega) (by rw [hv]; rfl)
                exact L79 (7) (0) (w) (by omega) (by omega) (by rw [hw, show k = cnt by omega]; rfl)
              · refine z_aload_n (pc := 63) hC 2 dX1_fill_63 rfl ?_
                refine z_aload_n (pc := 64) hC 3 dX1_fill_64 rfl ?_
                refine z_iload (pc := 65) hC 0 dX1_fill_65 rfl ?_
                refine z_callV_V (pc := 67) (y := yX1_giveByAxiom) (wy := wsX1_giveByAxiom) (rm := { frames := 3, cells := 0, slots := 0, locals := 78 }) (As := [.ref (q 1), .int (nI k)]) (rest := []) (na := 2) (C := RX1) (T := TX1) (NF := 8) (ci := 2) (wc := [(q 6, .inr (2, [.ref (q 7), .ref (q 8), .ref (q 9), .ref (q 10), .int (nI n), .int (nI ((x).2.2.1.2)), .int (nI ((x).2.2.2)), .int w.2.2])), (q 7, .inl (cI, 168, .inl x.1.1)), (q 8, .inl (cI, 168, .inl w.1)), (q 9, .inl (cJ, 4032, .inr (.inl w.2.1))), (q 1, .inr (1, [.ref (q 2), .ref (q 3), .ref (q 4), .ref (q 5), .int (nI cnt)])), (q 2, .inl (cI, 80, .inl Kd)), (q 3, .inl (cI, 80, .inl Aa)), (q 4, .inl (cI, 80, .inl Ab)), (q 5, .inl (cI, 80, .inl Ac))]) (wc2 := [(q 6, .inr (2, [.ref (q 7), .ref (q 8), .ref (q 9), .ref (q 10), .int (nI n), .int (nI ((x).2.2.1.2)), .int (nI ((x).2.2.2)), .int ((byAx n (nI ((x).2.2.2)) x.1.1 k (Kd k) (tn (Aa k)) (tn (Ab k)) (tn (Ac k)) w).2.2)])), (q 7, .inl (cI, 168, .inl x.1.1)), (q 8, .inl (cI, 168, .inl ((byAx n (nI ((x).2.2.2)) x.1.1 k (Kd k) (tn (Aa k)) (tn (Ab k)) (tn (Ac k)) w).1))), (q 9, .inl (cJ, 4032, .inr (.inl ((byAx n (nI ((x).2.2.2)) x.1.1 k (Kd k) (tn (Aa k)) (tn (Ab k)) (tn (Ac k)) w).2.1)))), (q 1, .inr (1, [.ref (q 2), .ref (q 3), .ref (q 4), .ref (q 5), .int (nI cnt)])), (q 2, .inl (cI, 80, .inl Kd)), (q 3, .inl (cI, 80, .inl Aa)), (q 4, .inl (cI, 80, .inl Ab)), (q 5, .inl (cI, 80, .inl Ac))]) hC hRm hDis hLis 0 rfl rfl gX1_fill_X1_giveByAxiom ⟨rfl, by decide +kernel, by decide +kernel⟩ rfl ⟨by decide, by decide⟩ ⟨by decide, by decide⟩ rfl (Nat.le_of_ble_eq_true rfl) (by decide +kernel) (c_X1_giveByAxiom _ _ cI cJ cZ (q) (x.1.1) (w) (n) (nI ((x).2.2.1.2)) (nI ((x).2.2.2)) (Kd) (Aa) (Ab) (Ac) (cnt) (k) (hn) (by omega) (hax k (by omega))) [0, 1, 2, 3, 5, 6, 7, 8, 9] [4] [1, 2, 3, 4, 0, 5, 6, 7, 8, 9] [(q 10, .inl (cI, 4032, .inl ((x).2.2.1.1)))] rfl (by decide) rfl (by decide) (by decide) [(q 6, .inr (2, [.ref (q 7), .ref (q 8), .ref (q 9), .ref (q 10), .int (nI n), .int (nI ((x).2.2.1.2)), .int (nI ((x).2.2.2)), .int ((byAx n (nI ((x).2.2.2)) x.1.1 k (Kd k) (tn (Aa k)) (tn (Ab k)) (tn (Ac k)) w).2.2)])), (q 7, .inl (cI, 168, .inl x.1.1)), (q 8, .inl (cI, 168, .inl ((byAx n (nI ((x).2.2.2)) x.1.1 k (Kd k) (tn (Aa k)) (tn (Ab k)) (tn (Ac k)) w).1))), (q 9, .inl (cJ, 4032, .inr (.inl ((byAx n (nI ((x).2.2.2)) x.1.1 k (Kd k) (tn (Aa k)) (tn (Ab k)) (tn (Ac k)) w).2.1)))), (q 10, .inl (cI, 4032, .inl ((x).2.2.1.1))), (q 1, .inr (1, [.ref (q 2), .ref (q 3), .ref (q 4), .ref (q 5), .int (nI cnt)])), (q 2, .inl (cI, 80, .inl Kd)), (q 3, .inl (cI, 80, .inl Aa)), (q 4, .inl (cI, 80, .inl Ab)), (q 5, .inl (cI, 80, .inl Ac))] rfl (by decide) rfl dX1_fill_67 ?_
                refine z_iinc (pc := 70) (q := 0) (x := (nI k)) (v := (nI (k + 1))) hC hNL [(4, .int (nI (k + 1))), (3, .int (nI j)), (0, .ref (q 6)), (1, .ref (q 1)), (2, .int (nI n))] dX1_fill_70 rfl (nI_add _ _) (by decide) rfl ?_
                refine z_goto (pc := 73) (tgt := 54) hC dX1_fill_73 (by decide) ?_
                exact ih54 (k + 1) (byAx n (nI ((x).2.2.2)) x.1.1 k (Kd k) (tn (Aa k)) (tn (Ab k)) (tn (Ac k)) w) (by omega) (by omega) (by rw [hw]; rfl)
          exact L54 (cnt + 1) (0) ((x.1.1, x.1.2.1, nI 0)) (by omega) (by omega) (rfl)
  exact L16 (4032) (1) (fStart n cnt Kd Aa O) (by omega) (by omega) (by omega) (erO_le (Nat.zero_le 4032)) (rfl)
