/-! ElCompletionModel: want, trace -/

def mWt (Wt : Nat → Int32) (c : Int32) : Nat → Int32 := if c < 0 then Wt else if Wt (tn c) = 0 then upd Wt (tn c) (nI 1) else Wt
def mWb (Wt : Nat → Int32) (c : Int32) : Bool := decide (¬ c < 0 ∧ Wt (tn c) = 0)
section MW
variable {Wt : Nat → Int32} {c : Int32} {j : Nat}
theorem mWt_n (h : c < 0) : mWt Wt c = Wt := if_pos h
theorem mWb_n (h : c < 0) : mWb Wt c = false := decide_eq_false (fun q => q.1 h)
theorem mWt_j (hj : j < 4032) (h : Wt j = 0) : mWt Wt (nI j) = upd Wt j (nI 1) := by unfold mWt; rw [if_neg (nI_pos (by omega)), tn_nI (by omega), if_pos h]
theorem mWt_k (hj : j < 4032) (h : ¬ Wt j = 0) : mWt Wt (nI j) = Wt := by unfold mWt; rw [if_neg (nI_pos (by omega)), tn_nI (by omega), if_neg h]
theorem mWb_j (hj : j < 4032) (h : Wt j = 0) : mWb Wt (nI j) = true := decide_eq_true ⟨nI_pos (by omega), by rw [tn_nI (by omega)]; exact h⟩
theorem mWb_k (hj : j < 4032) (h : ¬ Wt j = 0) : mWb Wt (nI j) = false := decide_eq_false (fun q => h (by have := q.2; rwa [tn_nI (by omega)] at this))
end MW

set_option maxRecDepth 100000 in
set_option maxHeartbeats 4000000 in
theorem c_X4_want (l : Launch) (D : va_G) (cI cJ cZ : ClassId) (p : Nat → Nat) (n : Nat) (cnt : Nat) (kn : Bool) (rd : Nat) (md : Int32) (fo : Nat) (ps : Nat) (th : Int32) (Wt : Nat → Int32) (p0 : Int32) (hs : ¬ p0 < 0 → clV 4032 p0) : MI l yX4_want wsX4_want { frames := 0, cells := 0, slots := 0, locals := 0 } D (tyL cI cJ cZ) [.ref (p 0), .int p0] [(p 0, .inr (5, [.int (nI n), .ref (p 1), .int (nI cnt), .int (bI (kn)), .ref (p 2), .ref (p 3), .ref (p 4), .ref (p 5), .int (nI rd), .int md, .ref (p 6), .int (nI fo), .ref (p 7), .int (nI ps), .int th, .ref (p 8)])), (p 8, .inl (cZ, 4032, .inl Wt))] [(p 0, .inr (5, [.int (nI n), .ref (p 1), .int (nI cnt), .int (bI (kn)), .ref (p 2), .ref (p 3), .ref (p 4), .ref (p 5), .int (nI rd), .int md, .ref (p 6), .int (nI fo), .ref (p 7), .int (nI ps), .int th, .ref (p 8)])), (p 8, .inl (cZ, 4032, .inl (mWt Wt p0)))] (bI (mWb Wt p0)) := by
  refine metI_of (cc := cX4_want) (maxL := 2) (ret := (some .boolean)) (by decide +kernel) rfl (Nat.le_of_ble_eq_true rfl) ?_
  intro K hC hRm hNL hDis hLis hRT hIni hQ
  have hinX4 : ∀ w ∈ wsX40, w ∈ wsX4_want := by decide +kernel
  refine z_iload_n (pc := 0) hC 1 dX4_want_0 rfl ?_
  refine z_if_lt (pc := 1) (tgt := 13) hC dX4_want_1 (by decide) (fun h1 => ?_) (fun h1 => ?_)
  · refine z_iconst (pc := 13) (v := (nI 0)) hC dX4_want_13 (by decide +kernel) ?_
    exact z_iret (pc := 14) hC hQ hRT (by decide +kernel) (by first | exact bI_f (mWb_n h1) | exact bI_f (mWb_k hj h10)) (by first | rw [mWt_n h1] | rw [mWt_k hj h10]) dX4_want_14
  · obtain ⟨j, hj, ej⟩ := hs h1
    subst ej
    refine z_aload_n (pc := 4) hC 0 dX4_want_4 rfl ?_
    refine z_get (pc := 5) (C := RX4) (T := TX4) (N := 16) hC hinX4 0 rfl rfl 15 (by decide) (by decide +kernel) rfl dX4_want_5 ?_
    refine z_iload_n (pc := 8) hC 1 dX4_want_8 rfl ?_
    refine z_zald (pc := 9) (v := (Wt j)) hC 1 2 rfl rfl (hj) (by decide) (rfl) dX4_want_9 ?_
    refine z_if_eq (pc := 10) (tgt := 15) hC dX4_want_10 (by decide) (fun h10 => ?_) (fun h10 => ?_)
    · refine z_aload_n (pc := 15) hC 0 dX4_want_15 rfl ?_
      refine z_get (pc := 16) (C := RX4) (T := TX4) (N := 16) hC hinX4 0 rfl rfl 15 (by decide) (by decide +kernel) rfl dX4_want_16 ?_
      refine z_iload_n (pc := 19) hC 1 dX4_want_19 rfl ?_
      refine z_iconst (pc := 20) (v := (nI 1)) hC dX4_want_20 (by decide +kernel) ?_
      refine z_zast (pc := 21) (y := (nI 1)) hC 1 2 rfl rfl (hj) (by decide) (by decide +kernel) [(p 0, .inr (5, [.int (nI n), .ref (p 1), .int (nI cnt), .int (bI (kn)), .ref (p 2), .ref (p 3), .ref (p 4), .ref (p 5), .int (nI rd), .int md, .ref (p 6), .int (nI fo), .ref (p 7), .int (nI ps), .int th, .ref (p 8)])), (p 8, .inl (cZ, 4032, .inl (upd Wt j (nI 1))))] rfl dX4_want_21 ?_
      refine z_iconst (pc := 22) (v := (nI 1)) hC dX4_want_22 (by decide +kernel) ?_
      exact z_iret (pc := 23) hC hQ hRT (by decide +kernel) (bI_t (mWb_j hj h10)) (by rw [mWt_j hj h10]) dX4_want_23
    · refine z_iconst (pc := 13) (v := (nI 0)) hC dX4_want_13 (by decide +kernel) ?_
      exact z_iret (pc := 14) hC hQ hRT (by decide +kernel) (by first | exact bI_f (mWb_n h1) | exact bI_f (mWb_k hj h10)) (by first | rw [mWt_n h1] | rw [mWt_k hj h10]) dX4_want_14

abbrev WS : Type := (Nat → Int32) × Bool
def mW1 (Fi : Nat → Int32) (u : WS) : Nat → WS
  | 0 => u
  | c + 1 => if (mW1 Fi u c).1 c = 0 then mW1 Fi u c else (mWt (mW1 Fi u c).1 (Fi c), mWb (mW1 Fi u c).1 (Fi c) || (mW1 Fi u c).2)
theorem mW1_e {Fi : Nat → Int32} {u : WS} {c : Nat} (h : (mW1 Fi u c).1 c = 0) : mW1 Fi u (c + 1) = mW1 Fi u c := if_pos h
theorem mW1_n {Fi : Nat → Int32} {u : WS} {c : Nat} (h : ¬ (mW1 Fi u c).1 c = 0) : mW1 Fi u (c + 1) = (mWt (mW1 Fi u c).1 (Fi c), mWb (mW1 Fi u c).1 (Fi c) || (mW1 Fi u c).2) := if_neg h
def mWp (Fi Se : Nat → Int32) (Wt : Nat → Int32) : WS := mW1 Se (mW1 Fi (Wt, false) 4032) 4032
def mWl (Fi Se : Nat → Int32) : Nat → WS → (Nat → Int32)
  | 0, u => u.1
  | f + 1, u => if u.2 = true then mWl Fi Se f (mWp Fi Se u.1) else u.1
theorem mWl_t {Fi Se : Nat → Int32} {f : Nat} {u : WS} (h : u.2 = true) : mWl Fi Se (f + 1) u = mWl Fi Se f (mWp Fi Se u.1) := if_pos h
theorem mWl_f {Fi Se : Nat → Int32} {f : Nat} {u : WS} (h : u.2 = false) : mWl Fi Se (f + 1) u = u.1 := if_neg (by rw [h]; decide)
/-- how many are not wanted -/
def cW (Wt : Nat → Int32) : Nat → Nat
  | 0 => 0
  | i + 1 => cW Wt i + (if Wt i = 0 then 1 else 0)
theorem cW_le (Wt : Nat → Int32) : ∀ i, cW Wt i ≤ i
  | 0 => Nat.le_refl 0
  | i + 1 => by
    have := cW_le Wt i
    have e1 : cW Wt (i + 1) = cW Wt i + (if Wt i = 0 then 1 else 0) := rfl
    split at e1 <;> omega
theorem cW_hi {Wt : Nat → Int32} {c : Nat} {v : Int32} : ∀ i, i ≤ c → cW (upd Wt c v) i = cW Wt i
  | 0, _ => rfl
  | i + 1, h => by
    unfold cW
    rw [cW_hi i (by omega), pk_un (by omega)]
theorem cW_upd {Wt : Nat → Int32} {c : Nat} (h0 : Wt c = 0) : ∀ i, c < i → cW (upd Wt c (nI 1)) i + 1 = cW Wt i
  | 0, h => absurd h (Nat.not_lt_zero c)
  | i + 1, h => by
    have e1 : cW (upd Wt c (nI 1)) (i + 1) = cW (upd Wt c (nI 1)) i + (if upd Wt c (nI 1) i = 0 then 1 else 0) := rfl
    have e2 : cW Wt (i + 1) = cW Wt i + (if Wt i = 0 then 1 else 0) := rfl
    by_cases e : c = i
    · subst e
      rw [cW_hi c (Nat.le_refl c), pk_us, if_neg (by decide)] at e1
      rw [if_pos h0] at e2
      omega
    · have := cW_upd h0 i (by omega)
      rw [pk_un (fun q => e q.symm)] at e1
      omega
theorem mWt_c {Wt : Nat → Int32} {c : Int32} (hs : ¬ c < 0 → clV 4032 c) : cW (mWt Wt c) 4032 + (if mWb Wt c = true then 1 else 0) = cW Wt 4032 := by
  by_cases h : c < 0
  · rw [mWt_n h, mWb_n h, if_neg (by decide), Nat.add_zero]
  · obtain ⟨j, hj, rfl⟩ := hs h
    by_cases h2 : Wt j = 0
    · rw [mWt_j hj h2, mWb_j hj h2, if_pos rfl]
      exact cW_upd h2 4032 hj
    · rw [mWt_k hj h2, mWb_k hj h2, if_neg (by decide), Nat.add_zero]
theorem mW1_c {Fi : Nat → Int32} (hF : ∀ c, c < 4032 → ¬ Fi c < 0 → clV 4032 (Fi c)) {u : WS} : ∀ i, i ≤ 4032 → cW (mW1 Fi u i).1 4032 ≤ cW u.1 4032 ∧ ((mW1 Fi u i).2 = true → u.2 = true ∨ cW (mW1 Fi u i).1 4032 < cW u.1 4032)
  | 0, _ => ⟨Nat.le_refl _, fun h => Or.inl h⟩
  | i + 1, hi => by
    obtain ⟨h1, h2⟩ := mW1_c hF (u := u) i (by omega)
    by_cases h : (mW1 Fi u i).1 i = 0
    · rw [mW1_e h]; exact ⟨h1, h2⟩
    · rw [mW1_n h]
      have h3 := mWt_c (Wt := (mW1 Fi u i).1) (hF i (by omega))
      refine ⟨by show cW (mWt _ _) 4032 ≤ _; omega, fun h4 => ?_⟩
      show _ ∨ cW (mWt _ _) 4032 < _
      cases hb : mWb (mW1 Fi u i).1 (Fi i) with
      | true =>
        rw [hb, if_pos rfl] at h3
        exact Or.inr (by omega)
      | false =>
        rw [hb] at h4
        rcases h2 h4 with h5 | h5
        · exact Or.inl h5
        · exact Or.inr (by omega)
theorem mWp_dec {Fi Se : Nat → Int32} (hF : ∀ c, c < 4032 → ¬ Fi c < 0 → clV 4032 (Fi c)) (hS : ∀ c, c < 4032 → ¬ Se c < 0 → clV 4032 (Se c)) {Wt : Nat → Int32} (h : (mWp Fi Se Wt).2 = true) : cW (mWp Fi Se Wt).1 4032 < cW Wt 4032 := by
  obtain ⟨a1, a2⟩ := mW1_c hF (u := (Wt, false)) 4032 (Nat.le_refl _)
  obtain ⟨b1, b2⟩ := mW1_c hS (u := mW1 Fi (Wt, false) 4032) 4032 (Nat.le_refl _)
  rcases b2 h with h2 | h2
  · rcases a2 h2 with h3 | h3
    · exact absurd (show false = true from h3) (by decide)
    · exact Nat.lt_of_le_of_lt b1 h3
  · exact Nat.lt_of_lt_of_le h2 a1
def mTr (Wt Row : Nat → Int32) (x : RS) : Nat → RS
  | 0 => x
  | i + 1 => if Wt (tn (Row i)) = 0 then mTr Wt Row x i else (upd (mTr Wt Row x i).1 (mTr Wt Row x i).2 (Row i), (mTr Wt Row x i).2 + 1)
theorem mTr_e {Wt Row : Nat → Int32} {x : RS} {i : Nat} (h : Wt (tn (Row i)) = 0) : mTr Wt Row x (i + 1) = mTr Wt Row x i := if_pos h
theorem mTr_n {Wt Row : Nat → Int32} {x : RS} {i : Nat} (h : ¬ Wt (tn (Row i)) = 0) : mTr Wt Row x (i + 1) = (upd (mTr Wt Row x i).1 (mTr Wt Row x i).2 (Row i), (mTr Wt Row x i).2 + 1) := if_neg h
def mWf (s : MSt) (j : Nat) : Nat → Int32 := mWl s.1.2.2.1 s.1.2.2.2.1 5000 (fun c => if c = j then nI 1 else nI 0, true)
def mTrW (s : MSt) (c : Int32) (Wt : Nat → Int32) : Nat → Int32 := if mFlw s.1.1 c = true then mWf s (tn c) else Wt
def mTrR (s : MSt) (c : Int32) (Prf : Nat → Int32) : RS := if mFlw s.1.1 c = true then mTr (mWf s (tn c)) s.2.2.1.1 (Prf, 0) s.2.2.1.2 else (Prf, 0)
theorem mTrW_f {s : MSt} {c : Int32} {Wt : Nat → Int32} (h : mFlw s.1.1 c = false) : mTrW s c Wt = Wt := if_neg (by rw [h]; decide)
theorem mTrR_f {s : MSt} {c : Int32} {Prf : Nat → Int32} (h : mFlw s.1.1 c = false) : mTrR s c Prf = (Prf, 0) := if_neg (by rw [h]; decide)
theorem mTrW_t {s : MSt} {j : Nat} {Wt : Nat → Int32} (hj : j < 4032) (h : mFlw s.1.1 (nI j) = true) : mTrW s (nI j) Wt = mWf s j := by unfold mTrW; rw [if_pos h, tn_nI (by omega)]
theorem mTrR_t {s : MSt} {j : Nat} {Prf : Nat → Int32} (hj : j < 4032) (h : mFlw s.1.1 (nI j) = true) : mTrR s (nI j) Prf = mTr (mWf s j) s.2.2.1.1 (Prf, 0) s.2.2.1.2 := by unfold mTrR; rw [if_pos h, tn_nI (by omega)]

set_option maxRecDepth 100000 in
set_option maxHeartbeats 4000000 in
theorem c_X4_trace (l : Launch) (D : va_G) (cI cJ cZ : ClassId) (p : Nat → Nat) (n : Nat) (cnt : Nat) (ps : Nat) (th : Int32) (Ax : Nat → Int32) (s : MSt) (s2 : MSt) (Prf : Nat → Int32) (Wt : Nat → Int32) (p0 : Int32) (hs : mClo n cnt Ax s = s2) (hn : n ≤ 24) (hcnt : cnt ≤ 80) (hax : ∀ k, k < cnt → axV n (Ax (4 * k)) (Ax (4 * k + 1)) (Ax (4 * k + 2)) (Ax (4 * k + 3))) (hkd : ∀ k, k < cnt → ∃ j, 1 ≤ j ∧ j ≤ 7 ∧ Ax (4 * k) = nI j) (hF : ∀ c, c < 4032 → ¬ s2.1.2.2.1 c < 0 → clV 4032 (s2.1.2.2.1 c)) (hS : ∀ c, c < 4032 → ¬ s2.1.2.2.2.1 c < 0 → clV 4032 (s2.1.2.2.2.1 c)) (hfo : s2.2.2.1.2 ≤ 4032) (hRow : ∀ i, i < s2.2.2.1.2 → clV 4032 (s2.2.2.1.1 i)) : MI l yX4_trace wsX4_trace { frames := 6, cells := 0, slots := 0, locals := 145 } D (tyL cI cJ cZ) [.ref (p 0), .int p0] [(p 0, .inr (5, [.int (nI n), .ref (p 1), .int (nI cnt), .int (bI (s.2.2.2)), .ref (p 2), .ref (p 3), .ref (p 4), .ref (p 5), .int (nI (s.2.1)), .int s.1.2.2.2.2, .ref (p 6), .int (nI (s.2.2.1.2)), .ref (p 7), .int (nI ps), .int th, .ref (p 8)])), (p 1, .inl (cI, 320, .inl Ax)), (p 2, .inl (cI, 4032, .inl s.1.1)), (p 3, .inl (cI, 4032, .inl s.1.2.1)), (p 4, .inl (cI, 4032, .inl s.1.2.2.1)), (p 5, .inl (cI, 4032, .inl s.1.2.2.2.1)), (p 6, .inl (cI, 4032, .inl s.2.2.1.1)), (p 7, .inl (cI, 4032, .inl Prf)), (p 8, .inl (cZ, 4032, .inl Wt))] [(p 0, .inr (5, [.int (nI n), .ref (p 1), .int (nI cnt), .int (bI (s2.2.2.2)), .ref (p 2), .ref (p 3), .ref (p 4), .ref (p 5), .int (nI (s2.2.1)), .int s2.1.2.2.2.2, .ref (p 6), .int (nI (s2.2.2.1.2)), .ref (p 7), .int (nI ((mTrR s2 p0 Prf).2)), .int (nI 0), .ref (p 8)])), (p 1, .inl (cI, 320, .inl Ax)), (p 2, .inl (cI, 4032, .inl s2.1.1)), (p 3, .inl (cI, 4032, .inl s2.1.2.1)), (p 4, .inl (cI, 4032, .inl s2.1.2.2.1)), (p 5, .inl (cI, 4032, .inl s2.1.2.2.2.1)), (p 6, .inl (cI, 4032, .inl s2.2.2.1.1)), (p 7, .inl (cI, 4032, .inl ((mTrR s2 p0 Prf).1))), (p 8, .inl (cZ, 4032, .inl (mTrW s2 p0 Wt)))] (nI ((mTrR s2 p0 Prf).2)) := by
  refine metI_of (cc := cX4_trace) (maxL := 4) (ret := (some .int)) (by decide +kernel) rfl (Nat.le_of_ble_eq_true rfl) ?_
  intro K hC hRm hNL hDis hLis hRT hIni hQ
  have hinX4 : ∀ w ∈ wsX40, w ∈ wsX4_trace := by decide +kernel
  refine z_aload_n (pc := 0) hC 0 dX4_trace_0 rfl ?_
  refine z_iconst (pc := 1) (v := (nI 0)) hC dX4_trace_1 (by decide +kernel) ?_
  refine z_put (pc := 2) (C := RX4) (T := TX4) (N := 16) hC hinX4 0 rfl rfl 14 (by decide) tyX4 tyX4_ok nmX4 (by decide +kernel) rfl (rfl) (rfl) (Nat.le_of_ble_eq_true rfl) [(p 0, .inr (5, [.int (nI n), .ref (p 1), .int (nI cnt), .int (bI (s.2.2.2)), .ref (p 2), .ref (p 3), .ref (p 4), .ref (p 5), .int (nI (s.2.1)), .int s.1.2.2.2.2, .ref (p 6), .int (nI (s.2.2.1.2)), .ref (p 7), .int (nI ps), .int (nI 0), .ref (p 8)])), (p 1, .inl (cI, 320, .inl Ax)), (p 2, .inl (cI, 4032, .inl s.1.1)), (p 3, .inl (cI, 4032, .inl s.1.2.1)), (p 4, .inl (cI, 4032, .inl s.1.2.2.1)), (p 5, .inl (cI, 4032, .inl s.1.2.2.2.1)), (p 6, .inl (cI, 4032, .inl s.2.2.1.1)), (p 7, .inl (cI, 4032, .inl Prf)), (p 8, .inl (cZ, 4032, .inl Wt))] rfl dX4_trace_2 ?_
  refine z_aload_n (pc := 5) hC 0 dX4_trace_5 rfl ?_
  refine z_iconst (pc := 6) (v := (nI 0)) hC dX4_trace_6 (by decide +kernel) ?_
  refine z_put (pc := 7) (C := RX4) (T := TX4) (N := 16) hC hinX4 0 rfl rfl 13 (by decide) tyX4 tyX4_ok nmX4 (by decide +kernel) rfl (rfl) (rfl) (Nat.le_of_ble_eq_true rfl) [(p 0, .inr (5, [.int (nI n), .ref (p 1), .int (nI cnt), .int (bI (s.2.2.2)), .ref (p 2), .ref (p 3), .ref (p 4), .ref (p 5), .int (nI (s.2.1)), .int s.1.2.2.2.2, .ref (p 6), .int (nI (s.2.2.1.2)), .ref (p 7), .int (nI 0), .int (nI 0), .ref (p 8)])), (p 1, .inl (cI, 320, .inl Ax)), (p 2, .inl (cI, 4032, .inl s.1.1)), (p 3, .inl (cI, 4032, .inl s.1.2.1)), (p 4, .inl (cI, 4032, .inl s.1.2.2.1)), (p 5, .inl (cI, 4032, .inl s.1.2.2.2.1)), (p 6, .inl (cI, 4032, .inl s.2.2.1.1)), (p 7, .inl (cI, 4032, .inl Prf)), (p 8, .inl (cZ, 4032, .inl Wt))] rfl dX4_trace_7 ?_
  refine z_aload_n (pc := 10) hC 0 dX4_trace_10 rfl ?_
  refine z_iload_n (pc := 11) hC 1 dX4_trace_11 rfl ?_
  refine z_callV_I (pc := 12) (y := yX4_follows) (wy := wsX4_follows) (rm := { frames := 5, cells := 0, slots := 0, locals := 124 }) (As := [.int p0]) (rest := []) (na := 1) (C := RX4) (T := TX4) (NF := 16) (ci := 5) (wc := [(p 0, .inr (5, [.int (nI n), .ref (p 1), .int (nI cnt), .int (bI (s.2.2.2)), .ref (p 2), .ref (p 3), .ref (p 4), .ref (p 5), .int (nI (s.2.1)), .int s.1.2.2.2.2, .ref (p 6), .int (nI (s.2.2.1.2)), .ref (p 7), .int (nI 0), .int (nI 0), .ref (p 8)])), (p 1, .inl (cI, 320, .inl Ax)), (p 2, .inl (cI, 4032, .inl s.1.1)), (p 3, .inl (cI, 4032, .inl s.1.2.1)), (p 4, .inl (cI, 4032, .inl s.1.2.2.1)), (p 5, .inl (cI, 4032, .inl s.1.2.2.2.1)), (p 6, .inl (cI, 4032, .inl s.2.2.1.1))]) (wc2 := [(p 0, .inr (5, [.int (nI n), .ref (p 1), .int (nI cnt), .int (bI (s2.2.2.2)), .ref (p 2), .ref (p 3), .ref (p 4), .ref (p 5), .int (nI (s2.2.1)), .int s2.1.2.2.2.2, .ref (p 6), .int (nI (s2.2.2.1.2)), .ref (p 7), .int (nI 0), .int (nI 0), .ref (p 8)])), (p 1, .inl (cI, 320, .inl Ax)), (p 2, .inl (cI, 4032, .inl s2.1.1)), (p 3, .inl (cI, 4032, .inl s2.1.2.1)), (p 4, .inl (cI, 4032, .inl s2.1.2.2.1)), (p 5, .inl (cI, 4032, .inl s2.1.2.2.2.1)), (p 6, .inl (cI, 4032, .inl s2.2.2.1.1))]) hC hRm hDis hLis 0 rfl rfl gX4_trace_X4_follows ⟨rfl, by decide +kernel, by decide +kernel⟩ rfl ⟨by decide, by decide⟩ ⟨by decide, by decide⟩ rfl (Nat.le_of_ble_eq_true rfl) (by decide +kernel) (c_X4_follows _ _ cI cJ cZ (p) (n) (cnt) (0) (nI 0) (Ax) (s) (s2) (p0) (hs) (hn) (hcnt) (hax) (hkd)) [0, 1, 2, 3, 4, 5, 6] [7, 8] [2, 3, 4, 5, 6, 7, 8, 0, 1] [(p 7, .inl (cI, 4032, .inl Prf)), (p 8, .inl (cZ, 4032, .inl Wt))] rfl (by decide) rfl (by decide) (by decide) [(p 0, .inr (5, [.int (nI n), .ref (p 1), .int (nI cnt), .int (bI (s2.2.2.2)), .ref (p 2), .ref (p 3), .ref (p 4), .ref (p 5), .int (nI (s2.2.1)), .int s2.1.2.2.2.2, .ref (p 6), .int (nI (s2.2.2.1.2)), .ref (p 7), .int (nI 0), .int (nI 0), .ref (p 8)])), (p 1, .inl (cI, 320, .inl Ax)), (p 2, .inl (cI, 4032, .inl s2.1.1)), (p 3, .inl (cI, 4032, .inl s2.1.2.1)), (p 4, .inl (cI, 4032, .inl s2.1.2.2.1)), (p 5, .inl (cI, 4032, .inl s2.1.2.2.2.1)), (p 6, .inl (cI, 4032, .inl s2.2.2.1.1)), (p 7, .inl (cI, 4032, .inl Prf)), (p 8, .inl (cZ, 4032, .inl Wt))] rfl (by decide) rfl dX4_trace_12 ?_
  refine z_bif_ne (pc := 15) (tgt := 20) hC dX4_trace_15 (by decide) (fun h15 => ?_) (fun h15 => ?_)
  · obtain ⟨j, hj, ej⟩ := mFlw_of h15
    subst ej
    refine z_iconst (pc := 20) (v := (nI 0)) hC dX4_trace_20 (by decide +kernel) ?_
    refine z_istore_n (pc := 21) hC hNL [(2, .int (nI 0)), (0, .ref (p 0)), (1, .int (nI j))] dX4_trace_21 (by decide) rfl ?_
    have L22 : ∀ (fu : Nat) (c : Nat) (f : Nat → Int32) (hi : c ≤ 4032) (hf : 4033 ≤ c + fu) (hv : ∀ k, k < c → f k = (if k = j then nI 1 else nI 0)), Z K 0 0 [(p 0, .inr (5, [.int (nI n), .ref (p 1), .int (nI cnt), .int (bI (s2.2.2.2)), .ref (p 2), .ref (p 3), .ref (p 4), .ref (p 5), .int (nI (s2.2.1)), .int s2.1.2.2.2.2, .ref (p 6), .int (nI (s2.2.2.1.2)), .ref (p 7), .int (nI 0), .int (nI 0), .ref (p 8)])), (p 1, .inl (cI, 320, .inl Ax)), (p 2, .inl (cI, 4032, .inl s2.1.1)), (p 3, .inl (cI, 4032, .inl s2.1.2.1)), (p 4, .inl (cI, 4032, .inl s2.1.2.2.1)), (p 5, .inl (cI, 4032, .inl s2.1.2.2.2.1)), (p 6, .inl (cI, 4032, .inl s2.2.2.1.1)), (p 7, .inl (cI, 4032, .inl Prf)), (p 8, .inl (cZ, 4032, .inl f))] [(2, .int (nI c)), (0, .ref (p 0)), (1, .int (nI j))] 22 [] := by
      intro fu
      induction fu with
      | zero =>
        intro c f hi hf hv
        exact absurd trivial (by omega)
      | succ fu ih22 =>
        intro c f hi hf hv
        refine z_iload_n (pc := 22) hC 0 dX4_trace_22 rfl ?_
        refine z_sipush (pc := 23) (v := (nI 4032)) hC dX4_trace_23 (by decide +kernel) ?_
        refine z_ncmp_ge (pc := 26) (tgt := 51) hC dX4_trace_26 (by decide) (by omega) (by omega) (fun h26 => ?_) (fun h26 => ?_)
        · refine z_arrI (f' := fun c => if c = j then nI 1 else nI 0) 8 rfl (fun k hk => hv k (by omega)) [(p 0, .inr (5, [.int (nI n), .ref (p 1), .int (nI cnt), .int (bI (s2.2.2.2)), .ref (p 2), .ref (p 3), .ref (p 4), .ref (p 5), .int (nI (s2.2.1)), .int s2.1.2.2.2.2, .ref (p 6), .int (nI (s2.2.2.1.2)), .ref (p 7), .int (nI 0), .int (nI 0), .ref (p 8)])), (p 1, .inl (cI, 320, .inl Ax)), (p 2, .inl (cI, 4032, .inl s2.1.1)), (p 3, .inl (cI, 4032, .inl s2.1.2.1)), (p 4, .inl (cI, 4032, .inl s2.1.2.2.1)), (p 5, .inl (cI, 4032, .inl s2.1.2.2.2.1)), (p 6, .inl (cI, 4032, .inl s2.2.2.1.1)), (p 7, .inl (cI, 4032, .inl Prf)), (p 8, .inl (cZ, 4032, .inl (fun c => if c = j then nI 1 else nI 0)))] rfl ?_
          refine z_iconst (pc := 51) (v := (nI 1)) hC dX4_trace_51 (by decide +kernel) ?_
          refine z_istore_n (pc := 52) hC hNL [(2, .int (nI 1)), (0, .ref (p 0)), (1, .int (nI j))] dX4_trace_52 (by decide) rfl ?_
          have L53 : ∀ (fu : Nat) (w : WS) (h1f : 1 ≤ fu) (h2f : w.2 = true → cW w.1 4032 + 2 ≤ fu) (hX : mWf s2 j = mWl s2.1.2.2.1 s2.1.2.2.2.1 fu w), Z K 0 0 [(p 0, .inr (5, [.int (nI n), .ref (p 1), .int (nI cnt), .int (bI (s2.2.2.2)), .ref (p 2), .ref (p 3), .ref (p 4), .ref (p 5), .int (nI (s2.2.1)), .int s2.1.2.2.2.2, .ref (p 6), .int (nI (s2.2.2.1.2)), .ref (p 7), .int (nI 0), .int (nI 0), .ref (p 8)])), (p 1, .inl (cI, 320, .inl Ax)), (p 2, .inl (cI, 4032, .inl s2.1.1)), (p 3, .inl (cI, 4032, .inl s2.1.2.1)), (p 4, .inl (cI, 4032, .inl s2.1.2.2.1)), (p 5, .inl (cI, 4032, .inl s2.1.2.2.2.1)), (p 6, .inl (cI, 4032, .inl s2.2.2.1.1)), (p 7, .inl (cI, 4032, .inl Prf)), (p 8, .inl (cZ, 4032, .inl w.1))] [(2, .int (bI (w.2))), (0, .ref (p 0)), (1, .int (nI j))] 53 [] := by
            intro fu
            induction fu with
            | zero =>
              intro w h1f h2f hX
              exact absurd trivial (by omega)
            | succ fu ih53 =>
              intro w h1f h2f hX
              refine z_iload_n (pc := 53) hC 0 dX4_trace_53 rfl ?_
              refine z_bif_eq (pc := 54) (tgt := 156) hC dX4_trace_54 (by decide) (fun h54 => ?_) (fun h54 => ?_)
              · have hX2 : mWf s2 j = w.1 := by rw [hX, mWl_f h54]
                refine z_iconst (pc := 156) (v := (nI 0)) hC dX4_trace_156 (by decide +kernel) ?_
                refine z_istore_n (pc := 157) hC hNL [(3, .int (nI 0)), (2, .int (bI (w.2))), (0, .ref (p 0)), (1, .int (nI j))] dX4_trace_157 (by decide) rfl ?_
                have L158 : ∀ (fu : Nat) (k : Nat) (g : RS) (hi : k ≤ s2.2.2.1.2) (hf : s2.2.2.1.2 + 1 ≤ k + fu) (hgl : g.2 ≤ k) (hg : g = mTr w.1 s2.2.2.1.1 (Prf, 0) k), Z K 0 0 [(p 0, .inr (5, [.int (nI n), .ref (p 1), .int (nI cnt), .int (bI (s2.2.2.2)), .ref (p 2), .ref (p 3), .ref (p 4), .ref (p 5), .int (nI (s2.2.1)), .int s2.1.2.2.2.2, .ref (p 6), .int (nI (s2.2.2.1.2)), .ref (p 7), .int (nI (g.2)), .int (nI 0), .ref (p 8)])), (p 1, .inl (cI, 320, .inl Ax)), (p 2, .inl (cI, 4032, .inl s2.1.1)), (p 3, .inl (cI, 4032, .inl s2.1.2.1)), (p 4, .inl (cI, 4032, .inl s2.1.2.2.1)), (p 5, .inl (cI, 4032, .inl s2.1.2.2.2.1)), (p 6, .inl (cI, 4032, .inl s2.2.2.1.1)), (p 7, .inl (cI, 4032, .inl g.1)), (p 8, .inl (cZ, 4032, .inl w.1))] [(3, .int (nI k)), (0, .ref (p 0)), (1, .int (nI j))] 158 [] := by
                  intro fu
                  induction fu with
                  | zero =>
                    intro k g hi hf hgl hg
                    exact absurd trivial (by omega)
                  | succ fu ih158 =>
                    intro k g hi hf hgl hg
                    refine z_iload_n (pc := 158) hC 0 dX4_trace_158 rfl ?_
                    refine z_aload_n (pc := 159) hC 1 dX4_trace_159 rfl ?_
                    refine z_get (pc := 160) (C := RX4) (T := TX4) (N := 16) hC hinX4 0 rfl rfl 11 (by decide) (by decide +kernel) rfl dX4_trace_160 ?_
                    refine z_ncmp_ge (pc := 163) (tgt := 214) hC dX4_trace_163 (by decide) (by omega) (by omega) (fun h163 => ?_) (fun h163 => ?_)
                    · refine z_aload_n (pc := 214) hC 1 dX4_trace_214 rfl ?_
                      refine z_get (pc := 215) (C := RX4) (T := TX4) (N := 16) hC hinX4 0 rfl rfl 13 (by decide) (by decide +kernel) rfl dX4_trace_215 ?_
                      exact z_iret (pc := 218) hC hQ hRT (rfl) (by rw [mTrR_t hj h15, hX2, hg, show k = s2.2.2.1.2 by omega]) (by rw [mTrR_t hj h15, mTrW_t hj h15, hX2, hg, show k = s2.2.2.1.2 by omega]) dX4_trace_218
                    · refine z_aload_n (pc := 166) hC 1 dX4_trace_166 rfl ?_
                      refine z_get (pc := 167) (C := RX4) (T := TX4) (N := 16) hC hinX4 0 rfl rfl 15 (by decide) (by decide +kernel) rfl dX4_trace_167 ?_
                      refine z_aload_n (pc := 170) hC 1 dX4_trace_170 rfl ?_
                      refine z_get (pc := 171) (C := RX4) (T := TX4) (N := 16) hC hinX4 0 rfl rfl 10 (by decide) (by decide +kernel) rfl dX4_trace_171 ?_
                      refine z_iload_n (pc := 174) hC 0 dX4_trace_174 rfl ?_
                      refine z_iald (pc := 175) (v := (s2.2.2.1.1 k)) hC 6 0 rfl rfl (by omega) (by decide) (rfl) dX4_trace_175 ?_
                      obtain ⟨jj, hjj, ejj⟩ := hRow k (by omega)
                      refine z_topi (nI jj) ejj ?_
                      refine z_zald (pc := 176) (v := (w.1 jj)) hC 8 2 rfl rfl (hjj) (by decide) (rfl) dX4_trace_176 ?_
                      refine z_if_ne (pc := 177) (tgt := 183) hC dX4_trace_177 (by decide) (fun h177 => ?_) (fun h177 => ?_)
                      · refine z_aload_n (pc := 183) hC 1 dX4_trace_183 rfl ?_
                        refine z_get (pc := 184) (C := RX4) (T := TX4) (N := 16) hC hinX4 0 rfl rfl 12 (by decide) (by decide +kernel) rfl dX4_trace_184 ?_
                        refine z_aload_n (pc := 187) hC 1 dX4_trace_187 rfl ?_
                        refine z_get (pc := 188) (C := RX4) (T := TX4) (N := 16) hC hinX4 0 rfl rfl 13 (by decide) (by decide +kernel) rfl dX4_trace_188 ?_
                        refine z_aload_n (pc := 191) hC 1 dX4_trace_191 rfl ?_
                        refine z_get (pc := 192) (C := RX4) (T := TX4) (N := 16) hC hinX4 0 rfl rfl 10 (by decide) (by decide +kernel) rfl dX4_trace_192 ?_
                        refine z_iload_n (pc := 195) hC 0 dX4_trace_195 rfl ?_
                        refine z_iald (pc := 196) (v := (s2.2.2.1.1 k)) hC 6 0 rfl rfl (by omega) (by decide) (rfl) dX4_trace_196 ?_
                        refine z_iast (pc := 197) hC 7 0 rfl rfl (by omega) (by decide) [(p 0, .inr (5, [.int (nI n), .ref (p 1), .int (nI cnt), .int (bI (s2.2.2.2)), .ref (p 2), .ref (p 3), .ref (p 4), .ref (p 5), .int (nI (s2.2.1)), .int s2.1.2.2.2.2, .ref (p 6), .int (nI (s2.2.2.1.2)), .ref (p 7), .int (nI (g.2)), .int (nI 0), .ref (p 8)])), (p 1, .inl (cI, 320, .inl Ax)), (p 2, .inl (cI, 4032, .inl s2.1.1)), (p 3, .inl (cI, 4032, .inl s2.1.2.1)), (p 4, .inl (cI, 4032, .inl s2.1.2.2.1)), (p 5, .inl (cI, 4032, .inl s2.1.2.2.2.1)), (p 6, .inl (cI, 4032, .inl s2.2.2.1.1)), (p 7, .inl (cI, 4032, .inl (upd g.1 g.2 (s2.2.2.1.1 k)))), (p 8, .inl (cZ, 4032, .inl w.1))] rfl dX4_trace_197 ?_
                        refine z_aload_n (pc := 198) hC 1 dX4_trace_198 rfl ?_
                        refine z_dup (pc := 199) hC dX4_trace_199 rfl ?_
                        refine z_get (pc := 200) (C := RX4) (T := TX4) (N := 16) hC hinX4 0 rfl rfl 13 (by decide) (by decide +kernel) rfl dX4_trace_200 ?_
                        refine z_iconst (pc := 203) (v := (nI 1)) hC dX4_trace_203 (by decide +kernel) ?_
                        refine z_iadd (pc := 204) (v := (nI (g.2 + 1))) hC dX4_trace_204 (nI_add _ _) ?_
                        refine z_put (pc := 205) (C := RX4) (T := TX4) (N := 16) hC hinX4 0 rfl rfl 13 (by decide) tyX4 tyX4_ok nmX4 (by decide +kernel) rfl (rfl) (rfl) (Nat.le_of_ble_eq_true rfl) [(p 0, .inr (5, [.int (nI n), .ref (p 1), .int (nI cnt), .int (bI (s2.2.2.2)), .ref (p 2), .ref (p 3), .ref (p 4), .ref (p 5), .int (nI (s2.2.1)), .int s2.1.2.2.2.2, .ref (p 6), .int (nI (s2.2.2.1.2)), .ref (p 7), .int (nI (g.2 + 1)), .int (nI 0), .ref (p 8)])), (p 1, .inl (cI, 320, .inl Ax)), (p 2, .inl (cI, 4032, .inl s2.1.1)), (p 3, .inl (cI, 4032, .inl s2.1.2.1)), (p 4, .inl (cI, 4032, .inl s2.1.2.2.1)), (p 5, .inl (cI, 4032, .inl s2.1.2.2.2.1)), (p 6, .inl (cI, 4032, .inl s2.2.2.1.1)), (p 7, .inl (cI, 4032, .inl (upd g.1 g.2 (s2.2.2.1.1 k)))), (p 8, .inl (cZ, 4032, .inl w.1))] rfl dX4_trace_205 ?_
                        refine z_iinc (pc := 208) (q := 0) (x := (nI k)) (v := (nI (k + 1))) hC hNL [(3, .int (nI (k + 1))), (0, .ref (p 0)), (1, .int (nI j))] dX4_trace_208 rfl (nI_add _ _) (by decide) rfl ?_
                        refine z_goto (pc := 211) (tgt := 158) hC dX4_trace_211 (by decide) ?_
                        exact ih158 (k + 1) ((upd g.1 g.2 (s2.2.2.1.1 k), g.2 + 1)) (by omega) (by omega) (by first | exact Nat.le_succ_of_le hgl | (show g.2 + 1 ≤ k + 1; omega)) (by first | rw [mTr_e (by rw [ejj, tn_nI (by omega)]; exact h177), hg] | rw [mTr_n (by rw [ejj, tn_nI (by omega)]; exact h177), hg])
                      · refine z_goto (pc := 180) (tgt := 208) hC dX4_trace_180 (by decide) ?_
                        refine z_iinc (pc := 208) (q := 0) (x := (nI k)) (v := (nI (k + 1))) hC hNL [(3, .int (nI (k + 1))), (0, .ref (p 0)), (1, .int (nI j))] dX4_trace_208 rfl (nI_add _ _) (by decide) rfl ?_
                        refine z_goto (pc := 211) (tgt := 158) hC dX4_trace_211 (by decide) ?_
                        exact ih158 (k + 1) (g) (by omega) (by omega) (by first | exact Nat.le_succ_of_le hgl | (show g.2 + 1 ≤ k + 1; omega)) (by first | rw [mTr_e (by rw [ejj, tn_nI (by omega)]; exact h177), hg] | rw [mTr_n (by rw [ejj, tn_nI (by omega)]; exact h177), hg])
                refine z_lv [0, 2, 3] rfl ?_
                exact L158 (s2.2.2.1.2 + 1) (0) ((Prf, 0)) (by omega) (by omega) (Nat.zero_le 0) (rfl)
              · refine z_iconst (pc := 57) (v := (nI 0)) hC dX4_trace_57 (by decide +kernel) ?_
                refine z_istore_n (pc := 58) hC hNL [(2, .int (nI 0)), (0, .ref (p 0)), (1, .int (nI j))] dX4_trace_58 (by decide) rfl ?_
                refine z_iconst (pc := 59) (v := (nI 0)) hC dX4_trace_59 (by decide +kernel) ?_
                refine z_istore_n (pc := 60) hC hNL [(3, .int (nI 0)), (2, .int (nI 0)), (0, .ref (p 0)), (1, .int (nI j))] dX4_trace_60 (by decide) rfl ?_
                have L61 : ∀ (fu : Nat) (c : Nat) (u : WS) (hi : c ≤ 4032) (hf : 4033 ≤ c + fu) (hu : u = mW1 s2.1.2.2.1 (w.1, false) c), Z K 0 0 [(p 0, .inr (5, [.int (nI n), .ref (p 1), .int (nI cnt), .int (bI (s2.2.2.2)), .ref (p 2), .ref (p 3), .ref (p 4), .ref (p 5), .int (nI (s2.2.1)), .int s2.1.2.2.2.2, .ref (p 6), .int (nI (s2.2.2.1.2)), .ref (p 7), .int (nI 0), .int (nI 0), .ref (p 8)])), (p 1, .inl (cI, 320, .inl Ax)), (p 2, .inl (cI, 4032, .inl s2.1.1)), (p 3, .inl (cI, 4032, .inl s2.1.2.1)), (p 4, .inl (cI, 4032, .inl s2.1.2.2.1)), (p 5, .inl (cI, 4032, .inl s2.1.2.2.2.1)), (p 6, .inl (cI, 4032, .inl s2.2.2.1.1)), (p 7, .inl (cI, 4032, .inl Prf)), (p 8, .inl (cZ, 4032, .inl u.1))] [(3, .int (nI c)), (2, .int (bI (u.2))), (0, .ref (p 0)), (1, .int (nI j))] 61 [] := by
                  intro fu
                  induction fu with
                  | zero =>
                    intro c u hi hf hu
                    exact absurd trivial (by omega)
                  | succ fu ih61 =>
                    intro c u hi hf hu
                    refine z_iload_n (pc := 61) hC 0 dX4_trace_61 rfl ?_
                    refine z_sipush (pc := 62) (v := (nI 4032)) hC dX4_trace_62 (by decide +kernel) ?_
                    refine z_ncmp_ge (pc := 65) (tgt := 106) hC dX4_trace_65 (by decide) (by omega) (by omega) (fun h65 => ?_) (fun h65 => ?_)
                    · refine z_iconst (pc := 106) (v := (nI 0)) hC dX4_trace_106 (by decide +kernel) ?_
                      refine z_istore_n (pc := 107) hC hNL [(3, .int (nI 0)), (2, .int (bI (u.2))), (0, .ref (p 0)), (1, .int (nI j))] dX4_trace_107 (by decide) rfl ?_
                      have L108 : ∀ (fu : Nat) (c : Nat) (u : WS) (hi : c ≤ 4032) (hf : 4033 ≤ c + fu) (hu : u = mW1 s2.1.2.2.2.1 (mW1 s2.1.2.2.1 (w.1, false) 4032) c), Z K 0 0 [(p 0, .inr (5, [.int (nI n), .ref (p 1), .int (nI cnt), .int (bI (s2.2.2.2)), .ref (p 2), .ref (p 3), .ref (p 4), .ref (p 5), .int (nI (s2.2.1)), .int s2.1.2.2.2.2, .ref (p 6), .int (nI (s2.2.2.1.2)), .ref (p 7), .int (nI 0), .int (nI 0), .ref (p 8)])), (p 1, .inl (cI, 320, .inl Ax)), (p 2, .inl (cI, 4032, .inl s2.1.1)), (p 3, .inl (cI, 4032, .inl s2.1.2.1)), (p 4, .inl (cI, 4032, .inl s2.1.2.2.1)), (p 5, .inl (cI, 4032, .inl s2.1.2.2.2.1)), (p 6, .inl (cI, 4032, .inl s2.2.2.1.1)), (p 7, .inl (cI, 4032, .inl Prf)), (p 8, .inl (cZ, 4032, .inl u.1))] [(3, .int (nI c)), (2, .int (bI (u.2))), (0, .ref (p 0)), (1, .int (nI j))] 108 [] := by
                        intro fu
                        induction fu with
                        | zero =>
                          intro c u hi hf hu
                          exact absurd trivial (by omega)
                        | succ fu ih108 =>
                          intro c u hi hf hu
                          refine z_iload_n (pc := 108) hC 0 dX4_trace_108 rfl ?_
                          refine z_sipush (pc := 109) (v := (nI 4032)) hC dX4_trace_109 (by decide +kernel) ?_
                          refine z_ncmp_ge (pc := 112) (tgt := 153) hC dX4_trace_112 (by decide) (by omega) (by omega) (fun h112 => ?_) (fun h112 => ?_)
                          · refine z_goto (pc := 153) (tgt := 53) hC dX4_trace_153 (by decide) ?_
                            refine z_lv [1, 2, 3] rfl ?_
                            exact ih53 (u) (by have := h2f h54; omega) (fun h9 => by
                                                                                          have e9 : u = mWp s2.1.2.2.1 s2.1.2.2.2.1 w.1 := (by rw [hu, show c = 4032 by omega]; rfl)
                                                                                          rw [e9] at h9 ⊢
                                                                                          have q1 := mWp_dec hF hS h9
                                                                                          have q2 := h2f h54
                                                                                          omega) (by rw [hX, mWl_t h54, hu, show c = 4032 by omega]; rfl)
                          · refine z_aload_n (pc := 115) hC 2 dX4_trace_115 rfl ?_
                            refine z_get (pc := 116) (C := RX4) (T := TX4) (N := 16) hC hinX4 0 rfl rfl 15 (by decide) (by decide +kernel) rfl dX4_trace_116 ?_
                            refine z_iload_n (pc := 119) hC 0 dX4_trace_119 rfl ?_
                            refine z_zald (pc := 120) (v := (u.1 c)) hC 8 2 rfl rfl (by omega) (by decide) (rfl) dX4_trace_120 ?_
                            refine z_if_eq (pc := 121) (tgt := 137) hC dX4_trace_121 (by decide) (fun h121 => ?_) (fun h121 => ?_)
                            · refine z_iload_n (pc := 137) hC 1 dX4_trace_137 rfl ?_
                              refine z_bif_eq (pc := 138) (tgt := 145) hC dX4_trace_138 (by decide) (fun h138 => ?_) (fun h138 => ?_)
                              · refine z_iconst (pc := 145) (v := (nI 0)) hC dX4_trace_145 (by decide +kernel) ?_
                                refine z_topi (bI (if u.1 c = 0 then u.2 else (mWb u.1 (s2.1.2.2.2.1 c) || u.2))) (by first | exact bI_t (by rw [if_pos h121]; exact h138) | exact bI_f (by rw [if_pos h121]; exact h138) | exact bI_t (by rw [if_neg h121, h134]; rfl) | exact bI_t (by rw [if_neg h121, h134, h138]; rfl) | exact bI_f (by rw [if_neg h121, h134, h138]; rfl)) ?_
                                refine z_istore_n (pc := 146) hC hNL [(2, .int (bI ((if u.1 c = 0 then u.2 else (mWb u.1 (s2.1.2.2.2.1 c) || u.2))))), (3, .int (nI c)), (0, .ref (p 0)), (1, .int (nI j))] dX4_trace_146 (by decide) rfl ?_
                                refine z_iinc (pc := 147) (q := 1) (x := (nI c)) (v := (nI (c + 1))) hC hNL [(3, .int (nI (c + 1))), (2, .int (bI ((if u.1 c = 0 then u.2 else (mWb u.1 (s2.1.2.2.2.1 c) || u.2))))), (0, .ref (p 0)), (1, .int (nI j))] dX4_trace_147 rfl (nI_add _ _) (by decide) rfl ?_
                                refine z_goto (pc := 150) (tgt := 108) hC dX4_trace_150 (by decide) ?_
                                exact ih108 (c + 1) ((u.1, (if u.1 c = 0 then u.2 else (mWb u.1 (s2.1.2.2.2.1 c) || u.2)))) (by omega) (by omega) (by first | (rw [mW1_e (by rw [← hu]; exact h121), ← hu]; simp only [if_pos h121]) | (rw [mW1_n (by rw [← hu]; exact h121), ← hu]; simp only [if_neg h121]))
                              · refine z_iconst (pc := 141) (v := (nI 1)) hC dX4_trace_141 (by decide +kernel) ?_
                                refine z_goto (pc := 142) (tgt := 146) hC dX4_trace_142 (by decide) ?_
                                refine z_topi (bI (if u.1 c = 0 then u.2 else (mWb u.1 (s2.1.2.2.2.1 c) || u.2))) (by first | exact bI_t (by rw [if_pos h121]; exact h138) | exact bI_f (by rw [if_pos h121]; exact h138) | exact bI_t (by rw [if_neg h121, h134]; rfl) | exact bI_t (by rw [if_neg h121, h134, h138]; rfl) | exact bI_f (by rw [if_neg h121, h134, h138]; rfl)) ?_
                                refine z_istore_n (pc := 146) hC hNL [(2, .int (bI ((if u.1 c = 0 then u.2 else (mWb u.1 (s2.1.2.2.2.1 c) || u.2))))), (3, .int (nI c)), (0, .ref (p 0)), (1, .int (nI j))] dX4_trace_146 (by decide) rfl ?_
                                refine z_iinc (pc := 147) (q := 1) (x := (nI c)) (v := (nI (c + 1))) hC hNL [(3, .int (nI (c + 1))), (2, .int (bI ((if u.1 c = 0 then u.2 else (mWb u.1 (s2.1.2.2.2.1 c) || u.2))))), (0, .ref (p 0)), (1, .int (nI j))] dX4_trace_147 rfl (nI_add _ _) (by decide) rfl ?_
                                refine z_goto (pc := 150) (tgt := 108) hC dX4_trace_150 (by decide) ?_
                                exact ih108 (c + 1) ((u.1, (if u.1 c = 0 then u.2 else (mWb u.1 (s2.1.2.2.2.1 c) || u.2)))) (by omega) (by omega) (by first | (rw [mW1_e (by rw [← hu]; exact h121), ← hu]; simp only [if_pos h121]) | (rw [mW1_n (by rw [← hu]; exact h121), ← hu]; simp only [if_neg h121]))
                            · refine z_aload_n (pc := 124) hC 2 dX4_trace_124 rfl ?_
                              refine z_aload_n (pc := 125) hC 2 dX4_trace_125 rfl ?_
                              refine z_get (pc := 126) (C := RX4) (T := TX4) (N := 16) hC hinX4 0 rfl rfl 7 (by decide) (by decide +kernel) rfl dX4_trace_126 ?_
                              refine z_iload_n (pc := 129) hC 0 dX4_trace_129 rfl ?_
                              refine z_iald (pc := 130) (v := (s2.1.2.2.2.1 c)) hC 5 0 rfl rfl (by omega) (by decide) (rfl) dX4_trace_130 ?_
                              refine z_callV_I (pc := 131) (y := yX4_want) (wy := wsX4_want) (rm := { frames := 0, cells := 0, slots := 0, locals := 0 }) (As := [.int (s2.1.2.2.2.1 c)]) (rest := []) (na := 1) (C := RX4) (T := TX4) (NF := 16) (ci := 5) (wc := [(p 0, .inr (5, [.int (nI n), .ref (p 1), .int (nI cnt), .int (bI (s2.2.2.2)), .ref (p 2), .ref (p 3), .ref (p 4), .ref (p 5), .int (nI (s2.2.1)), .int s2.1.2.2.2.2, .ref (p 6), .int (nI (s2.2.2.1.2)), .ref (p 7), .int (nI 0), .int (nI 0), .ref (p 8)])), (p 8, .inl (cZ, 4032, .inl u.1))]) (wc2 := [(p 0, .inr (5, [.int (nI n), .ref (p 1), .int (nI cnt), .int (bI (s2.2.2.2)), .ref (p 2), .ref (p 3), .ref (p 4), .ref (p 5), .int (nI (s2.2.1)), .int s2.1.2.2.2.2, .ref (p 6), .int (nI (s2.2.2.1.2)), .ref (p 7), .int (nI 0), .int (nI 0), .ref (p 8)])), (p 8, .inl (cZ, 4032, .inl (mWt u.1 (s2.1.2.2.2.1 c))))]) hC hRm hDis hLis 0 rfl rfl gX4_trace_X4_want ⟨rfl, by decide +kernel, by decide +kernel⟩ rfl ⟨by decide, by decide⟩ ⟨by decide, by decide⟩ rfl (Nat.le_of_ble_eq_true rfl) (by decide +kernel) (c_X4_want _ _ cI cJ cZ (p) (n) (cnt) (s2.2.2.2) (s2.2.1) (s2.1.2.2.2.2) (s2.2.2.1.2) (0) (nI 0) (u.1) (s2.1.2.2.2.1 c) (hS c (by omega))) [0, 8] [1, 2, 3, 4, 5, 6, 7] [7, 0, 1, 2, 3, 4, 5, 6, 8] [(p 1, .inl (cI, 320, .inl Ax)), (p 2, .inl (cI, 4032, .inl s2.1.1)), (p 3, .inl (cI, 4032, .inl s2.1.2.1)), (p 4, .inl (cI, 4032, .inl s2.1.2.2.1)), (p 5, .inl (cI, 4032, .inl s2.1.2.2.2.1)), (p 6, .inl (cI, 4032, .inl s2.2.2.1.1)), (p 7, .inl (cI, 4032, .inl Prf))] rfl (by decide) rfl (by decide) (by decide) [(p 0, .inr (5, [.int (nI n), .ref (p 1), .int (nI cnt), .int (bI (s2.2.2.2)), .ref (p 2), .ref (p 3), .ref (p 4), .ref (p 5), .int (nI (s2.2.1)), .int s2.1.2.2.2.2, .ref (p 6), .int (nI (s2.2.2.1.2)), .ref (p 7), .int (nI 0), .int (nI 0), .ref (p 8)])), (p 1, .inl (cI, 320, .inl Ax)), (p 2, .inl (cI, 4032, .inl s2.1.1)), (p 3, .inl (cI, 4032, .inl s2.1.2.1)), (p 4, .inl (cI, 4032, .inl s2.1.2.2.1)), (p 5, .inl (cI, 4032, .inl s2.1.2.2.2.1)), (p 6, .inl (cI, 4032, .inl s2.2.2.1.1)), (p 7, .inl (cI, 4032, .inl Prf)), (p 8, .inl (cZ, 4032, .inl (mWt u.1 (s2.1.2.2.2.1 c))))] rfl (by decide) rfl dX4_trace_131 ?_
                              refine z_bif_ne (pc := 134) (tgt := 141) hC dX4_trace_134 (by decide) (fun h134 => ?_) (fun h134 => ?_)
                              · refine z_iconst (pc := 141) (v := (nI 1)) hC dX4_trace_141 (by decide +kernel) ?_
                                refine z_goto (pc := 142) (tgt := 146) hC dX4_trace_142 (by decide) ?_
                                refine z_topi (bI (if u.1 c = 0 then u.2 else (mWb u.1 (s2.1.2.2.2.1 c) || u.2))) (by first | exact bI_t (by rw [if_pos h121]; exact h138) | exact bI_f (by rw [if_pos h121]; exact h138) | exact bI_t (by rw [if_neg h121, h134]; rfl) | exact bI_t (by rw [if_neg h121, h134, h138]; rfl) | exact bI_f (by rw [if_neg h121, h134, h138]; rfl)) ?_
                                refine z_istore_n (pc := 146) hC hNL [(2, .int (bI ((if u.1 c = 0 then u.2 else (mWb u.1 (s2.1.2.2.2.1 c) || u.2))))), (3, .int (nI c)), (0, .ref (p 0)), (1, .int (nI j))] dX4_trace_146 (by decide) rfl ?_
                                refine z_iinc (pc := 147) (q := 1) (x := (nI c)) (v := (nI (c + 1))) hC hNL [(3, .int (nI (c + 1))), (2, .int (bI ((if u.1 c = 0 then u.2 else (mWb u.1 (s2.1.2.2.2.1 c) || u.2))))), (0, .ref (p 0)), (1, .int (nI j))] dX4_trace_147 rfl (nI_add _ _) (by decide) rfl ?_
                                refine z_goto (pc := 150) (tgt := 108) hC dX4_trace_150 (by decide) ?_
                                exact ih108 (c + 1) ((mWt u.1 (s2.1.2.2.2.1 c), (if u.1 c = 0 then u.2 else (mWb u.1 (s2.1.2.2.2.1 c) || u.2)))) (by omega) (by omega) (by first | (rw [mW1_e (by rw [← hu]; exact h121), ← hu]; simp only [if_pos h121]) | (rw [mW1_n (by rw [← hu]; exact h121), ← hu]; simp only [if_neg h121]))
                              · refine z_iload_n (pc := 137) hC 1 dX4_trace_137 rfl ?_
                                refine z_bif_eq (pc := 138) (tgt := 145) hC dX4_trace_138 (by decide) (fun h138 => ?_) (fun h138 => ?_)
                                · refine z_iconst (pc := 145) (v := (nI 0)) hC dX4_trace_145 (by decide +kernel) ?_
                                  refine z_topi (bI (if u.1 c = 0 then u.2 else (mWb u.1 (s2.1.2.2.2.1 c) || u.2))) (by first | exact bI_t (by rw [if_pos h121]; exact h138) | exact bI_f (by rw [if_pos h121]; exact h138) | exact bI_t (by rw [if_neg h121, h134]; rfl) | exact bI_t (by rw [if_neg h121, h134, h138]; rfl) | exact bI_f (by rw [if_neg h121, h134, h138]; rfl)) ?_
                                  refine z_istore_n (pc := 146) hC hNL [(2, .int (bI ((if u.1 c = 0 then u.2 else (mWb u.1 (s2.1.2.2.2.1 c) || u.2))))), (3, .int (nI c)), (0, .ref (p 0)), (1, .int (nI j))] dX4_trace_146 (by decide) rfl ?_
                                  refine z_iinc (pc := 147) (q := 1) (x := (nI c)) (v := (nI (c + 1))) hC hNL [(3, .int (nI (c + 1))), (2, .int (bI ((if u.1 c = 0 then u.2 else (mWb u.1 (s2.1.2.2.2.1 c) || u.2))))), (0, .ref (p 0)), (1, .int (nI j))] dX4_trace_147 rfl (nI_add _ _) (by decide) rfl ?_
                                  refine z_goto (pc := 150) (tgt := 108) hC dX4_trace_150 (by decide) ?_
                                  exact ih108 (c + 1) ((mWt u.1 (s2.1.2.2.2.1 c), (if u.1 c = 0 then u.2 else (mWb u.1 (s2.1.2.2.2.1 c) || u.2)))) (by omega) (by omega) (by first | (rw [mW1_e (by rw [← hu]; exact h121), ← hu]; simp only [if_pos h121]) | (rw [mW1_n (by rw [← hu]; exact h121), ← hu]; simp only [if_neg h121]))
                                · refine z_iconst (pc := 141) (v := (nI 1)) hC dX4_trace_141 (by decide +kernel) ?_
                                  refine z_goto (pc := 142) (tgt := 146) hC dX4_trace_142 (by decide) ?_
                                  refine z_topi (bI (if u.1 c = 0 then u.2 else (mWb u.1 (s2.1.2.2.2.1 c) || u.2))) (by first | exact bI_t (by rw [if_pos h121]; exact h138) | exact bI_f (by rw [if_pos h121]; exact h138) | exact bI_t (by rw [if_neg h121, h134]; rfl) | exact bI_t (by rw [if_neg h121, h134, h138]; rfl) | exact bI_f (by rw [if_neg h121, h134, h138]; rfl)) ?_
                                  refine z_istore_n (pc := 146) hC hNL [(2, .int (bI ((if u.1 c = 0 then u.2 else (mWb u.1 (s2.1.2.2.2.1 c) || u.2))))), (3, .int (nI c)), (0, .ref (p 0)), (1, .int (nI j))] dX4_trace_146 (by decide) rfl ?_
                                  refine z_iinc (pc := 147) (q := 1) (x := (nI c)) (v := (nI (c + 1))) hC hNL [(3, .int (nI (c + 1))), (2, .int (bI ((if u.1 c = 0 then u.2 else (mWb u.1 (s2.1.2.2.2.1 c) || u.2))))), (0, .ref (p 0)), (1, .int (nI j))] dX4_trace_147 rfl (nI_add _ _) (by decide) rfl ?_
                                  refine z_goto (pc := 150) (tgt := 108) hC dX4_trace_150 (by decide) ?_
                                  exact ih108 (c + 1) ((mWt u.1 (s2.1.2.2.2.1 c), (if u.1 c = 0 then u.2 else (mWb u.1 (s2.1.2.2.2.1 c) || u.2)))) (by omega) (by omega) (by first | (rw [mW1_e (by rw [← hu]; exact h121), ← hu]; simp only [if_pos h121]) | (rw [mW1_n (by rw [← hu]; exact h121), ← hu]; simp only [if_neg h121]))
                      exact L108 (4033) (0) (u) (by omega) (by omega) (by rw [hu, show c = 4032 by omega]; rfl)
                    · refine z_aload_n (pc := 68) hC 2 dX4_trace_68 rfl ?_
                      refine z_get (pc := 69) (C := RX4) (T := TX4) (N := 16) hC hinX4 0 rfl rfl 15 (by decide) (by decide +kernel) rfl dX4_trace_69 ?_
                      refine z_iload_n (pc := 72) hC 0 dX4_trace_72 rfl ?_
                      refine z_zald (pc := 73) (v := (u.1 c)) hC 8 2 rfl rfl (by omega) (by decide) (rfl) dX4_trace_73 ?_
                      refine z_if_eq (pc := 74) (tgt := 90) hC dX4_trace_74 (by decide) (fun h74 => ?_) (fun h74 => ?_)
                      · refine z_iload_n (pc := 90) hC 1 dX4_trace_90 rfl ?_
                        refine z_bif_eq (pc := 91) (tgt := 98) hC dX4_trace_91 (by decide) (fun h91 => ?_) (fun h91 => ?_)
                        · refine z_iconst (pc := 98) (v := (nI 0)) hC dX4_trace_98 (by decide +kernel) ?_
                          refine z_topi (bI (if u.1 c = 0 then u.2 else (mWb u.1 (s2.1.2.2.1 c) || u.2))) (by first | exact bI_t (by rw [if_pos h74]; exact h91) | exact bI_f (by rw [if_pos h74]; exact h91) | exact bI_t (by rw [if_neg h74, h87]; rfl) | exact bI_t (by rw [if_neg h74, h87, h91]; rfl) | exact bI_f (by rw [if_neg h74, h87, h91]; rfl)) ?_
                          refine z_istore_n (pc := 99) hC hNL [(2, .int (bI ((if u.1 c = 0 then u.2 else (mWb u.1 (s2.1.2.2.1 c) || u.2))))), (3, .int (nI c)), (0, .ref (p 0)), (1, .int (nI j))] dX4_trace_99 (by decide) rfl ?_
                          refine z_iinc (pc := 100) (q := 1) (x := (nI c)) (v := (nI (c + 1))) hC hNL [(3, .int (nI (c + 1))), (2, .int (bI ((if u.1 c = 0 then u.2 else (mWb u.1 (s2.1.2.2.1 c) || u.2))))), (0, .ref (p 0)), (1, .int (nI j))] dX4_trace_100 rfl (nI_add _ _) (by decide) rfl ?_
                          refine z_goto (pc := 103) (tgt := 61) hC dX4_trace_103 (by decide) ?_
                          exact ih61 (c + 1) ((u.1, (if u.1 c = 0 then u.2 else (mWb u.1 (s2.1.2.2.1 c) || u.2)))) (by omega) (by omega) (by first | (rw [mW1_e (by rw [← hu]; exact h74), ← hu]; simp only [if_pos h74]) | (rw [mW1_n (by rw [← hu]; exact h74), ← hu]; simp only [if_neg h74]))
                        · refine z_iconst (pc := 94) (v := (nI 1)) hC dX4_trace_94 (by decide +kernel) ?_
                          refine z_goto (pc := 95) (tgt := 99) hC dX4_trace_95 (by decide) ?_
                          refine z_topi (bI (if u.1 c = 0 then u.2 else (mWb u.1 (s2.1.2.2.1 c) || u.2))) (by first | exact bI_t (by rw [if_pos h74]; exact h91) | exact bI_f (by rw [if_pos h74]; exact h91) | exact bI_t (by rw [if_neg h74, h87]; rfl) | exact bI_t (by rw [if_neg h74, h87, h91]; rfl) | exact bI_f (by rw [if_neg h74, h87, h91]; rfl)) ?_
                          refine z_istore_n (pc := 99) hC hNL [(2, .int (bI ((if u.1 c = 0 then u.2 else (mWb u.1 (s2.1.2.2.1 c) || u.2))))), (3, .int (nI c)), (0, .ref (p 0)), (1, .int (nI j))] dX4_trace_99 (by decide) rfl ?_
                          refine z_iinc (pc := 100) (q := 1) (x := (nI c)) (v := (nI (c + 1))) hC hNL [(3, .int (nI (c + 1))), (2, .int (bI ((if u.1 c = 0 then u.2 else (mWb u.1 (s2.1.2.2.1 c) || u.2))))), (0, .ref (p 0)), (1, .int (nI j))] dX4_trace_100 rfl (nI_add _ _) (by decide) rfl ?_
                          refine z_goto (pc := 103) (tgt := 61) hC dX4_trace_103 (by decide) ?_
                          exact ih61 (c + 1) ((u.1, (if u.1 c = 0 then u.2 else (mWb u.1 (s2.1.2.2.1 c) || u.2)))) (by omega) (by omega) (by first | (rw [mW1_e (by rw [← hu]; exact h74), ← hu]; simp only [if_pos h74]) | (rw [mW1_n (by rw [← hu]; exact h74), ← hu]; simp only [if_neg h74]))
                      · refine z_aload_n (pc := 77) hC 2 dX4_trace_77 rfl ?_
                        refine z_aload_n (pc := 78) hC 2 dX4_trace_78 rfl ?_
                        refine z_get (pc := 79) (C := RX4) (T := TX4) (N := 16) hC hinX4 0 rfl rfl 6 (by decide) (by decide +kernel) rfl dX4_trace_79 ?_
                        refine z_iload_n (pc := 82) hC 0 dX4_trace_82 rfl ?_
                        refine z_iald (pc := 83) (v := (s2.1.2.2.1 c)) hC 4 0 rfl rfl (by omega) (by decide) (rfl) dX4_trace_83 ?_
                        refine z_callV_I (pc := 84) (y := yX4_want) (wy := wsX4_want) (rm := { frames := 0, cells := 0, slots := 0, locals := 0 }) (As := [.int (s2.1.2.2.1 c)]) (rest := []) (na := 1) (C := RX4) (T := TX4) (NF := 16) (ci := 5) (wc := [(p 0, .inr (5, [.int (nI n), .ref (p 1), .int (nI cnt), .int (bI (s2.2.2.2)), .ref (p 2), .ref (p 3), .ref (p 4), .ref (p 5), .int (nI (s2.2.1)), .int s2.1.2.2.2.2, .ref (p 6), .int (nI (s2.2.2.1.2)), .ref (p 7), .int (nI 0), .int (nI 0), .ref (p 8)])), (p 8, .inl (cZ, 4032, .inl u.1))]) (wc2 := [(p 0, .inr (5, [.int (nI n), .ref (p 1), .int (nI cnt), .int (bI (s2.2.2.2)), .ref (p 2), .ref (p 3), .ref (p 4), .ref (p 5), .int (nI (s2.2.1)), .int s2.1.2.2.2.2, .ref (p 6), .int (nI (s2.2.2.1.2)), .ref (p 7), .int (nI 0), .int (nI 0), .ref (p 8)])), (p 8, .inl (cZ, 4032, .inl (mWt u.1 (s2.1.2.2.1 c))))]) hC hRm hDis hLis 0 rfl rfl gX4_trace_X4_want ⟨rfl, by decide +kernel, by decide +kernel⟩ rfl ⟨by decide, by decide⟩ ⟨by decide, by decide⟩ rfl (Nat.le_of_ble_eq_true rfl) (by decide +kernel) (c_X4_want _ _ cI cJ cZ (p) (n) (cnt) (s2.2.2.2) (s2.2.1) (s2.1.2.2.2.2) (s2.2.2.1.2) (0) (nI 0) (u.1) (s2.1.2.2.1 c) (hF c (by omega))) [0, 8] [1, 2, 3, 4, 5, 6, 7] [7, 0, 1, 2, 3, 4, 5, 6, 8] [(p 1, .inl (cI, 320, .inl Ax)), (p 2, .inl (cI, 4032, .inl s2.1.1)), (p 3, .inl (cI, 4032, .inl s2.1.2.1)), (p 4, .inl (cI, 4032, .inl s2.1.2.2.1)), (p 5, .inl (cI, 4032, .inl s2.1.2.2.2.1)), (p 6, .inl (cI, 4032, .inl s2.2.2.1.1)), (p 7, .inl (cI, 4032, .inl Prf))] rfl (by decide) rfl (by decide) (by decide) [(p 0, .inr (5, [.int (nI n), .ref (p 1), .int (nI cnt), .int (bI (s2.2.2.2)), .ref (p 2), .ref (p 3), .ref (p 4), .ref (p 5), .int (nI (s2.2.1)), .int s2.1.2.2.2.2, .ref (p 6), .int (nI (s2.2.2.1.2)), .ref (p 7), .int (nI 0), .int (nI 0), .ref (p 8)])), (p 1, .inl (cI, 320, .inl Ax)), (p 2, .inl (cI, 4032, .inl s2.1.1)), (p 3, .inl (cI, 4032, .inl s2.1.2.1)), (p 4, .inl (cI, 4032, .inl s2.1.2.2.1)), (p 5, .inl (cI, 4032, .inl s2.1.2.2.2.1)), (p 6, .inl (cI, 4032, .inl s2.2.2.1.1)), (p 7, .inl (cI, 4032, .inl Prf)), (p 8, .inl (cZ, 4032, .inl (mWt u.1 (s2.1.2.2.1 c))))] rfl (by decide) rfl dX4_trace_84 ?_
                        refine z_bif_ne (pc := 87) (tgt := 94) hC dX4_trace_87 (by decide) (fun h87 => ?_) (fun h87 => ?_)
                        · refine z_iconst (pc := 94) (v := (nI 1)) hC dX4_trace_94 (by decide +kernel) ?_
                          refine z_goto (pc := 95) (tgt := 99) hC dX4_trace_95 (by decide) ?_
                          refine z_topi (bI (if u.1 c = 0 then u.2 else (mWb u.1 (s2.1.2.2.1 c) || u.2))) (by first | exact bI_t (by rw [if_pos h74]; exact h91) | exact bI_f (by rw [if_pos h74]; exact h91) | exact bI_t (by rw [if_neg h74, h87]; rfl) | exact bI_t (by rw [if_neg h74, h87, h91]; rfl) | exact bI_f (by rw [if_neg h74, h87, h91]; rfl)) ?_
                          refine z_istore_n (pc := 99) hC hNL [(2, .int (bI ((if u.1 c = 0 then u.2 else (mWb u.1 (s2.1.2.2.1 c) || u.2))))), (3, .int (nI c)), (0, .ref (p 0)), (1, .int (nI j))] dX4_trace_99 (by decide) rfl ?_
                          refine z_iinc (pc := 100) (q := 1) (x := (nI c)) (v := (nI (c + 1))) hC hNL [(3, .int (nI (c + 1))), (2, .int (bI ((if u.1 c = 0 then u.2 else (mWb u.1 (s2.1.2.2.1 c) || u.2))))), (0, .ref (p 0)), (1, .int (nI j))] dX4_trace_100 rfl (nI_add _ _) (by decide) rfl ?_
                          refine z_goto (pc := 103) (tgt := 61) hC dX4_trace_103 (by decide) ?_
                          exact ih61 (c + 1) ((mWt u.1 (s2.1.2.2.1 c), (if u.1 c = 0 then u.2 else (mWb u.1 (s2.1.2.2.1 c) || u.2)))) (by omega) (by omega) (by first | (rw [mW1_e (by rw [← hu]; exact h74), ← hu]; simp only [if_pos h74]) | (rw [mW1_n (by rw [← hu]; exact h74), ← hu]; simp only [if_neg h74]))
                        · refine z_iload_n (pc := 90) hC 1 dX4_trace_90 rfl ?_
                          refine z_bif_eq (pc := 91) (tgt := 98) hC dX4_trace_91 (by decide) (fun h91 => ?_) (fun h91 => ?_)
                          · refine z_iconst (pc := 98) (v := (nI 0)) hC dX4_trace_98 (by decide +kernel) ?_
                            refine z_topi (bI (if u.1 c = 0 then u.2 else (mWb u.1 (s2.1.2.2.1 c) || u.2))) (by first | exact bI_t (by rw [if_pos h74]; exact h91) | exact bI_f (by rw [if_pos h74]; exact h91) | exact bI_t (by rw [if_neg h74, h87]; rfl) | exact bI_t (by rw [if_neg h74, h87, h91]; rfl) | exact bI_f (by rw [if_neg h74, h87, h91]; rfl)) ?_
                            refine z_istore_n (pc := 99) hC hNL [(2, .int (bI ((if u.1 c = 0 then u.2 else (mWb u.1 (s2.1.2.2.1 c) || u.2))))), (3, .int (nI c)), (0, .ref (p 0)), (1, .int (nI j))] dX4_trace_99 (by decide) rfl ?_
                            refine z_iinc (pc := 100) (q := 1) (x := (nI c)) (v := (nI (c + 1))) hC hNL [(3, .int (nI (c + 1))), (2, .int (bI ((if u.1 c = 0 then u.2 else (mWb u.1 (s2.1.2.2.1 c) || u.2))))), (0, .ref (p 0)), (1, .int (nI j))] dX4_trace_100 rfl (nI_add _ _) (by decide) rfl ?_
                            refine z_goto (pc := 103) (tgt := 61) hC dX4_trace_103 (by decide) ?_
                            exact ih61 (c + 1) ((mWt u.1 (s2.1.2.2.1 c), (if u.1 c = 0 then u.2 else (mWb u.1 (s2.1.2.2.1 c) || u.2)))) (by omega) (by omega) (by first | (rw [mW1_e (by rw [← hu]; exact h74), ← hu]; simp only [if_pos h74]) | (rw [mW1_n (by rw [← hu]; exact h74), ← hu]; simp only [if_neg h74]))
                          · refine z_iconst (pc := 94) (v := (nI 1)) hC dX4_trace_94 (by decide +kernel) ?_
                            refine z_goto (pc := 95) (tgt := 99) hC dX4_trace_95 (by decide) ?_
                            refine z_topi (bI (if u.1 c = 0 then u.2 else (mWb u.1 (s2.1.2.2.1 c) || u.2))) (by first | exact bI_t (by rw [if_pos h74]; exact h91) | exact bI_f (by rw [if_pos h74]; exact h91) | exact bI_t (by rw [if_neg h74, h87]; rfl) | exact bI_t (by rw [if_neg h74, h87, h91]; rfl) | exact bI_f (by rw [if_neg h74, h87, h91]; rfl)) ?_
                            refine z_istore_n (pc := 99) hC hNL [(2, .int (bI ((if u.1 c = 0 then u.2 else (mWb u.1 (s2.1.2.2.1 c) || u.2))))), (3, .int (nI c)), (0, .ref (p 0)), (1, .int (nI j))] dX4_trace_99 (by decide) rfl ?_
                            refine z_iinc (pc := 100) (q := 1) (x := (nI c)) (v := (nI (c + 1))) hC hNL [(3, .int (nI (c + 1))), (2, .int (bI ((if u.1 c = 0 then u.2 else (mWb u.1 (s2.1.2.2.1 c) || u.2))))), (0, .ref (p 0)), (1, .int (nI j))] dX4_trace_100 rfl (nI_add _ _) (by decide) rfl ?_
                            refine z_goto (pc := 103) (tgt := 61) hC dX4_trace_103 (by decide) ?_
                            exact ih61 (c + 1) ((mWt u.1 (s2.1.2.2.1 c), (if u.1 c = 0 then u.2 else (mWb u.1 (s2.1.2.2.1 c) || u.2)))) (by omega) (by omega) (by first | (rw [mW1_e (by rw [← hu]; exact h74), ← hu]; simp only [if_pos h74]) | (rw [mW1_n (by rw [← hu]; exact h74), ← hu]; simp only [if_neg h74]))
                exact L61 (4033) (0) ((w.1, false)) (by omega) (by omega) (rfl)
          exact L53 (5000) ((fun c => if c = j then nI 1 else nI 0, true)) (by decide) (fun _ => by have := cW_le (fun c => if c = j then nI 1 else nI 0) 4032; show cW (fun c => if c = j then nI 1 else nI 0) 4032 + 2 ≤ 5000; omega) (rfl)
        · refine z_aload_n (pc := 29) hC 1 dX4_trace_29 rfl ?_
          refine z_get (pc := 30) (C := RX4) (T := TX4) (N := 16) hC hinX4 0 rfl rfl 15 (by decide) (by decide +kernel) rfl dX4_trace_30 ?_
          refine z_iload_n (pc := 33) hC 0 dX4_trace_33 rfl ?_
          refine z_iload_n (pc := 34) hC 0 dX4_trace_34 rfl ?_
          refine z_iload_n (pc := 35) hC 2 dX4_trace_35 rfl ?_
          refine z_ncmp_ne (pc := 36) (tgt := 43) hC dX4_trace_36 (by decide) (by omega) (by omega) (fun h36 => ?_) (fun h36 => ?_)
          · refine z_iconst (pc := 43) (v := (nI 0)) hC dX4_trace_43 (by decide +kernel) ?_
            refine z_zast (pc := 44) (y := (nI 0)) hC 8 2 rfl rfl (by omega) (by decide) (by decide +kernel) [(p 0, .inr (5, [.int (nI n), .ref (p 1), .int (nI cnt), .int (bI (s2.2.2.2)), .ref (p 2), .ref (p 3), .ref (p 4), .ref (p 5), .int (nI (s2.2.1)), .int s2.1.2.2.2.2, .ref (p 6), .int (nI (s2.2.2.1.2)), .ref (p 7), .int (nI 0), .int (nI 0), .ref (p 8)])), (p 1, .inl (cI, 320, .inl Ax)), (p 2, .inl (cI, 4032, .inl s2.1.1)), (p 3, .inl (cI, 4032, .inl s2.1.2.1)), (p 4, .inl (cI, 4032, .inl s2.1.2.2.1)), (p 5, .inl (cI, 4032, .inl s2.1.2.2.2.1)), (p 6, .inl (cI, 4032, .inl s2.2.2.1.1)), (p 7, .inl (cI, 4032, .inl Prf)), (p 8, .inl (cZ, 4032, .inl (upd f c (nI 0))))] rfl dX4_trace_44 ?_
            refine z_iinc (pc := 45) (q := 0) (x := (nI c)) (v := (nI (c + 1))) hC hNL [(2, .int (nI (c + 1))), (0, .ref (p 0)), (1, .int (nI j))] dX4_trace_45 rfl (nI_add _ _) (by decide) rfl ?_
            refine z_goto (pc := 48) (tgt := 22) hC dX4_trace_48 (by decide) ?_
            exact ih22 (c + 1) (upd f c (nI 0)) (by omega) (by omega) (fun k hk => by
                  by_cases e9 : k = c
                  · subst e9; rw [pk_us]; first | rw [if_pos h36] | rw [if_neg h36]
                  · rw [pk_un e9]; exact hv k (by omega))
          · refine z_iconst (pc := 39) (v := (nI 1)) hC dX4_trace_39 (by decide +kernel) ?_
            refine z_goto (pc := 40) (tgt := 44) hC dX4_trace_40 (by decide) ?_
            refine z_zast (pc := 44) (y := (nI 1)) hC 8 2 rfl rfl (by omega) (by decide) (by decide +kernel) [(p 0, .inr (5, [.int (nI n), .ref (p 1), .int (nI cnt), .int (bI (s2.2.2.2)), .ref (p 2), .ref (p 3), .ref (p 4), .ref (p 5), .int (nI (s2.2.1)), .int s2.1.2.2.2.2, .ref (p 6), .int (nI (s2.2.2.1.2)), .ref (p 7), .int (nI 0), .int (nI 0), .ref (p 8)])), (p 1, .inl (cI, 320, .inl Ax)), (p 2, .inl (cI, 4032, .inl s2.1.1)), (p 3, .inl (cI, 4032, .inl s2.1.2.1)), (p 4, .inl (cI, 4032, .inl s2.1.2.2.1)), (p 5, .inl (cI, 4032, .inl s2.1.2.2.2.1)), (p 6, .inl (cI, 4032, .inl s2.2.2.1.1)), (p 7, .inl (cI, 4032, .inl Prf)), (p 8, .inl (cZ, 4032, .inl (upd f c (nI 1))))] rfl dX4_trace_44 ?_
            refine z_iinc (pc := 45) (q := 0) (x := (nI c)) (v := (nI (c + 1))) hC hNL [(2, .int (nI (c + 1))), (0, .ref (p 0)), (1, .int (nI j))] dX4_trace_45 rfl (nI_add _ _) (by decide) rfl ?_
            refine z_goto (pc := 48) (tgt := 22) hC dX4_trace_48 (by decide) ?_
            exact ih22 (c + 1) (upd f c (nI 1)) (by omega) (by omega) (fun k hk => by
                  by_cases e9 : k = c
                  · subst e9; rw [pk_us]; first | rw [if_pos h36] | rw [if_neg h36]
                  · rw [pk_un e9]; exact hv k (by omega))
    exact L22 (4033) (0) (Wt) (by omega) (by omega) (fun k hk => absurd hk (Nat.not_lt_zero k))
  · refine z_iconst (pc := 18) (v := (nI 0)) hC dX4_trace_18 (by decide +kernel) ?_
    exact z_iret (pc := 19) hC hQ hRT (rfl) (by rw [mTrR_f h15]) (by rw [mTrR_f h15, mTrW_f h15]) dX4_trace_19
