/-! the answers, out of Fin9 -/
section ANS
variable {n : Nat} {O : Nat → Int32} {x : FS} {y : MS × Nat}
theorem fin_fact (h : Fin9 n O x y) (hn : n ≤ 24) {a c : Nat} (ha : a < n) (hc : c < 168) : inB (nI a) (x.1.1 c) = mFn y.1.1 (cod a c) := by
  rw [inB_bt (by omega)]
  obtain ⟨⟨f1, f2, f3, f4⟩, hρ, -, -, hb⟩ := h
  cases hs : bt (x.1.1 c) a with
  | true =>
    obtain ⟨ρ, q1, q2⟩ := hρ a c ha hc hs
    exact (decide_eq_true (by rw [q2]; exact nI_pos (by omega))).symm
  | false => exact (decide_eq_false (fun q => q (by rw [(f2 a c ha hc hs).2]; decide))).symm
theorem fin_code (h : Fin9 n O x y) (z : Nat) : (¬ x.1.2.1 z < 0 ∧ ¬ y.1.1 z < 0 ∧ tells (x.1.2.1 z) (at4 y.1 z) ∧ ∃ a c, a < n ∧ c < 168 ∧ z = cod a c ∧ bt (x.1.1 c) a = true) ∨ (x.1.2.1 z = (-1) ∧ y.1.1 z = (-1)) := by
  obtain ⟨⟨f1, f2, f3, f4⟩, hρ, -, -, hb⟩ := h
  by_cases hc : ∀ a c, a < n → c < 168 → z ≠ cod a c
  · exact Or.inr (f4 z hc)
  · obtain ⟨a, c, ha, hc2, e⟩ : ∃ a c, a < n ∧ c < 168 ∧ z = cod a c := Classical.byContradiction (fun q => hc (fun a c ha hc2 e => q ⟨a, c, ha, hc2, e⟩))
    subst e
    cases hs : bt (x.1.1 c) a with
    | true =>
      obtain ⟨ρ, q1, q2⟩ := hρ a c ha hc2 hs
      have t := f1 a c ha hc2 hs
      exact Or.inl ⟨t.1, by rw [q2]; exact nI_pos (by omega), t, a, c, ha, hc2, rfl, hs⟩
    | false => exact Or.inr (f2 a c ha hc2 hs)
theorem fin_flw (h : Fin9 n O x y) (c : Int32) : flw x.1.2.1 c = mFlw y.1.1 c := by
  unfold flw mFlw
  apply decide_eq_decide.mpr
  rcases fin_code h (tn c) with ⟨h1, h2, -⟩ | ⟨h1, h2⟩
  · exact ⟨fun q => ⟨q.1, q.2.1, h2⟩, fun q => ⟨q.1, q.2.1, h1⟩⟩
  · exact ⟨fun q => absurd (by rw [h1]; decide) q.2.2, fun q => absurd (by rw [h2]; decide) q.2.2⟩
theorem fin_told (h : Fin9 n O x y) (c w : Int32) : toldF x.1.2.1 c w = mTold y.1 c w := by
  unfold toldF mTold
  rw [fin_flw h c]
  by_cases hf : mFlw y.1.1 c = true
  · rw [if_pos hf, if_pos hf]
    rcases fin_code h (tn c) with ⟨-, -, t, -⟩ | ⟨-, h2⟩
    · obtain ⟨-, t1, t2, t3, t4⟩ := t
      rw [t1, t2, t3, t4]
      rfl
    · exact absurd (by rw [h2]; decide) (of_decide_eq_true hf).2.2
  · rw [if_neg hf, if_neg hf]
theorem fin_sa (h : Fin9 n O x y) (hn : n ≤ 24) {a b : Nat} (ha : a < n) (hb : b < n) : saB x.1.1 a b = mBo y.1.1 a b := by
  unfold saB mBo
  rw [fin_fact h hn ha (by omega), fin_fact h hn hb (by omega)]
theorem fin_ls (h : Fin9 n O x y) (hn : n ≤ 24) {a : Nat} (ha : a < n) : ∀ f b, b + f ≤ a → lsF x.1.1 a f b = mLs y.1.1 a f b
  | 0, _, _ => rfl
  | f + 1, b, hb => by
    unfold lsF mLs
    rw [fin_sa h hn ha (by omega), fin_ls h hn ha f (b + 1) (by omega)]
theorem fin_bad (h : Fin9 n O x y) (hn : n ≤ 24) {a b c : Nat} (ha : a < n) (hb : b < n) (hc : c < n) : badB x.1.1 a b c = (mAb y.1.1 a c && mAb y.1.1 c b) := by
  unfold badB mAb saB mBo
  rw [fin_fact h hn ha (show c < 168 by omega), fin_fact h hn hc (show b < 168 by omega), fin_fact h hn hc (show a < 168 by omega), fin_fact h hn hb (show c < 168 by omega)]
  cases mFn y.1.1 (cod a c) <;> cases mFn y.1.1 (cod c b) <;> cases mFn y.1.1 (cod c a) <;> cases mFn y.1.1 (cod b c) <;> rfl
theorem fin_no (h : Fin9 n O x y) (hn : n ≤ 24) {a b : Nat} (ha : a < n) (hb : b < n) : ∀ f c, c + f ≤ n → noB x.1.1 a b f c = mNo y.1.1 a b f c
  | 0, _, _ => rfl
  | f + 1, c, hc => by
    unfold noB mNo
    rw [fin_bad h hn ha hb (show c < n by omega), fin_no h hn ha hb f (c + 1) (by omega)]
theorem fin_par (h : Fin9 n O x y) (hn : n ≤ 24) {a b : Nat} (ha : a < n) (hb : b < n) : parB x.1.1 n a b = mPar y.1.1 n a b := by
  unfold parB mPar mAb mBo
  rw [fin_no h hn ha hb n 0 (by omega), fin_ls h hn hb b 0 (by omega), fin_fact h hn ha (show b < 168 by omega), fin_fact h hn hb (show a < 168 by omega)]
  cases mFn y.1.1 (cod a b) <;> cases mFn y.1.1 (cod b a) <;> rfl
theorem fin_po (h : Fin9 n O x y) (hn : n ≤ 24) {a : Nat} (ha : a < n) (i : Int32) : ∀ f b m (v : Int32), b + f ≤ n → v = i - nI m → poF x.1.1 n a i f b m = mPo y.1.1 n a f b v
  | 0, _, _, _, _, _ => rfl
  | f + 1, b, m, v, hb, hv => by
    unfold poF mPo
    rw [fin_par h hn ha (show b < n by omega)]
    have e1 : nI m = i ↔ v = 0 := by
      rw [hv]
      constructor
      · intro e; rw [e, Int32.sub_self]
      · intro e
        have : i - nI m + nI m = 0 + nI m := by rw [e]
        rw [Int32.sub_add_cancel, Int32.zero_add] at this
        exact this.symm
    rw [fin_po h hn ha i f (b + 1) m v (by omega) hv]
    rw [fin_po h hn ha i f (b + 1) (m + 1) (v + Int32.ofInt (-1)) (by omega) (by
      rw [hv, ← nI_add, Int32.sub_eq_add_neg, Int32.sub_eq_add_neg, Int32.neg_add, Int32.sub_eq_add_neg, ← Int32.add_assoc]
      rfl)]
    by_cases e : mPar y.1.1 n a b = true
    · rw [if_pos e, if_pos e]
      by_cases e2 : v = 0
      · rw [if_pos e2, if_pos (e1.mpr e2)]
      · rw [if_neg e2, if_neg (fun q => e2 (e1.mp q))]
    · rw [if_neg e, if_neg e]
theorem fin_parent (h : Fin9 n O x y) (hn : n ≤ 24) {a : Nat} (ha : a < n) (i : Int32) : parF x.1.1 n a i = mPaF y.1.1 n a i := by
  unfold parF mPaF
  rw [fin_fact h hn ha (show 1 < 168 by decide), fin_po h hn ha i n 0 0 i (by omega) (by rw [show nI 0 = 0 from rfl, Int32.sub_zero])]
end ANS
