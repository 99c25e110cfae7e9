/-! ElCompletionModel: reckon -/

def mSk (Ax : Nat → Int32) (x0 : Nat) (m : MS) : Nat → MS
  | 0 => m
  | k + 1 => if Ax (4 * k) = nI 7 then mStart (cod x0 (lcol (tn (Ax (4 * k + 1))) x0)) (mSk Ax x0 m k) else mSk Ax x0 m k
theorem mSk_t {Ax : Nat → Int32} {x0 : Nat} {m : MS} {k : Nat} (h : Ax (4 * k) = nI 7) : mSk Ax x0 m (k + 1) = mStart (cod x0 (lcol (tn (Ax (4 * k + 1))) x0)) (mSk Ax x0 m k) := if_pos h
theorem mSk_f {Ax : Nat → Int32} {x0 : Nat} {m : MS} {k : Nat} (h : Ax (4 * k) ≠ nI 7) : mSk Ax x0 m (k + 1) = mSk Ax x0 m k := if_neg h
def mSx (cnt : Nat) (Ax : Nat → Int32) (m : MS) : Nat → MS
  | 0 => m
  | i + 1 => mSk Ax i (mStart (cod i 0) (mStart (cod i i) (mSx cnt Ax m i))) cnt
def mOk (n : Nat) (rd : Int32) (Ax : Nat → Int32) (x0 : Nat) (m : MS) : Nat → MS
  | 0 => m
  | k + 1 => mOne n rd k (Ax (4 * k)) (tn (Ax (4 * k + 1))) (tn (Ax (4 * k + 2))) (tn (Ax (4 * k + 3))) x0 (mOk n rd Ax x0 m k)
def mBy (rd : Int32) (x0 r : Nat) (m : MS) : Nat → MS
  | 0 => m
  | y + 1 => mG rd (cod x0 1) (nI 100) (cod x0 (lcol r y)) (nI (cod y 1)) (mBy rd x0 r m y)
def mBr (n : Nat) (rd : Int32) (x0 : Nat) (m : MS) : Nat → MS
  | 0 => m
  | r + 1 => mBy rd x0 r (mBr n rd x0 m r) n
def mPx (n cnt : Nat) (rd : Int32) (Ax : Nat → Int32) (m : MS) : Nat → MS
  | 0 => m
  | i + 1 => mBr n rd i (mOk n rd Ax i (mPx n cnt rd Ax m i) cnt) 6
/-- a round: from (x, rd) to the next -/
def mPass (n cnt : Nat) (Ax : Nat → Int32) (y : MS × Nat) : MS × Nat := (mPx n cnt (nI (y.2 + 1)) Ax (y.1.1, y.1.2.1, y.1.2.2.1, y.1.2.2.2.1, nI 0) n, y.2 + 1)
def mLoop (n cnt : Nat) (Ax : Nat → Int32) : Nat → MS × Nat → MS × Nat
  | 0, y => y
  | f + 1, y => if y.1.2.2.2.2 ≤ 0 then y else mLoop n cnt Ax f (mPass n cnt Ax y)
theorem mLoop_e {n cnt : Nat} {Ax : Nat → Int32} {f : Nat} {y : MS × Nat} (h : y.1.2.2.2.2 ≤ 0) : mLoop n cnt Ax (f + 1) y = y := if_pos h
theorem mLoop_n {n cnt : Nat} {Ax : Nat → Int32} {f : Nat} {y : MS × Nat} (h : ¬ y.1.2.2.2.2 ≤ 0) : mLoop n cnt Ax (f + 1) y = mLoop n cnt Ax f (mPass n cnt Ax y) := if_neg h
/-- how many codes below i have no round -/
def cU (R : Nat → Int32) : Nat → Nat
  | 0 => 0
  | i + 1 => cU R i + (if R i < 0 then 1 else 0)
theorem cU_le (R : Nat → Int32) : ∀ i, cU R i ≤ i
  | 0 => Nat.le_refl 0
  | i + 1 => by
    have := cU_le R i
    unfold cU
    split <;> omega
theorem cU_hi {R : Nat → Int32} {c : Nat} {v : Int32} : ∀ i, i ≤ c → cU (upd R c v) i = cU R i
  | 0, _ => rfl
  | i + 1, h => by
    unfold cU
    rw [cU_hi i (by omega), pk_un (by omega)]
theorem cU_upd {R : Nat → Int32} {c : Nat} {v : Int32} : ∀ i, c < i → cU (upd R c v) i + (if R c < 0 then 1 else 0) = cU R i + (if v < 0 then 1 else 0)
  | 0, h => absurd h (Nat.not_lt_zero c)
  | i + 1, h => by
    by_cases e : c = i
    · subst e
      unfold cU
      rw [cU_hi c (Nat.le_refl c), pk_us]
      omega
    · have := cU_upd (R := R) (v := v) i (show c < i by omega)
      unfold cU
      rw [pk_un (fun q => e q.symm)]
      omega
/-- what a pass does to the count of rounds not set, and to 'made' -/
def mInv (R0 : Nat → Int32) (x : MS) : Prop := ∃ m : Nat, x.2.2.2.2 = nI m ∧ m + cU x.1 4032 = cU R0 4032
theorem mInv_G {R0 : Nat → Int32} {rd c : Nat} {why : Int32} {fi : Nat} {se : Int32} {x : MS} (hrd : rd < 2 ^ 31) (hc : c < 4032) (h : mInv R0 x) : mInv R0 (mG (nI rd) c why fi se x) := by
  obtain ⟨m, h1, h2⟩ := h
  have hu := cU_upd (R := x.1) (c := c) (v := nI rd) 4032 hc
  rw [if_neg (nI_pos hrd)] at hu
  unfold mG
  split
  · split
    · rename_i h3
      rw [if_pos h3] at hu
      refine ⟨m + 1, ?_, ?_⟩
      · show x.2.2.2.2 + nI 1 = _
        rw [h1, nI_add]
      · show m + 1 + cU (upd x.1 c (nI rd)) 4032 = _
        omega
    · rename_i h3
      rw [if_neg h3] at hu
      split
      · refine ⟨m, h1, ?_⟩
        show m + cU (upd x.1 c (nI rd)) 4032 = _
        omega
      · exact ⟨m, h1, h2⟩
  · exact ⟨m, h1, h2⟩
/-- what every giving keeps, a pass keeps -/
theorem mPx_keeps {P : MS → Prop} {n cnt : Nat} {rd : Int32} {Ax : Nat → Int32} (hn : n ≤ 24) (hax : ∀ k, k < cnt → axV n (Ax (4 * k)) (Ax (4 * k + 1)) (Ax (4 * k + 2)) (Ax (4 * k + 3))) (hkd : ∀ k, k < cnt → ∃ j, 1 ≤ j ∧ j ≤ 7 ∧ Ax (4 * k) = nI j)
    (hG : ∀ (c : Nat) (why : Int32) (fi : Nat) (se : Int32) (x : MS), c < 4032 → fi < 4032 → (se = (-1) ∨ clV 4032 se) → P x → P (mG rd c why fi se x)) {m : MS} (hm : P m) : ∀ i, i ≤ n → P (mPx n cnt rd Ax m i)
  | 0, _ => hm
  | i + 1, hi => by
    have h0 := mPx_keeps hn hax hkd hG hm i (by omega)
    have cs : ∀ {a c : Nat}, a < n → c < 168 → cod a c < 4032 := fun ha hc => cod_lt (by omega) hc
    have h1 : ∀ k, k ≤ cnt → P (mOk n rd Ax i (mPx n cnt rd Ax m i) k) := by
      intro k
      induction k with
      | zero => exact fun _ => h0
      | succ k ih =>
        intro hk
        have hp := ih (by omega)
        have ha := hax k (by omega)
        obtain ⟨j, hj1, hj2, ej⟩ := hkd k (by omega)
        show P (mOne n rd k (Ax (4 * k)) _ _ _ i _)
        generalize mOk n rd Ax i (mPx n cnt rd Ax m i) k = w at hp
        have hty : Ax (4 * k) = nI 4 ∨ Ax (4 * k) = nI 5 ∨ Ax (4 * k) = nI 6 → P (mTy n rd k (Ax (4 * k)) (tn (Ax (4 * k + 1))) (tn (Ax (4 * k + 2))) (tn (Ax (4 * k + 3))) i w n) := by
          intro h456
          have : ∀ y, y ≤ n → P (mTy n rd k (Ax (4 * k)) (tn (Ax (4 * k + 1))) (tn (Ax (4 * k + 2))) (tn (Ax (4 * k + 3))) i w y) := by
            intro y
            induction y with
            | zero => exact fun _ => hp
            | succ y ihy =>
              intro hy
              have hq := ihy (by omega)
              show P (mTwo n rd k _ _ _ _ i y _)
              generalize mTy n rd k (Ax (4 * k)) (tn (Ax (4 * k + 1))) (tn (Ax (4 * k + 2))) (tn (Ax (4 * k + 3))) i w y = v at hq
              rcases h456 with h | h | h
              · obtain ⟨⟨ja, hja, ea⟩, ⟨jb, hjb, eb⟩, jc, hjc, ec⟩ := ha.2.2.2.1 h
                rw [mTwo_4 h, ea, eb, ec, tn_nI (by omega), tn_nI (by omega), tn_nI (by omega)]
                exact hG _ _ _ _ _ (cs (by omega) (by omega)) (cs (by omega) (lcol_lt hja (by omega))) (Or.inr ⟨_, cs (by omega) (by omega), rfl⟩) hq
              · obtain ⟨⟨ja, hja, ea⟩, jb, hjb, eb⟩ := ha.2.2.2.2.1 h
                rw [mTwo_5 h, ea, eb, tn_nI (by omega), tn_nI (by omega)]
                exact hG _ _ _ _ _ (cs (by omega) (lcol_lt hjb (by omega))) (cs (by omega) (lcol_lt hja (by omega))) (Or.inl rfl) hq
              · obtain ⟨⟨ja, hja, ea⟩, ⟨jb, hjb, eb⟩, jc, hjc, ec⟩ := ha.2.2.2.2.2.1 h
                rw [mTwo_n (by rw [h]; decide +kernel) (by rw [h]; decide +kernel), ea, eb, ec, tn_nI (by omega), tn_nI (by omega), tn_nI (by omega)]
                have : ∀ z, z ≤ n → P (mTz n rd k ja jb jc i y v z) := by
                  intro z
                  induction z with
                  | zero => exact fun _ => hq
                  | succ z ihz =>
                    intro hz
                    exact hG _ _ _ _ _ (cs (by omega) (lcol_lt hjc (by omega))) (cs (by omega) (lcol_lt hja (by omega))) (Or.inr ⟨_, cs (by omega) (lcol_lt hjb (by omega)), rfl⟩) (ihz (by omega))
                exact this n (Nat.le_refl n)
          exact this n (Nat.le_refl n)
        rcases (show j = 1 ∨ j = 2 ∨ j = 3 ∨ j = 4 ∨ j = 5 ∨ j = 6 ∨ j = 7 by omega) with h | h | h | h | h | h | h <;> rw [h] at ej
        · obtain ⟨⟨ja, hja, ea⟩, jb, hjb, eb⟩ := ha.1 ej
          rw [mOne_1 ej, ea, eb, tn_nI (by omega), tn_nI (by omega)]
          exact hG _ _ _ _ _ (cs (by omega) (by omega)) (cs (by omega) (by omega)) (Or.inl rfl) hp
        · obtain ⟨⟨ja, hja, ea⟩, ⟨jb, hjb, eb⟩, jc, hjc, ec⟩ := ha.2.1 ej
          rw [mOne_2 ej, ea, eb, ec, tn_nI (by omega), tn_nI (by omega), tn_nI (by omega)]
          exact hG _ _ _ _ _ (cs (by omega) (by omega)) (cs (by omega) (by omega)) (Or.inr ⟨_, cs (by omega) (by omega), rfl⟩) hp
        · obtain ⟨⟨ja, hja, ea⟩, ⟨jb, hjb, eb⟩, jc, hjc, ec⟩ := ha.2.2.1 ej
          rw [mOne_3 ej, ea, eb, ec, tn_nI (by omega), tn_nI (by omega), tn_nI (by omega)]
          exact hG _ _ _ _ _ (cs (by omega) (lcol_lt hjb (by omega))) (cs (by omega) (by omega)) (Or.inl rfl) hp
        · rw [mOne_n (Or.inl ej)]; exact hty (Or.inl ej)
        · rw [mOne_n (Or.inr (Or.inl ej))]; exact hty (Or.inr (Or.inl ej))
        · rw [mOne_n (Or.inr (Or.inr ej))]; exact hty (Or.inr (Or.inr ej))
        · rw [mOne_7 ej]; exact hp
    have h2 := h1 cnt (Nat.le_refl cnt)
    show P (mBr n rd i (mOk n rd Ax i (mPx n cnt rd Ax m i) cnt) 6)
    generalize mOk n rd Ax i (mPx n cnt rd Ax m i) cnt = w at h2
    have h3 : ∀ r, r ≤ 6 → P (mBr n rd i w r) := by
      intro r
      induction r with
      | zero => exact fun _ => h2
      | succ r ih =>
        intro hr
        have hp := ih (by omega)
        show P (mBy rd i r (mBr n rd i w r) n)
        generalize mBr n rd i w r = v at hp
        have : ∀ y, y ≤ n → P (mBy rd i r v y) := by
          intro y
          induction y with
          | zero => exact fun _ => hp
          | succ y ihy =>
            intro hy
            exact hG _ _ _ _ _ (cs (by omega) (by omega)) (cs (by omega) (lcol_lt (by omega) (by omega))) (Or.inr ⟨_, cs (by omega) (by omega), rfl⟩) (ihy (by omega))
        exact this n (Nat.le_refl n)
    exact h3 6 (Nat.le_refl 6)
