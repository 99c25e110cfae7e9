/-! premises come from earlier rounds -/
def okP (S : Nat → Nat → Bool) (n a : Nat) (v : V3) : Prop := (∃ f, f < 168 ∧ v.2.1 = nI f ∧ S a f = true) ∧ (v.2.2 = nI 4095 ∨ ∃ y c, y < n ∧ c < 168 ∧ v.2.2 = nI (cod y c) ∧ S y c = true)
theorem cK_pr {S : Nat → Nat → Bool} {n k : Nat} {kd ia ib ic : Int32} {a c : Nat} {v : V3} (hn : n ≤ 24) (ha : a < n) (hax : axV n kd ia ib ic) (h : cK S n k kd (tn ia) (tn ib) (tn ic) a c = some v) : okP S n a v := by
  have tl : ∀ {m : Nat} {x : Int32}, m ≤ 24 → clV m x → tn x < m := by
    intro m x hm ⟨j, hj, e⟩
    rw [e, tn_nI (by omega)]
    exact hj
  unfold cK at h
  split at h
  · rename_i e
    have := hax.1 e
    split at h
    · rename_i e2
      cases h
      exact ⟨⟨_, by have := tl hn this.1; omega, rfl, e2.2⟩, Or.inl rfl⟩
    · cases h
  split at h
  · rename_i e
    have := hax.2.1 e
    split at h
    · rename_i e2
      cases h
      exact ⟨⟨_, by have := tl hn this.1; omega, rfl, e2.2.1⟩, Or.inr ⟨a, _, ha, by have := tl hn this.2.1; omega, rfl, e2.2.2⟩⟩
    · cases h
  split at h
  · rename_i e
    have := hax.2.2.1 e
    split at h
    · rename_i e2
      cases h
      exact ⟨⟨_, by have := tl hn this.1; omega, rfl, e2.2⟩, Or.inl rfl⟩
    · cases h
  split at h
  · rename_i e
    have := hax.2.2.2.1 e
    split at h
    · obtain ⟨y, hy, q, e⟩ := lm_some h
      rw [Bool.and_eq_true] at q
      rw [e]
      exact ⟨⟨_, lcol_lt (tl (by decide) this.1) (by omega), rfl, q.1⟩, Or.inr ⟨y, _, hy, by have := tl hn this.2.1; omega, rfl, q.2⟩⟩
    · cases h
  split at h
  · rename_i e
    have := hax.2.2.2.2.1 e
    obtain ⟨y, hy, q, e⟩ := lm_some h
    rw [Bool.and_eq_true] at q
    rw [e]
    exact ⟨⟨_, lcol_lt (tl (by decide) this.1) (by omega), rfl, q.2⟩, Or.inl rfl⟩
  split at h
  · rename_i e
    have := hax.2.2.2.2.2.1 e
    split at h
    · rename_i z hz
      have hz2 := lst_lt hz
      obtain ⟨y, hy, q, e⟩ := lm_some h
      rw [Bool.and_eq_true] at q
      rw [e]
      exact ⟨⟨_, lcol_lt (tl (by decide) this.1) (by omega), rfl, q.1⟩, Or.inr ⟨y, _, hy, lcol_lt (tl (by decide) this.2.1) (by omega), rfl, q.2⟩⟩
    · cases h
  · cases h
theorem FA_pr {S : Nat → Nat → Bool} {n cnt : Nat} {Kd Aa Ab Ac : Nat → Int32} {a c : Nat} {v : V3} (hn : n ≤ 24) (ha : a < n) (hax : ∀ k, k < cnt → axV n (Kd k) (Aa k) (Ab k) (Ac k)) : ∀ {k : Nat}, k ≤ cnt → FA S n Kd Aa Ab Ac k a c = some v → okP S n a v
  | 0, _, h => by cases h
  | k + 1, hk, h => by
    rcases oo_or h with h | h
    · exact FA_pr hn ha hax (by omega) h
    · exact cK_pr hn ha (hax k (by omega)) h
theorem FB_pr {S : Nat → Nat → Bool} {n : Nat} {F : Nat → Nat → Option V3} {a c : Nat} {v : V3} (hn : n ≤ 24) (hF : ∀ v, F a c = some v → okP S n a v) : ∀ {r : Nat}, r ≤ 6 → FB S n F r a c = some v → okP S n a v
  | 0, _, h => hF v h
  | r + 1, hr, h => by
    rcases oo_or h with h | h
    · exact FB_pr hn hF (by omega) h
    · split at h
      · obtain ⟨y, hy, q, e⟩ := lm_some h
        rw [Bool.and_eq_true] at q
        rw [e]
        exact ⟨⟨_, lcol_lt (by omega) (by omega), rfl, q.1⟩, Or.inr ⟨y, 1, hy, by decide, rfl, q.2⟩⟩
      · cases h
def pOk (R : Nat → Int32) (v ρ : Int32) : Prop := v = (-1) ∨ ∃ q, q < 4032 ∧ v = nI q ∧ ¬ R q < 0 ∧ R q < ρ
def PP (x : MS) : Prop := ∀ z, ¬ x.1 z < 0 → pOk x.1 (x.2.2.1 z) (x.1 z) ∧ pOk x.1 (x.2.2.2.1 z) (x.1 z)
theorem stepP {n cnt : Nat} {Ax O : Nat → Int32} {x : FS} {y : MS × Nat} (hn : n ≤ 24) (hcnt : cnt ≤ 80) (hax : ∀ k, k < cnt → axV n (Ax (4 * k)) (Ax (4 * k + 1)) (Ax (4 * k + 2)) (Ax (4 * k + 3))) (hkd : ∀ k, k < cnt → ∃ j, 1 ≤ j ∧ j ≤ 7 ∧ Ax (4 * k) = nI j) (H : Head n O x y) (hP : PP y.1) : PP (mPass n cnt Ax y).1 := by
  obtain ⟨⟨f1, f2, f3, f4⟩, hρ, hO, hr, hg0, hm0, hbd⟩ := H
  generalize hS : (fun a c => bt (x.1.1 c) a) = S
  have sS : ∀ a c, bt (x.1.1 c) a = S a c := fun a c => by rw [← hS]
  have hR : ∀ a c, a < n → c < 168 → S a c = true → ∃ ρ, ρ ≤ y.2 ∧ y.1.1 (cod a c) = nI ρ := fun a c ha hc h => hρ a c ha hc (by rw [sS]; exact h)
  have hR0 : ∀ a c, a < n → c < 168 → S a c = false → y.1.1 (cod a c) = (-1) := fun a c ha hc h => (f2 a c ha hc (by rw [sS]; exact h)).2
  have h0 : ∀ a c, a < n → c < 168 → mHas (y.1.1, y.1.2.1, y.1.2.2.1, y.1.2.2.2.1, nI 0).1 (nI (y.2 + 1)) (cod a c) = S a c := by
    intro a c ha hc
    show mHas y.1.1 (nI (y.2 + 1)) (cod a c) = S a c
    cases h : S a c with
    | true =>
      obtain ⟨ρ, h1, h2⟩ := hR a c ha hc h
      exact mHas_t (by rw [h2]; exact nI_pos (by omega)) (by rw [h2]; exact nI_ge (by omega) (by omega))
    | false => exact mHas_n (by rw [hR0 a c ha hc h]; decide)
  obtain ⟨M1, M2⟩ := MJ.pass (m0 := (y.1.1, y.1.2.1, y.1.2.2.1, y.1.2.2.2.1, nI 0)) hn (show y.2 + 1 < 2 ^ 31 by omega) h0 (fun a c ha hc h => by show y.1.1 (cod a c) < 0; rw [hR0 a c ha hc h]; decide) hcnt hax hkd n (Nat.le_refl n)
  have ey : (mPass n cnt Ax y).1 = mPx n cnt (nI (y.2 + 1)) Ax (y.1.1, y.1.2.1, y.1.2.2.1, y.1.2.2.2.1, nI 0) n := rfl
  rw [← ey] at M1 M2
  generalize (mPass n cnt Ax y).1 = y' at M1 M2
  -- what was there is there as it was
  have old : ∀ a c, a < n → c < 168 → S a c = true → at4 y' (cod a c) = at4 y.1 (cod a c) := by
    intro a c ha hc h
    have := M1 a c ha hc
    rw [h, if_pos rfl] at this
    exact this
  have oldR : ∀ q, ¬ y.1.1 q < 0 → y'.1 q = y.1.1 q := by
    intro q hq
    by_cases hc : ∀ a c, a < n → c < 168 → q ≠ cod a c
    · exact absurd (by rw [(f4 q hc).2]; decide) hq
    · obtain ⟨a, c, ha, hc2, e⟩ : ∃ a c, a < n ∧ c < 168 ∧ q = cod a c := Classical.byContradiction (fun q2 => hc (fun a c ha hc2 e => q2 ⟨a, c, ha, hc2, e⟩))
      subst e
      cases hs : S a c with
      | true => exact congrArg (fun p => p.1) (old a c ha hc2 hs)
      | false => exact absurd (by rw [hR0 a c ha hc2 hs]; decide) hq
  have lift : ∀ v ρ, pOk y.1.1 v ρ → pOk y'.1 v ρ := by
    intro v ρ h
    rcases h with h | ⟨q, h1, h2, h3, h4⟩
    · exact Or.inl h
    · exact Or.inr ⟨q, h1, h2, by rw [oldR q h3]; exact h3, by rw [oldR q h3]; exact h4⟩
  intro z hz
  by_cases hc : ∀ a c, a < n → c < 168 → z ≠ cod a c
  · have : y'.1 z = (-1) := (congrArg (fun p => p.1) (M2 z hc)).trans (f4 z hc).2
    exact absurd (by rw [this]; decide) hz
  · obtain ⟨a, c, ha, hc2, e⟩ : ∃ a c, a < n ∧ c < 168 ∧ z = cod a c := Classical.byContradiction (fun q2 => hc (fun a c ha hc2 e => q2 ⟨a, c, ha, hc2, e⟩))
    subst e
    cases hs : S a c with
    | true =>
      have o4 := old a c ha hc2 hs
      have r1 : y'.1 (cod a c) = y.1.1 (cod a c) := congrArg (fun p => p.1) o4
      have r3 : y'.2.2.1 (cod a c) = y.1.2.2.1 (cod a c) := congrArg (fun p => p.2.2.1) o4
      have r4 : y'.2.2.2.1 (cod a c) = y.1.2.2.2.1 (cod a c) := congrArg (fun p => p.2.2.2) o4
      rw [r1] at hz
      obtain ⟨p1, p2⟩ := hP _ hz
      rw [r1, r3, r4]
      exact ⟨lift _ _ p1, lift _ _ p2⟩
    | false =>
      have m1 : at4 y' (cod a c) = if S a c = true then at4 y.1 (cod a c) else match (if a < n then full S n cnt (fun k => Ax (4 * k)) (fun k => Ax (4 * k + 1)) (fun k => Ax (4 * k + 2)) (fun k => Ax (4 * k + 3)) a c else none) with | some v => v4 (y.2 + 1) a v | none => at4 y.1 (cod a c) := M1 a c ha hc2
      rw [hs, if_neg (by decide), if_pos ha] at m1
      cases hv : full S n cnt (fun k => Ax (4 * k)) (fun k => Ax (4 * k + 1)) (fun k => Ax (4 * k + 2)) (fun k => Ax (4 * k + 3)) a c with
      | none =>
        rw [hv] at m1
        have : y'.1 (cod a c) = (-1) := (congrArg (fun p => p.1) m1).trans (hR0 a c ha hc2 hs)
        exact absurd (by rw [this]; decide) hz
      | some v =>
        rw [hv] at m1
        have pr : okP S n a v := FB_pr hn (fun v hv => FA_pr hn ha hax (Nat.le_refl cnt) hv) (Nat.le_refl 6) hv
        obtain ⟨⟨f, hf, e1, e2⟩, pr2⟩ := pr
        have r1 : y'.1 (cod a c) = nI (y.2 + 1) := congrArg (fun p => p.1) m1
        have r3 : y'.2.2.1 (cod a c) = fstI (nI a) v.2.1 := congrArg (fun p => p.2.2.1) m1
        have r4 : y'.2.2.2.1 (cod a c) = seV v := congrArg (fun p => p.2.2.2) m1
        have mk : ∀ b d, b < n → d < 168 → S b d = true → pOk y'.1 (nI (cod b d)) (nI (y.2 + 1)) := by
          intro b d hb hd h
          obtain ⟨ρ, h1, h2⟩ := hR b d hb hd h
          have h3 : y'.1 (cod b d) = nI ρ := by rw [oldR _ (by rw [h2]; exact nI_pos (by omega)), h2]
          exact Or.inr ⟨_, cod_lt (by omega) hd, rfl, by rw [h3]; exact nI_pos (by omega), by rw [h3]; exact nI_lt (by omega) (by omega)⟩
        rw [r1, r3, r4]
        refine ⟨by rw [e1, fstI_nI hf]; exact mk a f ha hf e2, ?_⟩
        rcases pr2 with h | ⟨b, d, hb, hd, h1, h2⟩
        · unfold seV
          rw [if_pos h]
          exact Or.inl rfl
        · unfold seV
          have hl := cod_lt (show b < 24 by omega) hd
          rw [h1, if_neg (fun q => by have := (nI_eq (by omega) (by decide)).mp q; omega)]
          exact mk b d hb hd h2
theorem loopP {n cnt : Nat} {Kd Aa Ab Ac Ax O : Nat → Int32} (hn : n ≤ 24) (hcnt : cnt ≤ 80) (hax : ∀ k, k < cnt → axV n (Kd k) (Aa k) (Ab k) (Ac k)) (hkd : ∀ k, k < cnt → ∃ j, 1 ≤ j ∧ j ≤ 7 ∧ Kd k = nI j) (hAx : ∀ k, k < cnt → Kd k = Ax (4 * k) ∧ Aa k = Ax (4 * k + 1) ∧ Ab k = Ax (4 * k + 2) ∧ Ac k = Ax (4 * k + 3)) : ∀ (m : Nat) (x : FS) (y : MS × Nat) (g : Nat), cU y.1.1 4032 ≤ m → Head n O x y → PP y.1 → cU y.1.1 4032 + 2 ≤ g → PP (mLoop n cnt Ax g y).1 := by
  have hax' : ∀ k, k < cnt → axV n (Ax (4 * k)) (Ax (4 * k + 1)) (Ax (4 * k + 2)) (Ax (4 * k + 3)) := fun k hk => by
    obtain ⟨e1, e2, e3, e4⟩ := hAx k hk
    rw [← e1, ← e2, ← e3, ← e4]
    exact hax k hk
  have hkd' : ∀ k, k < cnt → ∃ j, 1 ≤ j ∧ j ≤ 7 ∧ Ax (4 * k) = nI j := fun k hk => by rw [← (hAx k hk).1]; exact hkd k hk
  intro m
  induction m with
  | zero =>
    intro x y g hm H hP hg
    obtain ⟨g', rfl⟩ : ∃ g', g = g' + 1 := ⟨g - 1, by omega⟩
    have hmd := H.2.2.2.2.2.1
    have hP' := stepP hn hcnt hax' hkd' H hP
    rw [mLoop_n hmd]
    rcases step9 hn hcnt hax hkd hAx H with ⟨H', hc⟩ | ⟨H', h1, h2⟩
    · omega
    · obtain ⟨g'', rfl⟩ : ∃ g'', g' = g'' + 1 := ⟨g' - 1, by omega⟩
      rw [mLoop_e h2]
      exact hP'
  | succ m ih =>
    intro x y g hm H hP hg
    obtain ⟨g', rfl⟩ : ∃ g', g = g' + 1 := ⟨g - 1, by omega⟩
    have hmd := H.2.2.2.2.2.1
    have hP' := stepP hn hcnt hax' hkd' H hP
    rw [mLoop_n hmd]
    rcases step9 hn hcnt hax hkd hAx H with ⟨H', hc⟩ | ⟨H', h1, h2⟩
    · exact ih _ _ g' (by omega) H' hP' (by omega)
    · obtain ⟨g'', rfl⟩ : ∃ g'', g' = g'' + 1 := ⟨g' - 1, by omega⟩
      rw [mLoop_e h2]
      exact hP'
theorem prem9 {n cnt : Nat} {Kd Aa Ab Ac Ax : Nat → Int32} {m : MS} (hn : n ≤ 24) (hn2 : 2 ≤ n) (hcnt : cnt ≤ 80) (hax : ∀ k, k < cnt → axV n (Kd k) (Aa k) (Ab k) (Ac k)) (hkd : ∀ k, k < cnt → ∃ j, 1 ≤ j ∧ j ≤ 7 ∧ Kd k = nI j) (hAx : ∀ k, k < cnt → Kd k = Ax (4 * k) ∧ Aa k = Ax (4 * k + 1) ∧ Ab k = Ax (4 * k + 2) ∧ Ac k = Ax (4 * k + 3)) : PP (mEnd n cnt Ax m).1 := by
  obtain ⟨H, hc⟩ := head0 (O := fun _ => 0) (O1 := fun _ => 0) (m := m) hn hn2 hax (fun k hk => ⟨(hAx k hk).1, (hAx k hk).2.1⟩)
  refine loopP hn hcnt hax hkd hAx _ _ _ 5000 (Nat.le_refl _) H ?_ (by show cU (mBeg n cnt Ax m).1 4032 + 2 ≤ 5000; omega)
  -- round 0 has no premises
  obtain ⟨⟨f1, f2, f3, f4⟩, hρ, -⟩ := H
  have ha7 : ∀ k, k < cnt → Kd k = nI 7 → clV 6 (Aa k) := fun k hk e => (hax k hk).2.2.2.2.2.2 e
  have M := M0.sx (x := (fun _ => (-1), m.2.1, m.2.2.1, m.2.2.2.1, m.2.2.2.2)) (n := n) ⟨fun a c _ _ => ⟨fun q => absurd (show false = true from q) (by decide), fun _ => rfl⟩, fun _ _ => rfl⟩ hn (cnt := cnt) (Kd := Kd) (Aa := Aa) (Ax := Ax) (fun k hk => ⟨(hAx k hk).1, (hAx k hk).2.1⟩) ha7 n (Nat.le_refl n)
  have eB : mSx cnt Ax (fun _ => (-1), m.2.1, m.2.2.1, m.2.2.2.1, m.2.2.2.2) n = mBeg n cnt Ax m := rfl
  rw [eB] at M
  intro z hz
  have hz : ¬ (mBeg n cnt Ax m).1 z < 0 := hz
  show pOk (mBeg n cnt Ax m).1 ((mBeg n cnt Ax m).2.2.1 z) ((mBeg n cnt Ax m).1 z) ∧ pOk (mBeg n cnt Ax m).1 ((mBeg n cnt Ax m).2.2.2.1 z) ((mBeg n cnt Ax m).1 z)
  by_cases hc : ∀ a c, a < n → c < 168 → z ≠ cod a c
  · exact absurd (by rw [M.2 z hc]; decide) hz
  · obtain ⟨a, c, ha, hc2, e⟩ : ∃ a c, a < n ∧ c < 168 ∧ z = cod a c := Classical.byContradiction (fun q2 => hc (fun a c ha hc2 e => q2 ⟨a, c, ha, hc2, e⟩))
    subst e
    obtain ⟨m1, m2⟩ := M.1 a c ha hc2
    cases hb : (decide (a < n) && iB cnt Kd Aa a c) with
    | false => exact absurd (by rw [m2 hb]; decide) hz
    | true =>
      have r := m1 hb
      exact ⟨Or.inl (congrArg (fun p => p.2.2.1) r), Or.inl (congrArg (fun p => p.2.2.2) r)⟩
