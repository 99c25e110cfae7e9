/-! A PASS OF THE MODEL -/
theorem lm_some {P : Nat → Bool} {g : Nat → V3} {i : Nat} {v : V3} (h : lm P g i = some v) : ∃ y, y < i ∧ P y = true ∧ v = g y := by
  unfold lm at h
  cases hl : lst P i with
  | none => rw [hl] at h; cases h
  | some y =>
    rw [hl] at h
    have := lst_lt hl
    cases h
    exact ⟨y, this.1, this.2, rfl⟩
theorem cK_key {S : Nat → Nat → Bool} {n k : Nat} {kd : Int32} {A B C a c : Nat} {v : V3} (h : cK S n k kd A B C a c = some v) : v.1 = nI k := by
  unfold cK at h
  split at h
  · split at h <;> cases h; rfl
  split at h
  · split at h <;> cases h; rfl
  split at h
  · split at h <;> cases h; rfl
  split at h
  · split at h
    · obtain ⟨y, -, -, e⟩ := lm_some h; rw [e]
    · cases h
  split at h
  · obtain ⟨y, -, -, e⟩ := lm_some h; rw [e]
  split at h
  · split at h
    · obtain ⟨y, -, -, e⟩ := lm_some h; rw [e]
    · cases h
  · cases h
theorem oo_or {x y : Option V3} {v : V3} (h : oo x y = some v) : x = some v ∨ y = some v := by
  cases x with
  | some w => exact Or.inl h
  | none => exact Or.inr h
theorem FA_key {S : Nat → Nat → Bool} {n : Nat} {Kd Aa Ab Ac : Nat → Int32} {a c : Nat} {v : V3} : ∀ {k : Nat}, FA S n Kd Aa Ab Ac k a c = some v → ∃ k', k' < k ∧ v.1 = nI k'
  | 0, h => by cases h
  | k + 1, h => by
    rcases oo_or h with h | h
    · obtain ⟨k', h1, h2⟩ := FA_key h
      exact ⟨k', by omega, h2⟩
    · exact ⟨k, by omega, cK_key h⟩
theorem FA_congr {S : Nat → Nat → Bool} {n : Nat} {Kd Aa Ab Ac Kd' Aa' Ab' Ac' : Nat → Int32} : ∀ {cnt : Nat}, (∀ k, k < cnt → Kd k = Kd' k ∧ Aa k = Aa' k ∧ Ab k = Ab' k ∧ Ac k = Ac' k) → FA S n Kd Aa Ab Ac cnt = FA S n Kd' Aa' Ab' Ac' cnt
  | 0, _ => rfl
  | k + 1, h => by
    have ih := FA_congr (S := S) (n := n) (cnt := k) (fun j hj => h j (by omega))
    obtain ⟨e1, e2, e3, e4⟩ := h k (by omega)
    funext a c
    show oo (FA S n Kd Aa Ab Ac k a c) (cK S n k (Kd k) _ _ _ a c) = oo (FA S n Kd' Aa' Ab' Ac' k a c) (cK S n k (Kd' k) _ _ _ a c)
    rw [ih, e1, e2, e3, e4]
theorem FB_key {S : Nat → Nat → Bool} {n : Nat} (hn : n ≤ 24) {F : Nat → Nat → Option V3} {a c : Nat} {v : V3} : ∀ {r : Nat}, FB S n F r a c = some v → F a c = some v ∨ (v.1 = nI 100 ∧ ∃ f', f' < lcol r 0 ∧ v.2.1 = nI f')
  | 0, h => Or.inl h
  | r + 1, h => by
    rcases oo_or h with h | h
    · rcases FB_key hn h with h | ⟨h1, f', h2, h3⟩
      · exact Or.inl h
      · exact Or.inr ⟨h1, f', by unfold lcol at h2 ⊢; omega, h3⟩
    · split at h
      · obtain ⟨y, hy, -, e⟩ := lm_some h
        rw [e]
        exact Or.inr ⟨rfl, lcol r y, by unfold lcol; omega, rfl⟩
      · cases h
section MJ4
variable {n t : Nat} {S : Nat → Nat → Bool} {m0 : MS}
theorem MJ.one (hn : n ≤ 24) (ht : t < 2 ^ 31) (h0 : ∀ a c, a < n → c < 168 → mHas m0.1 (nI t) (cod a c) = S a c) (h00 : ∀ a c, a < n → c < 168 → S a c = false → m0.1 (cod a c) < 0)
    {k a0 : Nat} {kd ia ib ic : Int32} (hk : k < 80) (ha0 : a0 < n) (hax : axV n kd ia ib ic) (hkd : ∃ j, 1 ≤ j ∧ j ≤ 7 ∧ kd = nI j) {x : MS} {F : Nat → Nat → Option V3} (h : MJ n t S m0 x F) (hF : ∀ c v, F a0 c = some v → ∃ k', k' < k ∧ v.1 = nI k') :
    MJ n t S m0 (mOne n (nI t) k kd (tn ia) (tn ib) (tn ic) a0 x) (upF F a0 (fun c => cK S n k kd (tn ia) (tn ib) (tn ic) a0 c)) := by
  have bel0 : ∀ {c f : Nat} {v : V3}, F a0 c = some v → Bel v k f := fun hv => Or.inl (hF _ _ hv)
  obtain ⟨j, hj1, hj2, ej⟩ := hkd
  rcases (show j = 1 ∨ j = 2 ∨ j = 3 ∨ j = 4 ∨ j = 5 ∨ j = 6 ∨ j = 7 by omega) with e | e | e | e | e | e | e <;> rw [e] at ej <;> clear hj1 hj2 e
  · obtain ⟨⟨ja, hja, ea⟩, jb, hjb, eb⟩ := hax.1 ej
    subst ej
    rw [mOne_1 rfl, ea, eb, tn_nI (by omega), tn_nI (by omega)]
    have g := h.give hn ht h0 h00 (k := k) (a0 := a0) (col := jb) (f := ja) (se := (-1)) (sc := nI 4095) (q := true) ha0 (by omega) (by omega) (by omega) (Or.inl ⟨rfl, rfl, rfl⟩) (fun v hv => bel0 hv)
    rw [Bool.and_true] at g
    exact g
  · obtain ⟨⟨ja, hja, ea⟩, ⟨jb, hjb, eb⟩, jc, hjc, ec⟩ := hax.2.1 ej
    subst ej
    rw [mOne_2 rfl, ea, eb, ec, tn_nI (by omega), tn_nI (by omega), tn_nI (by omega)]
    have g := h.give hn ht h0 h00 (k := k) (a0 := a0) (col := jc) (f := ja) (se := nI (cod a0 jb)) (sc := nI (cod a0 jb)) (q := S a0 jb) ha0 (by omega) (by omega) (by omega) (Or.inr ⟨a0, jb, ha0, by omega, rfl, rfl, rfl⟩) (fun v hv => bel0 hv)
    refine g.swap (fun a c ha hc _ => ?_)
    congr 1
    funext c
    show _ = (if c = jc ∧ S a0 ja = true ∧ S a0 jb = true then some (nI k, nI ja, nI (cod a0 jb)) else none)
    simp only [Bool.and_eq_true]
  · obtain ⟨⟨ja, hja, ea⟩, ⟨jb, hjb, eb⟩, jc, hjc, ec⟩ := hax.2.2.1 ej
    subst ej
    rw [mOne_3 rfl, ea, eb, ec, tn_nI (by omega), tn_nI (by omega), tn_nI (by omega)]
    have g := h.give hn ht h0 h00 (k := k) (a0 := a0) (col := lcol jb jc) (f := ja) (se := (-1)) (sc := nI 4095) (q := true) ha0 (lcol_lt hjb (by omega)) (by omega) (by omega) (Or.inl ⟨rfl, rfl, rfl⟩) (fun v hv => bel0 hv)
    rw [Bool.and_true] at g
    exact g
  · obtain ⟨⟨ja, hja, ea⟩, ⟨jb, hjb, eb⟩, jc, hjc, ec⟩ := hax.2.2.2.1 ej
    subst ej
    rw [mOne_n (Or.inl rfl), ea, eb, ec, tn_nI (by omega), tn_nI (by omega), tn_nI (by omega)]
    have lp : ∀ y, y ≤ n → MJ n t S m0 (mTy n (nI t) k (nI 4) ja jb jc a0 x y) (upF F a0 (fun c => if c = jc then lm (fun y => S a0 (lcol ja y) && S y jb) (fun y => (nI k, nI (lcol ja y), nI (cod y jb))) y else none)) := by
      intro y
      induction y with
      | zero => exact fun _ => h.swap (fun a c _ _ _ => by
          by_cases e : a = a0
          · subst e; rw [upF_self, lm_0]; split <;> rw [oo_none]
          · rw [upF_ne e])
      | succ y ih =>
        intro hy
        have ih := ih (by omega)
        have g := ih.give hn ht h0 h00 (k := k) (a0 := a0) (col := jc) (f := lcol ja y) (se := nI (cod y jb)) (sc := nI (cod y jb)) (q := S y jb) ha0 (by omega) (lcol_lt hja (by omega)) (by omega) (Or.inr ⟨y, jb, by omega, by omega, rfl, rfl, rfl⟩) (fun v hv => by
          rw [upF_self, if_pos rfl] at hv
          rcases oo_or hv with hv | hv
          · exact bel0 hv
          · obtain ⟨y', h1, -, e⟩ := lm_some hv
            rw [e]
            exact Or.inr ⟨rfl, lcol ja y', by unfold lcol; omega, rfl⟩)
        rw [upF_up] at g
        show MJ n t S m0 (mTwo n (nI t) k (nI 4) ja jb jc a0 y _) _
        rw [mTwo_4 rfl]
        refine g.swap (fun a c ha hc _ => ?_)
        congr 1
        funext c
        by_cases e : c = jc
        · rw [if_pos e, if_pos e, lm_s]
          congr 1
          by_cases e2 : (S a0 (lcol ja y) && S y jb) = true
          · rw [if_pos ⟨e, e2⟩, if_pos e2]
          · rw [if_neg (fun q => e2 q.2), if_neg e2]
        · rw [if_neg e, if_neg e, if_neg (fun q => e q.1)]; rfl
    exact lp n (Nat.le_refl n)
  · obtain ⟨⟨ja, hja, ea⟩, jb, hjb, eb⟩ := hax.2.2.2.2.1 ej
    subst ej
    rw [mOne_n (Or.inr (Or.inl rfl)), ea, eb, tn_nI (by omega), tn_nI (by omega)]
    have lp : ∀ y, y ≤ n → MJ n t S m0 (mTy n (nI t) k (nI 5) ja jb (tn ic) a0 x y) (upF F a0 (fun c => lm (fun y => decide (c = lcol jb y) && S a0 (lcol ja y)) (fun y => (nI k, nI (lcol ja y), nI 4095)) y)) := by
      intro y
      induction y with
      | zero => exact fun _ => h.swap (fun a c _ _ _ => by
          by_cases e : a = a0
          · subst e; rw [upF_self, lm_0, oo_none]
          · rw [upF_ne e])
      | succ y ih =>
        intro hy
        have ih := ih (by omega)
        have g := ih.give hn ht h0 h00 (k := k) (a0 := a0) (col := lcol jb y) (f := lcol ja y) (se := (-1)) (sc := nI 4095) (q := true) ha0 (lcol_lt hjb (by omega)) (lcol_lt hja (by omega)) (by omega) (Or.inl ⟨rfl, rfl, rfl⟩) (fun v hv => by
          rw [upF_self] at hv
          rcases oo_or hv with hv | hv
          · exact bel0 hv
          · obtain ⟨y', h1, -, e⟩ := lm_some hv
            rw [e]
            exact Or.inr ⟨rfl, lcol ja y', by unfold lcol; omega, rfl⟩)
        rw [upF_up] at g
        show MJ n t S m0 (mTwo n (nI t) k (nI 5) ja jb (tn ic) a0 y _) _
        rw [mTwo_5 rfl]
        refine g.swap (fun a c ha hc _ => ?_)
        congr 1
        funext c
        rw [lm_s, Bool.and_true]
        congr 1
        by_cases e : c = lcol jb y
        · rw [decide_eq_true e, Bool.true_and]
          by_cases e2 : S a0 (lcol ja y) = true
          · rw [if_pos ⟨e, e2⟩, if_pos e2]
          · rw [if_neg (fun q => e2 q.2), if_neg e2]
        · rw [decide_eq_false e, Bool.false_and, if_neg (fun q => e q.1), if_neg (by decide)]
    exact lp n (Nat.le_refl n)
  · obtain ⟨⟨ja, hja, ea⟩, ⟨jb, hjb, eb⟩, jc, hjc, ec⟩ := hax.2.2.2.2.2.1 ej
    subst ej
    rw [mOne_n (Or.inr (Or.inr rfl)), ea, eb, ec, tn_nI (by omega), tn_nI (by omega), tn_nI (by omega)]
    have lp : ∀ y, y ≤ n → MJ n t S m0 (mTy n (nI t) k (nI 6) ja jb jc a0 x y) (upF F a0 (fun c => match lst (fun z => decide (c = lcol jc z)) n with
        | some z => lm (fun y => S a0 (lcol ja y) && S y (lcol jb z)) (fun y => (nI k, nI (lcol ja y), nI (cod y (lcol jb z)))) y
        | none => none)) := by
      intro y
      induction y with
      | zero => exact fun _ => h.swap (fun a c _ _ _ => by
          by_cases e : a = a0
          · subst e; rw [upF_self]; split <;> first | rw [lm_0, oo_none] | rw [oo_none]
          · rw [upF_ne e])
      | succ y ih =>
        intro hy
        have ih := ih (by omega)
        show MJ n t S m0 (mTwo n (nI t) k (nI 6) ja jb jc a0 y _) _
        rw [mTwo_n (by decide +kernel) (by decide +kernel)]
        have lz : ∀ z, z ≤ n → MJ n t S m0 (mTz n (nI t) k ja jb jc a0 y (mTy n (nI t) k (nI 6) ja jb jc a0 x y) z) (upF F a0 (fun c => oo (match lst (fun z => decide (c = lcol jc z)) n with
            | some z => lm (fun y => S a0 (lcol ja y) && S y (lcol jb z)) (fun y => (nI k, nI (lcol ja y), nI (cod y (lcol jb z)))) y
            | none => none) (match lst (fun z => decide (c = lcol jc z)) z with
            | some w => if (S a0 (lcol ja y) && S y (lcol jb w)) = true then some (nI k, nI (lcol ja y), nI (cod y (lcol jb w))) else none
            | none => none))) := by
          intro z
          induction z with
          | zero => exact fun _ => ih.swap (fun a c _ _ _ => by
              by_cases e : a = a0
              · subst e; rw [upF_self, upF_self]; show _ = oo _ (oo _ none); rw [oo_none]
              · rw [upF_ne e, upF_ne e])
          | succ z ihz =>
            intro hz
            have ihz := ihz (by omega)
            have nol : lst (fun w => decide (lcol jc z = lcol jc w)) z = none := by
              cases hl : lst (fun w => decide (lcol jc z = lcol jc w)) z with
              | none => rfl
              | some w =>
                have h9 := lst_lt hl
                have h8 : lcol jc z = lcol jc w := of_decide_eq_true h9.2
                unfold lcol at h8
                omega
            have g := ihz.give hn ht h0 h00 (k := k) (a0 := a0) (col := lcol jc z) (f := lcol ja y) (se := nI (cod y (lcol jb z))) (sc := nI (cod y (lcol jb z))) (q := S y (lcol jb z)) ha0 (lcol_lt hjc (by omega)) (lcol_lt hja (by omega)) (by omega) (Or.inr ⟨y, lcol jb z, by omega, lcol_lt hjb (by omega), rfl, rfl, rfl⟩) (fun v hv => by
              rw [upF_self, nol] at hv
              rcases oo_or hv with hv | hv
              · exact bel0 hv
              · rcases oo_or hv with hv | hv
                · split at hv
                  · obtain ⟨y', h1, -, e⟩ := lm_some hv
                    rw [e]
                    exact Or.inr ⟨rfl, lcol ja y', by unfold lcol; omega, rfl⟩
                  · cases hv
                · cases hv)
            rw [upF_up] at g
            refine g.swap (fun a c ha hc _ => ?_)
            congr 1
            funext c
            rw [oo_assoc]
            congr 1
            have e1 : lst (fun z => decide (c = lcol jc z)) (z + 1) = match lst (fun z => decide (c = lcol jc z)) z with | some y => some y | none => if decide (c = lcol jc z) = true then some z else none := rfl
            rw [e1]
            cases hl : lst (fun z => decide (c = lcol jc z)) z with
            | some w =>
              have h9 := lst_lt hl
              have h8 : c = lcol jc w := of_decide_eq_true h9.2
              rw [if_neg (c := c = lcol jc z ∧ (S a0 (lcol ja y) && S y (lcol jb z)) = true) (fun q => by have q1 := q.1; rw [h8] at q1; unfold lcol at q1; omega), oo_none]
            | none =>
              by_cases e : c = lcol jc z
              · show (if c = lcol jc z ∧ (S a0 (lcol ja y) && S y (lcol jb z)) = true then some (nI k, nI (lcol ja y), nI (cod y (lcol jb z))) else none) = (match (if decide (c = lcol jc z) = true then some z else none) with | some w => _ | none => none)
                rw [if_pos (c := decide (c = lcol jc z) = true) (decide_eq_true e)]
                by_cases e2 : (S a0 (lcol ja y) && S y (lcol jb z)) = true
                · rw [if_pos ⟨e, e2⟩]; show _ = (if (S a0 (lcol ja y) && S y (lcol jb z)) = true then _ else none); rw [if_pos e2]
                · rw [if_neg (fun q => e2 q.2)]; show _ = (if (S a0 (lcol ja y) && S y (lcol jb z)) = true then _ else none); rw [if_neg e2]
              · show (if c = lcol jc z ∧ (S a0 (lcol ja y) && S y (lcol jb z)) = true then some (nI k, nI (lcol ja y), nI (cod y (lcol jb z))) else none) = (match (if decide (c = lcol jc z) = true then some z else none) with | some w => _ | none => none)
                rw [if_neg (c := decide (c = lcol jc z) = true) (fun q => e (of_decide_eq_true q)), if_neg (fun q => e q.1)]
        refine (lz n (Nat.le_refl n)).swap (fun a c ha hc _ => ?_)
        congr 1
        funext c
        cases lst (fun z => decide (c = lcol jc z)) n with
        | none => rfl
        | some z => exact (lm_s _ _ y).symm
    exact lp n (Nat.le_refl n)
  · subst ej
    rw [mOne_7 rfl]
    refine h.swap (fun a c ha hc _ => ?_)
    by_cases e : a = a0
    · subst e
      rw [upF_self]
      have : cK S n k (nI 7) (tn ia) (tn ib) (tn ic) a c = none := rfl
      rw [this, oo_none]
    · rw [upF_ne e]
theorem MJ.axs (hn : n ≤ 24) (ht : t < 2 ^ 31) (h0 : ∀ a c, a < n → c < 168 → mHas m0.1 (nI t) (cod a c) = S a c) (h00 : ∀ a c, a < n → c < 168 → S a c = false → m0.1 (cod a c) < 0)
    {cnt a0 : Nat} {Ax : Nat → Int32} (hcnt : cnt ≤ 80) (ha0 : a0 < n) (hax : ∀ k, k < cnt → axV n (Ax (4 * k)) (Ax (4 * k + 1)) (Ax (4 * k + 2)) (Ax (4 * k + 3))) (hkd : ∀ k, k < cnt → ∃ j, 1 ≤ j ∧ j ≤ 7 ∧ Ax (4 * k) = nI j) {x : MS} {F : Nat → Nat → Option V3} (h : MJ n t S m0 x F) (hF : ∀ c, F a0 c = none) :
    ∀ k, k ≤ cnt → MJ n t S m0 (mOk n (nI t) Ax a0 x k) (upF F a0 (fun c => FA S n (fun k => Ax (4 * k)) (fun k => Ax (4 * k + 1)) (fun k => Ax (4 * k + 2)) (fun k => Ax (4 * k + 3)) k a0 c))
  | 0, _ => h.swap (fun a c _ _ _ => by
      by_cases e : a = a0
      · subst e; rw [upF_self]; show _ = oo _ none; rw [oo_none]
      · rw [upF_ne e])
  | k + 1, hk => by
    have ih := MJ.axs hn ht h0 h00 hcnt ha0 hax hkd h hF k (by omega)
    have g := ih.one hn ht h0 h00 (k := k) (a0 := a0) (by omega) ha0 (hax k (by omega)) (hkd k (by omega)) (fun c v hv => by
      rw [upF_self, hF c] at hv
      exact FA_key hv)
    rw [upF_up] at g
    exact g
theorem MJ.bot (hn : n ≤ 24) (ht : t < 2 ^ 31) (h0 : ∀ a c, a < n → c < 168 → mHas m0.1 (nI t) (cod a c) = S a c) (h00 : ∀ a c, a < n → c < 168 → S a c = false → m0.1 (cod a c) < 0)
    {a0 : Nat} (ha0 : a0 < n) {x : MS} {F : Nat → Nat → Option V3} {FF : Nat → Nat → Option V3} (h : MJ n t S m0 x (upF F a0 (fun c => FF a0 c))) (hF : ∀ c, F a0 c = none) (hFF : ∀ c v, FF a0 c = some v → ∃ k', k' < 100 ∧ v.1 = nI k') :
    ∀ r, r ≤ 6 → MJ n t S m0 (mBr n (nI t) a0 x r) (upF F a0 (fun c => FB S n FF r a0 c))
  | 0, _ => h
  | r + 1, hr => by
    have ih := MJ.bot hn ht h0 h00 ha0 h hF hFF r (by omega)
    have lp : ∀ y, y ≤ n → MJ n t S m0 (mBy (nI t) a0 r (mBr n (nI t) a0 x r) y) (upF F a0 (fun c => oo (FB S n FF r a0 c) (if c = 1 then lm (fun y => S a0 (lcol r y) && S y 1) (fun y => (nI 100, nI (lcol r y), nI (cod y 1))) y else none))) := by
      intro y
      induction y with
      | zero => exact fun _ => ih.swap (fun a c _ _ _ => by
          by_cases e : a = a0
          · subst e; rw [upF_self, upF_self, lm_0]; split <;> rw [oo_none]
          · rw [upF_ne e, upF_ne e])
      | succ y ihy =>
        intro hy
        have ihy := ihy (by omega)
        have g := ihy.give hn ht h0 h00 (k := 100) (a0 := a0) (col := 1) (f := lcol r y) (se := nI (cod y 1)) (sc := nI (cod y 1)) (q := S y 1) ha0 (by decide) (lcol_lt (by omega) (by omega)) (by omega) (Or.inr ⟨y, 1, by omega, by decide, rfl, rfl, rfl⟩) (fun v hv => by
          rw [upF_self, hF 1, if_pos rfl] at hv
          rcases oo_or (x := FB S n FF r a0 1) hv with hv | hv
          · rcases FB_key hn hv with hv | ⟨e1, f', e2, e3⟩
            · exact Or.inl (hFF _ _ hv)
            · exact Or.inr ⟨e1, f', by unfold lcol at e2 ⊢; omega, e3⟩
          · obtain ⟨y', h1, -, e⟩ := lm_some hv
            rw [e]
            exact Or.inr ⟨rfl, lcol r y', by unfold lcol; omega, rfl⟩)
        rw [upF_up] at g
        refine g.swap (fun a c ha hc _ => ?_)
        congr 1
        funext c
        rw [oo_assoc]
        congr 1
        by_cases e : c = 1
        · rw [if_pos e, if_pos e, lm_s]
          congr 1
          by_cases e2 : (S a0 (lcol r y) && S y 1) = true
          · rw [if_pos ⟨e, e2⟩, if_pos e2]
          · rw [if_neg (fun q => e2 q.2), if_neg e2]
        · rw [if_neg e, if_neg e, if_neg (fun q => e q.1)]; rfl
    exact lp n (Nat.le_refl n)
/-- THE PASS -/
theorem MJ.pass (hn : n ≤ 24) (ht : t < 2 ^ 31) (h0 : ∀ a c, a < n → c < 168 → mHas m0.1 (nI t) (cod a c) = S a c) (h00 : ∀ a c, a < n → c < 168 → S a c = false → m0.1 (cod a c) < 0)
    {cnt : Nat} {Ax : Nat → Int32} (hcnt : cnt ≤ 80) (hax : ∀ k, k < cnt → axV n (Ax (4 * k)) (Ax (4 * k + 1)) (Ax (4 * k + 2)) (Ax (4 * k + 3))) (hkd : ∀ k, k < cnt → ∃ j, 1 ≤ j ∧ j ≤ 7 ∧ Ax (4 * k) = nI j) :
    ∀ i, i ≤ n → MJ n t S m0 (mPx n cnt (nI t) Ax m0 i) (fun a c => if a < i then full S n cnt (fun k => Ax (4 * k)) (fun k => Ax (4 * k + 1)) (fun k => Ax (4 * k + 2)) (fun k => Ax (4 * k + 3)) a c else none)
  | 0, _ => ⟨fun a c _ _ => by dsimp only; rw [if_neg (Nat.not_lt_zero a)]; split <;> rfl, fun _ _ => rfl⟩
  | i + 1, hi => by
    have ih := MJ.pass hn ht h0 h00 hcnt hax hkd i (by omega)
    have hF : ∀ c, (fun a c => if a < i then full S n cnt (fun k => Ax (4 * k)) (fun k => Ax (4 * k + 1)) (fun k => Ax (4 * k + 2)) (fun k => Ax (4 * k + 3)) a c else none) i c = none := fun c => if_neg (Nat.lt_irrefl i)
    have g1 := ih.axs hn ht h0 h00 (a0 := i) hcnt (by omega) hax hkd hF cnt (Nat.le_refl cnt)
    have g2 := MJ.bot hn ht h0 h00 (a0 := i) (by omega) (FF := FA S n (fun k => Ax (4 * k)) (fun k => Ax (4 * k + 1)) (fun k => Ax (4 * k + 2)) (fun k => Ax (4 * k + 3)) cnt) g1 hF (fun c v hv => by
      obtain ⟨k', h1, h2⟩ := FA_key hv
      exact ⟨k', by omega, h2⟩) 6 (Nat.le_refl 6)
    refine MJ.swap (F := upF _ i _) g2 (fun a c ha hc _ => ?_)
    by_cases e : a = i
    · subst e
      rw [upF_self, if_neg (Nat.lt_irrefl a), if_pos (Nat.lt_succ_self a)]
      rfl
    · rw [upF_ne e]
      by_cases e2 : a < i
      · rw [if_pos e2, if_pos (by omega)]
      · rw [if_neg e2, if_neg (by omega)]
end MJ4
