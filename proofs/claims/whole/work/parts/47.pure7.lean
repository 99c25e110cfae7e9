/-! A ROUND OF BOTH -/
theorem cU_cg {R R' : Nat → Int32} : ∀ {N : Nat}, (∀ z, z < N → (R' z < 0 ↔ R z < 0)) → cU R' N = cU R N
  | 0, _ => rfl
  | N + 1, h => by
    have ih := cU_cg (R := R) (R' := R') (N := N) (fun z hz => h z (by omega))
    have e1 : cU R' (N + 1) = cU R' N + (if R' N < 0 then 1 else 0) := rfl
    have e2 : cU R (N + 1) = cU R N + (if R N < 0 then 1 else 0) := rfl
    have h1 := h N (by omega)
    by_cases e : R N < 0
    · rw [if_pos e] at e2; rw [if_pos (h1.mpr e)] at e1; omega
    · rw [if_neg e] at e2; rw [if_neg (fun q => e (h1.mp q))] at e1; omega
theorem cU_mo {R R' : Nat → Int32} : ∀ {N : Nat}, (∀ z, z < N → R' z < 0 → R z < 0) → cU R' N ≤ cU R N ∧ ((∃ z, z < N ∧ R z < 0 ∧ ¬ R' z < 0) → cU R' N < cU R N)
  | 0, _ => ⟨Nat.le_refl _, fun ⟨z, hz, _⟩ => absurd hz (Nat.not_lt_zero z)⟩
  | N + 1, h => by
    obtain ⟨i1, i2⟩ := cU_mo (R := R) (R' := R') (N := N) (fun z hz => h z (by omega))
    have e1 : cU R' (N + 1) = cU R' N + (if R' N < 0 then 1 else 0) := rfl
    have e2 : cU R (N + 1) = cU R N + (if R N < 0 then 1 else 0) := rfl
    by_cases e : R N < 0
    · rw [if_pos e] at e2
      by_cases e' : R' N < 0
      · rw [if_pos e'] at e1
        refine ⟨by omega, fun ⟨z, hz, q1, q2⟩ => ?_⟩
        have : z ≠ N := fun q => q2 (by rw [q]; exact e')
        have := i2 ⟨z, by omega, q1, q2⟩
        omega
      · rw [if_neg e'] at e1
        exact ⟨by omega, fun _ => by omega⟩
    · rw [if_neg e] at e2
      rw [if_neg (fun q => e (h N (by omega) q))] at e1
      refine ⟨by omega, fun ⟨z, hz, q1, q2⟩ => ?_⟩
      have : z ≠ N := fun q => e (by rw [← q]; exact q1)
      have := i2 ⟨z, by omega, q1, q2⟩
      omega
theorem nI_neg1 {j : Nat} (h : j < 2 ^ 31) : (-1 : Int32) ≠ nI j := fun q => by
  have h1 : (-1 : Int32) < 0 := by decide
  rw [q] at h1
  exact nI_pos h h1
/-- the facts of the class x and of the model y are the same, and tell the same -/
def RelA (n : Nat) (x : FS) (y : MS) : Prop :=
  (∀ a c, a < n → c < 168 → bt (x.1.1 c) a = true → tells (x.1.2.1 (cod a c)) (at4 y (cod a c))) ∧
  (∀ a c, a < n → c < 168 → bt (x.1.1 c) a = false → x.1.2.1 (cod a c) = (-1) ∧ y.1 (cod a c) = (-1)) ∧
  (∀ a c, n ≤ a → a < 32 → c < 168 → bt (x.1.1 c) a = false) ∧
  (∀ z, (∀ a c, a < n → c < 168 → z ≠ cod a c) → x.1.2.1 z = (-1) ∧ y.1 z = (-1))
/-- at the head of the rounds' loops, with a gain behind -/
def Head (n : Nat) (O : Nat → Int32) (x : FS) (y : MS × Nat) : Prop :=
  RelA n x y.1 ∧ (∀ a c, a < n → c < 168 → bt (x.1.1 c) a = true → ∃ ρ, ρ ≤ y.2 ∧ y.1.1 (cod a c) = nI ρ) ∧ Oq x.2.2.1 (mF y.1.1 (O, 0) (y.2 + 1)) ∧ x.2.2.2 = y.2 + 1 ∧ x.1.2.2 ≠ 0 ∧ ¬ y.1.2.2.2.2 ≤ 0 ∧ y.2 + cU y.1.1 4032 ≤ 4032
def Fin9 (n : Nat) (O : Nat → Int32) (x : FS) (y : MS × Nat) : Prop :=
  RelA n x y.1 ∧ (∀ a c, a < n → c < 168 → bt (x.1.1 c) a = true → ∃ ρ, ρ < y.2 ∧ y.1.1 (cod a c) = nI ρ) ∧ Oq x.2.2.1 (mF y.1.1 (O, 0) y.2) ∧ x.2.2.2 = y.2 ∧ y.2 ≤ 4033
theorem step9 {n cnt : Nat} {Kd Aa Ab Ac Ax O : Nat → Int32} {x : FS} {y : MS × Nat} (hn : n ≤ 24) (hcnt : cnt ≤ 80) (hax : ∀ k, k < cnt → axV n (Kd k) (Aa k) (Ab k) (Ac k)) (hkd : ∀ k, k < cnt → ∃ j, 1 ≤ j ∧ j ≤ 7 ∧ Kd k = nI j) (hAx : ∀ k, k < cnt → Kd k = Ax (4 * k) ∧ Aa k = Ax (4 * k + 1) ∧ Ab k = Ax (4 * k + 2) ∧ Ac k = Ax (4 * k + 3)) (H : Head n O x y) :
    (Head n O (fRound n cnt Kd Aa Ab Ac x) (mPass n cnt Ax y) ∧ cU (mPass n cnt Ax y).1.1 4032 < cU y.1.1 4032) ∨ (Fin9 n O (fRound n cnt Kd Aa Ab Ac x) (mPass n cnt Ax y) ∧ (fRound n cnt Kd Aa Ab Ac x).1.2.2 = 0 ∧ (mPass n cnt Ax y).1.2.2.2.2 ≤ 0) := by
  obtain ⟨⟨f1, f2, f3, f4⟩, hρ, hO, hr, hg0, hm0, hbd⟩ := H
  have hax' : ∀ k, k < cnt → axV n (Ax (4 * k)) (Ax (4 * k + 1)) (Ax (4 * k + 2)) (Ax (4 * k + 3)) := fun k hk => by
    obtain ⟨e1, e2, e3, e4⟩ := hAx k hk
    rw [← e1, ← e2, ← e3, ← e4]
    exact hax k hk
  have hkd' : ∀ k, k < cnt → ∃ j, 1 ≤ j ∧ j ≤ 7 ∧ Ax (4 * k) = nI j := fun k hk => by rw [← (hAx k hk).1]; exact hkd k hk
  have ht : y.2 + 1 < 65536 := by omega
  generalize hS : (fun a c => bt (x.1.1 c) a) = S
  have sS : ∀ a c, bt (x.1.1 c) a = S a c := fun a c => by rw [← hS]
  have C := CI.round (S := S) hn hax (x := x) (fun a c _ _ => sS a c) f3
  rw [hr] at C
  have hR : ∀ a c, a < n → c < 168 → S a c = true → ∃ ρ, ρ ≤ y.2 ∧ y.1.1 (cod a c) = nI ρ := fun a c ha hc h => hρ a c ha hc (by rw [sS]; exact h)
  have hR0 : ∀ a c, a < n → c < 168 → S a c = false → y.1.1 (cod a c) = (-1) := fun a c ha hc h => (f2 a c ha hc (by rw [sS]; exact h)).2
  have h0 : ∀ a c, a < n → c < 168 → mHas (y.1.1, y.1.2.1, y.1.2.2.1, y.1.2.2.2.1, nI 0).1 (nI (y.2 + 1)) (cod a c) = S a c := by
    intro a c ha hc
    show mHas y.1.1 (nI (y.2 + 1)) (cod a c) = S a c
    cases h : S a c with
    | true =>
      obtain ⟨ρ, h1, h2⟩ := hR a c ha hc h
      exact mHas_t (by rw [h2]; exact nI_pos (by omega)) (by rw [h2]; exact nI_ge (by omega) (by omega))
    | false => exact mHas_n (by rw [hR0 a c ha hc h]; decide)
  have M := MJ.pass (m0 := (y.1.1, y.1.2.1, y.1.2.2.1, y.1.2.2.2.1, nI 0)) hn (show y.2 + 1 < 2 ^ 31 by omega) h0 (fun a c ha hc h => by show y.1.1 (cod a c) < 0; rw [hR0 a c ha hc h]; decide) hcnt hax' hkd' n (Nat.le_refl n)
  have eF : full S n cnt (fun k => Ax (4 * k)) (fun k => Ax (4 * k + 1)) (fun k => Ax (4 * k + 2)) (fun k => Ax (4 * k + 3)) = full S n cnt Kd Aa Ab Ac := by
    unfold full
    rw [FA_congr (Kd := Kd) (Aa := Aa) (Ab := Ab) (Ac := Ac) hAx]
  rw [eF] at M
  have hok : ∀ a c v, a < n → full S n cnt Kd Aa Ab Ac a c = some v → okV n v := fun a c v ha h => full_ok hn hcnt ha hax h
  obtain ⟨m, hm1, hm2⟩ := mPx_keeps (P := mInv y.1.1) (rd := nI (y.2 + 1)) hn hax' hkd' (fun c why fi se x hc _ _ hx => mInv_G (by omega) hc hx) (m := (y.1.1, y.1.2.1, y.1.2.2.1, y.1.2.2.2.1, nI 0)) ⟨0, rfl, Nat.zero_add _⟩ n (Nat.le_refl n)
  generalize hF : full S n cnt Kd Aa Ab Ac = F at C M hok
  -- the two ends
  have ex : (fRound n cnt Kd Aa Ab Ac x).1 = fGive n cnt Kd Aa Ab Ac x := rfl
  have ey : (mPass n cnt Ax y).1 = mPx n cnt (nI (y.2 + 1)) Ax (y.1.1, y.1.2.1, y.1.2.2.1, y.1.2.2.2.1, nI 0) n := rfl
  have ey2 : (mPass n cnt Ax y).2 = y.2 + 1 := rfl
  have ex2 : (fRound n cnt Kd Aa Ab Ac x).2.2.1 = erO n x.1.1 (fGive n cnt Kd Aa Ab Ac x).1 (fGive n cnt Kd Aa Ab Ac x).2.2 x.2.2.1 := rfl
  have ex3 : (fRound n cnt Kd Aa Ab Ac x).2.2.2 = erR (fGive n cnt Kd Aa Ab Ac x).2.2 x.2.2.2 := rfl
  rw [← ey] at hm1 hm2 M
  generalize hx' : fRound n cnt Kd Aa Ab Ac x = x' at ex ex2 ex3
  generalize hy' : mPass n cnt Ax y = y' at ey ey2 hm1 hm2 M
  rw [← ex] at C ex2 ex3
  obtain ⟨C1, C2, C3, C4, C5, C6⟩ := C
  obtain ⟨M1, M2⟩ := M
  have M1' : ∀ a c, a < n → c < 168 → at4 y'.1 (cod a c) = if S a c = true then at4 y.1 (cod a c) else match F a c with | some v => v4 (y.2 + 1) a v | none => at4 y.1 (cod a c) := by
    intro a c ha hc
    have q9 : at4 y'.1 (cod a c) = if S a c = true then at4 y.1 (cod a c) else match (if a < n then F a c else none) with | some v => v4 (y.2 + 1) a v | none => at4 y.1 (cod a c) := M1 a c ha hc
    rw [if_pos ha] at q9
    exact q9
  -- the new numbers, case by case
  have caseS : ∀ a c, a < n → c < 168 → S a c = true → bt (x'.1.1 c) a = true ∧ x'.1.2.1 (cod a c) = x.1.2.1 (cod a c) ∧ at4 y'.1 (cod a c) = at4 y.1 (cod a c) := by
    intro a c ha hc h
    have h1 := C1 a c ha hc
    have h3 := C3 a c ha hc
    have h4 := M1' a c ha hc
    rw [h] at h1
    rw [h, if_pos rfl] at h3 h4
    exact ⟨h1, h3, h4⟩
  have caseN : ∀ a c v, a < n → c < 168 → S a c = false → F a c = some v → bt (x'.1.1 c) a = true ∧ x'.1.2.1 (cod a c) = pkV (nI (y.2 + 1)) a v ∧ at4 y'.1 (cod a c) = v4 (y.2 + 1) a v := by
    intro a c v ha hc h hv
    have h1 := C1 a c ha hc
    have h3 := C3 a c ha hc
    have h4 := M1' a c ha hc
    rw [h, hv] at h1
    rw [h, if_neg (by decide), hv] at h3 h4
    exact ⟨h1, h3, h4⟩
  have caseO : ∀ a c, a < n → c < 168 → S a c = false → F a c = none → bt (x'.1.1 c) a = false ∧ x'.1.2.1 (cod a c) = (-1) ∧ y'.1.1 (cod a c) = (-1) := by
    intro a c ha hc h hv
    have h1 := C1 a c ha hc
    have h3 := C3 a c ha hc
    have h4 := M1' a c ha hc
    rw [h, hv] at h1
    rw [h, if_neg (by decide), hv] at h3 h4
    have h5 := f2 a c ha hc (by rw [sS]; exact h)
    exact ⟨h1, h3.trans h5.1, (congrArg (fun p => p.1) h4).trans h5.2⟩
  have A' : RelA n x' y'.1 := by
    refine ⟨fun a c ha hc h => ?_, fun a c ha hc h => ?_, C2, fun z hz => ?_⟩
    · cases hs : S a c with
      | true =>
        obtain ⟨-, q2, q3⟩ := caseS a c ha hc hs
        rw [q2, q3]
        exact f1 a c ha hc (by rw [sS]; exact hs)
      | false =>
        cases hv : F a c with
        | some v =>
          obtain ⟨-, q2, q3⟩ := caseN a c v ha hc hs hv
          rw [q2, q3]
          exact okV_tells hn ht ha (hok a c v ha hv)
        | none => rw [(caseO a c ha hc hs hv).1] at h; cases h
    · cases hs : S a c with
      | true => rw [(caseS a c ha hc hs).1] at h; cases h
      | false =>
        cases hv : F a c with
        | some v => rw [(caseN a c v ha hc hs hv).1] at h; cases h
        | none => exact (caseO a c ha hc hs hv).2
    · exact ⟨(C4 z hz).trans (f4 z hz).1, (congrArg (fun p => p.1) (M2 z hz)).trans (f4 z hz).2⟩
  have hnewR : ∀ a c, a < n → c < 168 → ((S a c = false ∧ (F a c).isSome = true) ↔ y'.1.1 (cod a c) = nI (y.2 + 1)) := by
    intro a c ha hc
    cases hs : S a c with
    | true =>
      obtain ⟨ρ, q1, q2⟩ := hR a c ha hc hs
      have q3 : y'.1.1 (cod a c) = y.1.1 (cod a c) := congrArg (fun p => p.1) (caseS a c ha hc hs).2.2
      rw [q3, q2, nI_eq (by omega) (by omega)]
      exact ⟨fun q => absurd q.1 (by decide), fun q => absurd q (by omega)⟩
    | false =>
      cases hv : F a c with
      | some v =>
        have q3 : y'.1.1 (cod a c) = nI (y.2 + 1) := congrArg (fun p => p.1) (caseN a c v ha hc hs hv).2.2
        exact ⟨fun _ => q3, fun _ => ⟨rfl, rfl⟩⟩
      | none =>
        rw [(caseO a c ha hc hs hv).2.2]
        exact ⟨fun q => absurd q.2 (by decide), fun q => absurd q (nI_neg1 (by omega))⟩
  have hzR : ∀ z r, z < 4032 → r < y.2 + 1 → (y.1.1 z = nI r ↔ y'.1.1 z = nI r) := by
    intro z r hz hr9
    by_cases hc : ∀ a c, a < n → c < 168 → z ≠ cod a c
    · rw [(f4 z hc).2, show y'.1.1 z = (-1) from (congrArg (fun p => p.1) (M2 z hc)).trans (f4 z hc).2]
    · obtain ⟨a, c, ha, hc2, e⟩ : ∃ a c, a < n ∧ c < 168 ∧ z = cod a c := Classical.byContradiction (fun q => hc (fun a c ha hc2 e => q ⟨a, c, ha, hc2, e⟩))
      subst e
      cases hs : S a c with
      | true => rw [show y'.1.1 (cod a c) = y.1.1 (cod a c) from congrArg (fun p => p.1) (caseS a c ha hc2 hs).2.2]
      | false =>
        rw [hR0 a c ha hc2 hs]
        cases hv : F a c with
        | some v =>
          rw [show y'.1.1 (cod a c) = nI (y.2 + 1) from congrArg (fun p => p.1) (caseN a c v ha hc2 hs hv).2.2, nI_eq (by omega) (by omega)]
          exact ⟨fun q => absurd q (nI_neg1 (by omega)), fun q => absurd q (by omega)⟩
        | none => rw [(caseO a c ha hc2 hs hv).2.2]
  have hrho' : ∀ a c, a < n → c < 168 → bt (x'.1.1 c) a = true → ∃ ρ, ρ ≤ y.2 + 1 ∧ y'.1.1 (cod a c) = nI ρ := by
    intro a c ha hc h
    cases hs : S a c with
    | true =>
      obtain ⟨ρ, q1, q2⟩ := hR a c ha hc hs
      exact ⟨ρ, by omega, (congrArg (fun p => p.1) (caseS a c ha hc hs).2.2).trans q2⟩
    | false =>
      cases hv : F a c with
      | some v => exact ⟨y.2 + 1, Nat.le_refl _, congrArg (fun p => p.1) (caseN a c v ha hc hs hv).2.2⟩
      | none => rw [(caseO a c ha hc hs hv).1] at h; cases h
  by_cases hg : ∃ a c, a < n ∧ c < 168 ∧ S a c = false ∧ (F a c).isSome = true
  · obtain ⟨a, c, ha, hc, hs, hv⟩ := hg
    have hga : x'.1.2.2 ≠ 0 := fun q => by
      have := (C5 a ha).mpr ⟨c, hc, hs, hv⟩
      rw [q, b_0] at this
      cases this
    have hcu : cU y'.1.1 4032 < cU y.1.1 4032 := by
      refine (cU_mo (fun z hz q => ?_)).2 ⟨cod a c, cod_lt (by omega) hc, by rw [hR0 a c ha hc hs]; decide, by rw [(hnewR a c ha hc).mp ⟨hs, hv⟩]; exact nI_pos (by omega)⟩
      by_cases hc : ∀ a c, a < n → c < 168 → z ≠ cod a c
      · rw [(f4 z hc).2]; decide
      · obtain ⟨a, c, ha, hc2, e⟩ : ∃ a c, a < n ∧ c < 168 ∧ z = cod a c := Classical.byContradiction (fun q => hc (fun a c ha hc2 e => q ⟨a, c, ha, hc2, e⟩))
        subst e
        cases hs : S a c with
        | true => rw [show y'.1.1 (cod a c) = y.1.1 (cod a c) from congrArg (fun p => p.1) (caseS a c ha hc2 hs).2.2] at q; exact q
        | false => rw [hR0 a c ha hc2 hs]; decide
    refine Or.inl ⟨⟨A', ?_, ?_, ?_, hga, ?_, ?_⟩, hcu⟩
    · intro a c ha hc h
      rw [ey2]
      exact hrho' a c ha hc h
    · rw [ex2, ey2]
      have oq : Oq x.2.2.1 (mF y'.1.1 (O, 0) (y.2 + 1)) := by rw [← mF_congr (fun z r hz hr9 => hzR z r hz hr9)]; exact hO
      rw [erO_app (R := y'.1.1) (t := y.2 + 1) hn hga (fun a c ha hc => ?_) (fun a ha hb c hc q => ?_) (fun z hz hc => ?_) (fun c hc q => ?_), mF1_app]
      · show Oq _ (mF1 y'.1.1 (y.2 + 1) (mF y'.1.1 (O, 0) (y.2 + 1)) 4032)
        rw [mF1_app]
        exact Oq_app oq 4032
      · rw [← hnewR a c ha hc, inB_bt (by omega), b_and, b_xor, b_m1 a (by omega), C1 a c ha hc, sS]
        cases S a c <;> cases F a c <;> simp
      · have q2 := (hnewR a c ha hc).mpr q
        rw [(C5 a ha).mpr ⟨c, hc, q2⟩] at hb
        cases hb
      · rw [show y'.1.1 z = (-1) from (congrArg (fun p => p.1) (M2 z hc)).trans (f4 z hc).2]
        exact nI_neg1 (by omega)
      · have q2 := mF_room (R := y'.1.1) (O := O) (r := y.2 + 1) (c := c) (by omega) hc q
        rw [mF1_c, ← oq.1] at q2
        rw [app_c]
        exact q2
    · rw [ex3, erR_n hga, hr, ey2]
    · rw [hm1]
      have : m ≠ 0 := by omega
      exact nI_nle (by omega) (by have := cU_le y.1.1 4032; omega)
    · rw [ey2]; omega
  · have noF : ∀ a c, a < n → c < 168 → S a c = false → F a c = none := by
      intro a c ha hc hs
      cases hv : F a c with
      | none => rfl
      | some v => exact absurd ⟨a, c, ha, hc, hs, by rw [hv]; rfl⟩ hg
    have hga : x'.1.2.2 = 0 := bt_zero (fun a ha => by
      by_cases hn9 : a < n
      · cases hb : bt x'.1.2.2 a with
        | false => rfl
        | true =>
          obtain ⟨c, q1, q2, q3⟩ := (C5 a hn9).mp hb
          exact absurd ⟨a, c, hn9, q1, q2, q3⟩ hg
      · exact C6 a (by omega) ha)
    have same : ∀ z, y'.1.1 z = y.1.1 z := by
      intro z
      by_cases hc : ∀ a c, a < n → c < 168 → z ≠ cod a c
      · exact congrArg (fun p => p.1) (M2 z hc)
      · obtain ⟨a, c, ha, hc2, e⟩ : ∃ a c, a < n ∧ c < 168 ∧ z = cod a c := Classical.byContradiction (fun q => hc (fun a c ha hc2 e => q ⟨a, c, ha, hc2, e⟩))
        subst e
        cases hs : S a c with
        | true => exact congrArg (fun p => p.1) (caseS a c ha hc2 hs).2.2
        | false => rw [(caseO a c ha hc2 hs (noF a c ha hc2 hs)).2.2, hR0 a c ha hc2 hs]
    refine Or.inr ⟨⟨A', ?_, ?_, ?_, ?_⟩, hga, ?_⟩
    · intro a c ha hc h
      rw [ey2]
      cases hs : S a c with
      | true =>
        obtain ⟨ρ, q1, q2⟩ := hR a c ha hc hs
        exact ⟨ρ, by omega, (same _).trans q2⟩
      | false => rw [(caseO a c ha hc hs (noF a c ha hc hs)).1] at h; cases h
    · rw [ex2, erO_e hga, ey2, mF_congr (R := y'.1.1) (R' := y.1.1) (fun z r hz hr9 => (hzR z r hz hr9).symm)]
      exact hO
    · rw [ex3, erR_e hga, hr, ey2]
    · rw [ey2]; omega
    · rw [hm1]
      have e1 : cU y'.1.1 4032 = cU y.1.1 4032 := cU_cg (fun z _ => by rw [same z])
      have : m = 0 := by omega
      rw [this]
      decide
