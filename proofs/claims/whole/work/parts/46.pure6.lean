/-! the order of the facts -/
def app (R : Nat → Int32) (t : Nat) (o : OS) (s : Nat) : Nat → OS
  | 0 => o
  | i + 1 => if R (s + i) = nI t then (upd (app R t o s i).1 (app R t o s i).2 (nI (s + i)), (app R t o s i).2 + 1) else app R t o s i
theorem app_t {R : Nat → Int32} {t : Nat} {o : OS} {s i : Nat} (h : R (s + i) = nI t) : app R t o s (i + 1) = (upd (app R t o s i).1 (app R t o s i).2 (nI (s + i)), (app R t o s i).2 + 1) := if_pos h
theorem app_f {R : Nat → Int32} {t : Nat} {o : OS} {s i : Nat} (h : ¬ R (s + i) = nI t) : app R t o s (i + 1) = app R t o s i := if_neg h
theorem mF1_app {R : Nat → Int32} {t : Nat} {o : OS} : ∀ c, mF1 R t o c = app R t o 0 c
  | 0 => rfl
  | c + 1 => by
    have ih := mF1_app (R := R) (t := t) (o := o) c
    by_cases h : R c = nI t
    · rw [mF1_t h, app_t (by rw [Nat.zero_add]; exact h), ih, Nat.zero_add]
    · rw [mF1_f h, app_f (by rw [Nat.zero_add]; exact h), ih]
theorem app_add {R : Nat → Int32} {t : Nat} {o : OS} {s i : Nat} : ∀ j, app R t o s (i + j) = app R t (app R t o s i) (s + i) j
  | 0 => rfl
  | j + 1 => by
    have ih := app_add (R := R) (t := t) (o := o) (s := s) (i := i) j
    rw [← Nat.add_assoc]
    by_cases h : R (s + (i + j)) = nI t
    · rw [app_t h, app_t (by rw [Nat.add_assoc]; exact h), ih, Nat.add_assoc]
    · rw [app_f h, app_f (by rw [Nat.add_assoc]; exact h), ih]
theorem app_none {R : Nat → Int32} {t : Nat} {o : OS} {s : Nat} : ∀ {m : Nat}, (∀ i, i < m → R (s + i) ≠ nI t) → app R t o s m = o
  | 0, _ => rfl
  | m + 1, h => by
    rw [app_f (h m (by omega))]
    exact app_none (fun i hi => h i (by omega))
def Oq (o o' : OS) : Prop := o.2 = o'.2 ∧ ∀ i, i < o.2 → o.1 i = o'.1 i
theorem Oq_app {R : Nat → Int32} {t s : Nat} {o o' : OS} (h : Oq o o') : ∀ m, Oq (app R t o s m) (app R t o' s m)
  | 0 => h
  | m + 1 => by
    obtain ⟨h1, h2⟩ := Oq_app (R := R) (t := t) (s := s) h m
    by_cases e : R (s + m) = nI t
    · rw [app_t e, app_t e]
      refine ⟨by show _ + 1 = _ + 1; rw [h1], fun i hi => ?_⟩
      have hi : i < (app R t o s m).2 + 1 := hi
      show upd _ _ _ i = upd _ _ _ i
      rw [← h1]
      by_cases e2 : i = (app R t o s m).2
      · rw [e2, pk_us, pk_us]
      · rw [pk_un e2, pk_un e2]
        exact h2 i (by omega)
    · rw [app_f e, app_f e]
      exact ⟨h1, h2⟩
theorem lfo_app {B N0 : Nat → Int32} {R : Nat → Int32} {t a fr s : Nat} {o : OS} : ∀ {m : Nat}, (∀ i, i < m → (inB (nI a) (N0 (fr + i) &&& (B (fr + i) ^^^ (-1))) = true ↔ R (s + i) = nI t)) → (∀ i, i < m → cod a (fr + i) = s + i) → (∀ i, i < m → R (s + i) = nI t → (app R t o s i).2 < 4032) → lfo B N0 a fr o m = app R t o s m
  | 0, _, _, _ => rfl
  | m + 1, h1, h2, h3 => by
    have ih := lfo_app (B := B) (N0 := N0) (R := R) (t := t) (a := a) (fr := fr) (s := s) (o := o) (m := m) (fun i hi => h1 i (by omega)) (fun i hi => h2 i (by omega)) (fun i hi => h3 i (by omega))
    by_cases e : R (s + m) = nI t
    · rw [lfo_t ((h1 m (by omega)).mpr e) (by rw [ih]; exact h3 m (by omega) e), app_t e, ih, h2 m (by omega)]
    · have e2 : inB (nI a) (N0 (fr + m) &&& (B (fr + m) ^^^ (-1))) = false := by
        cases hb : inB (nI a) (N0 (fr + m) &&& (B (fr + m) ^^^ (-1))) with
        | false => rfl
        | true => exact absurd ((h1 m (by omega)).mp hb) e
      rw [lfo_f e2, app_f e, ih]
section ORD
variable {n t : Nat} {B N0 R : Nat → Int32} {ga : Int32} {o : OS}
theorem lcs_app (hn : n ≤ 24) (hnew : ∀ a c, a < n → c < 168 → (inB (nI a) (N0 c &&& (B c ^^^ (-1))) = true ↔ R (cod a c) = nI t)) (hga : ∀ a, a < n → bt ga a = false → ∀ c, c < 168 → R (cod a c) ≠ nI t) {fr en w s : Nat} (hw : en = fr + w) (hen : en ≤ 168) (hcod : ∀ a i, a < n → i < w → cod a (fr + i) = s + w * a + i) (hroom : ∀ j, j < w * n → R (s + j) = nI t → (app R t o s j).2 < 4032) : ∀ a, a ≤ n → lcs B N0 ga fr en o a = app R t o s (w * a)
  | 0, _ => by rw [Nat.mul_zero]; rfl
  | a + 1, ha => by
    have ih := lcs_app hn hnew hga hw hen hcod hroom a (by omega)
    have hb : inB (nI a) ga = bt ga a := inB_bt (by omega) ga
    have hlt : ∀ i, i < w → w * a + i < w * n := fun i hi => by
      have : w * (a + 1) ≤ w * n := Nat.mul_le_mul_left w ha
      rw [Nat.mul_add] at this
      omega
    rw [Nat.mul_add, Nat.mul_one, app_add]
    cases hg : bt ga a with
    | true =>
      rw [lcs_t (by rw [hb, hg]), ih, show en - fr = w by omega]
      refine lfo_app (fun i hi => ?_) (fun i hi => hcod a i (by omega) hi) (fun i hi e => ?_)
      · rw [hnew a (fr + i) (by omega) (by omega), hcod a i (by omega) hi]
      · rw [← app_add]
        exact hroom (w * a + i) (hlt i hi) (by rw [← Nat.add_assoc]; exact e)
    | false =>
      rw [lcs_f (by rw [hb, hg]), ih]
      refine (app_none (fun i hi => ?_)).symm
      rw [← hcod a i (by omega) hi]
      exact hga a (by omega) hg (fr + i) (by omega)
/-- a round's facts are listed by their codes -/
theorem erO_app (hn : n ≤ 24) (hgn : ga ≠ 0) (hnew : ∀ a c, a < n → c < 168 → (inB (nI a) (N0 c &&& (B c ^^^ (-1))) = true ↔ R (cod a c) = nI t)) (hga : ∀ a, a < n → bt ga a = false → ∀ c, c < 168 → R (cod a c) ≠ nI t) (hout : ∀ z, z < 4032 → (∀ a c, a < n → c < 168 → z ≠ cod a c) → R z ≠ nI t) (hroom : ∀ c, c < 4032 → R c = nI t → (app R t o 0 c).2 < 4032) : erO n B N0 ga o = mF1 R t o 4032 := by
  rw [erO_n hgn, mF1_app]
  have c1 : ∀ a i, a < n → i < 24 → cod a (0 + i) = 0 + 24 * a + i := fun a i _ hi => by unfold cod; rw [if_pos (by omega)]; omega
  have c2 : ∀ a i, a < n → i < 144 → cod a (24 + i) = 576 + 144 * a + i := fun a i _ hi => by unfold cod; rw [if_neg (by omega)]; omega
  have out1 : ∀ i, i < 576 - 24 * n → R (0 + 24 * n + i) ≠ nI t := fun i hi => hout _ (by omega) (fun a c ha hc e => by unfold cod at e; split at e <;> omega)
  have out2 : ∀ i, i < 4032 - (576 + 144 * n) → R (576 + 144 * n + i) ≠ nI t := fun i hi => hout _ (by omega) (fun a c ha hc e => by unfold cod at e; split at e <;> omega)
  have s1 : lcs B N0 ga 0 24 o n = app R t o 0 576 := by
    rw [lcs_app hn hnew hga (w := 24) (s := 0) rfl (by decide) c1 (fun j hj e => hroom j (by omega) (by rw [Nat.zero_add] at e; exact e)) n (Nat.le_refl n)]
    have : app R t o 0 576 = app R t o 0 (24 * n + (576 - 24 * n)) := by rw [show 24 * n + (576 - 24 * n) = 576 by omega]
    rw [this, app_add]
    exact (app_none out1).symm
  rw [s1, lcs_app hn hnew hga (w := 144) (s := 576) rfl (by decide) c2 (fun j hj e => by
    have := hroom (576 + j) (by omega) e
    rw [app_add, Nat.zero_add] at this
    exact this) n (Nat.le_refl n)]
  have : app R t o 0 4032 = app R t o 0 (576 + (144 * n + (4032 - (576 + 144 * n)))) := by rw [show 576 + (144 * n + (4032 - (576 + 144 * n))) = 4032 by omega]
  rw [this, app_add, app_add, Nat.zero_add]
  exact (app_none out2).symm
end ORD
theorem mF_congr {R R' : Nat → Int32} {o : OS} : ∀ {t : Nat}, (∀ z r, z < 4032 → r < t → (R z = nI r ↔ R' z = nI r)) → mF R o t = mF R' o t
  | 0, _ => rfl
  | t + 1, h => by
    have ih := mF_congr (R := R) (R' := R') (o := o) (t := t) (fun z r hz hr => h z r hz (by omega))
    show mF1 R t (mF R o t) 4032 = mF1 R' t (mF R' o t) 4032
    rw [ih]
    have : ∀ c, c ≤ 4032 → mF1 R t (mF R' o t) c = mF1 R' t (mF R' o t) c := by
      intro c
      induction c with
      | zero => exact fun _ => rfl
      | succ c ihc =>
        intro hc
        by_cases e : R c = nI t
        · rw [mF1_t e, mF1_t ((h c t (by omega) (by omega)).mp e), ihc (by omega)]
        · rw [mF1_f e, mF1_f (fun q => e ((h c t (by omega) (by omega)).mpr q)), ihc (by omega)]
    exact this 4032 (Nat.le_refl _)
theorem app_c {R : Nat → Int32} {t : Nat} {o : OS} (c : Nat) : (app R t o 0 c).2 = o.2 + cE R t c := by rw [← mF1_app, mF1_c]
