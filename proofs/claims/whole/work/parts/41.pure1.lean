/-! what a round of the class gives, said by a function F: for a class a and a column c the reason that came first -/
theorem inB_bt {a : Nat} (ha : a < 32) (x : Int32) : inB (nI a) x = bt x a := by
  have h : ((x >>> (nI a &&& 31)) &&& nI 1) = 0 ↔ bt x a = false := by
    constructor
    · intro h
      have h1 : bt ((x >>> (nI a &&& 31)) &&& nI 1) 0 = false := by rw [h]; exact b_0 0
      rw [b_and, b_sshr a ha x (by decide), if_pos (by omega), show bt (nI 1) 0 = true by decide +kernel, Bool.and_true] at h1
      exact h1
    · intro h
      apply b_ext
      intro i hi
      rw [b_and, b_0]
      by_cases e : i = 0
      · subst e
        rw [b_sshr a ha x (by decide), if_pos (by omega)]
        show (bt x a && _) = false
        rw [h, Bool.false_and]
      · rw [(by decide +kernel : ∀ i, i < 32 → i ≠ 0 → bt (nI 1) i = false) i hi e, Bool.and_false]
  unfold inB
  cases hb : bt x a with
  | false => exact decide_eq_false (fun q => q (h.mpr hb))
  | true => exact decide_eq_true (fun q => by rw [h.mp q] at hb; cases hb)
theorem bitI_bt : ∀ i, i < 32 → ∀ a, a < 32 → bt (bitI i) a = decide (a = i) := by decide +kernel
theorem frs_bt {c x : Int32} {a : Nat} (ha : a < 32) : bt (frs c x) a = (bt c a && !bt x a) := by
  unfold frs
  rw [b_and, b_xor, b_m1 a ha]
  cases bt c a <;> cases bt x a <;> rfl
theorem bt_zero {x : Int32} (h : ∀ a, a < 32 → bt x a = false) : x = 0 := b_ext (fun i hi => by rw [h i hi, b_0])
theorem cod_inj {a b c d : Nat} (hc : c < 168) (hd : d < 168) (ha : a < 24) (hb : b < 24) (h : cod a c = cod b d) : a = b ∧ c = d := by
  unfold cod at h
  split at h <;> split at h <;> omega
theorem gvG_hit {fr : Int32} {col : Nat} {rc ax fcol sec : Int32} {g : Nat → Int64} (hc : col < 168) : ∀ {n a : Nat}, n ≤ 24 → a < n → bt fr a = true → gvG fr col rc ax fcol sec g n (cod a col) = pkJ rc ax (fstI (nI a) fcol) sec
  | 0, _, _, h, _ => absurd h (Nat.not_lt_zero _)
  | n + 1, a, hn, ha, h => by
    by_cases e : a = n
    · subst e
      rw [gvG_t (by rw [inB_bt (by omega)]; exact h), pk_uLs]
    · have ih := gvG_hit (fr := fr) (rc := rc) (ax := ax) (fcol := fcol) (sec := sec) (g := g) hc (n := n) (a := a) (by omega) (by omega) h
      by_cases h2 : inB (nI n) fr = true
      · rw [gvG_t h2, pk_uLn (fun q => e (cod_inj hc hc (by omega) (by omega) q).1)]
        exact ih
      · rw [gvG_f (by cases hb : inB (nI n) fr with | false => rfl | true => exact absurd hb h2)]
        exact ih
theorem gvG_miss {fr : Int32} {col : Nat} {rc ax fcol sec : Int32} {g : Nat → Int64} {x : Nat} : ∀ {n : Nat}, n ≤ 24 → (∀ a, a < n → bt fr a = true → x ≠ cod a col) → gvG fr col rc ax fcol sec g n x = g x
  | 0, _, _ => rfl
  | n + 1, hn, h => by
    have ih := gvG_miss (fr := fr) (rc := rc) (ax := ax) (fcol := fcol) (sec := sec) (g := g) (n := n) (by omega) (fun a ha => h a (by omega))
    cases hb : inB (nI n) fr with
    | true => rw [gvG_t hb, pk_uLn (h n (by omega) (by rw [← inB_bt (by omega)]; exact hb))]; exact ih
    | false => rw [gvG_f hb]; exact ih
section GV
variable {n : Nat} {rc cls : Int32} {col : Nat} {ax fcol sec : Int32} {u : GS}
theorem frs_0 (h : frs cls (u.1 col) = 0) {a : Nat} (ha : a < 32) : (bt cls a && !bt (u.1 col) a) = false := by rw [← frs_bt ha, h, b_0]
theorem gv_bt {a c : Nat} (ha : a < 32) : bt ((gv n rc cls col ax fcol sec u).1 c) a = (bt (u.1 c) a || (decide (c = col) && bt cls a)) := by
  by_cases h : frs cls (u.1 col) = 0
  · rw [gv_e h]
    by_cases e : c = col
    · subst e
      have := frs_0 h ha
      rw [decide_eq_true rfl]
      cases hx : bt cls a <;> cases hy : bt (u.1 c) a <;> rw [hx, hy] at this <;> first | rfl | cases this
    · rw [decide_eq_false e, Bool.false_and, Bool.or_false]
  · rw [gv_n h]
    show bt (upd u.1 col _ c) a = _
    by_cases e : c = col
    · subst e
      rw [pk_us, b_or, frs_bt ha, decide_eq_true rfl]
      cases bt cls a <;> cases bt (u.1 c) a <;> rfl
    · rw [pk_un e, decide_eq_false e, Bool.false_and, Bool.or_false]
theorem gv_ga {a : Nat} (ha : a < 32) : bt (gv n rc cls col ax fcol sec u).2.2 a = (bt u.2.2 a || (bt cls a && !bt (u.1 col) a)) := by
  by_cases h : frs cls (u.1 col) = 0
  · rw [gv_e h, frs_0 h ha, Bool.or_false]
  · rw [gv_n h]
    show bt (u.2.2 ||| _) a = _
    rw [b_or, frs_bt ha]
theorem gv_G {a c : Nat} (hn : n ≤ 24) (hcol : col < 168) (ha : a < n) (hc : c < 168) : (gv n rc cls col ax fcol sec u).2.1 (cod a c) = if c = col ∧ bt cls a = true ∧ bt (u.1 col) a = false then pkJ rc ax (fstI (nI a) fcol) sec else u.2.1 (cod a c) := by
  by_cases h : frs cls (u.1 col) = 0
  · rw [gv_e h, if_neg (fun q => by
      have := frs_0 (a := a) h (by omega)
      rw [q.2.1, q.2.2] at this
      cases this)]
  · rw [gv_n h]
    show gvG _ _ _ _ _ _ _ n (cod a c) = _
    by_cases q : c = col ∧ bt cls a = true ∧ bt (u.1 col) a = false
    · rw [if_pos q]
      obtain ⟨rfl, q2, q3⟩ := q
      exact gvG_hit hcol hn ha (by rw [frs_bt (by omega), q2, q3]; rfl)
    · rw [if_neg q]
      refine gvG_miss hn (fun b hb hf e => q ?_)
      obtain ⟨e1, e2⟩ := cod_inj hc hcol (by omega) (by omega) e
      subst e1
      rw [frs_bt (by omega)] at hf
      refine ⟨e2, ?_⟩
      cases hx : bt cls a <;> cases hy : bt (u.1 col) a <;> rw [hx, hy] at hf <;> first | exact ⟨rfl, rfl⟩ | cases hf
theorem gv_Go {x : Nat} (hn : n ≤ 24) (hx : ∀ a, a < n → x ≠ cod a col) : (gv n rc cls col ax fcol sec u).2.1 x = u.2.1 x := by
  by_cases h : frs cls (u.1 col) = 0
  · rw [gv_e h]
  · rw [gv_n h]
    exact gvG_miss hn (fun a ha _ => hx a ha)
end GV
abbrev V3 : Type := Int32 × Int32 × Int32
def oo (x y : Option V3) : Option V3 := match x with
  | some v => some v
  | none => y
theorem oo_none (x : Option V3) : oo x none = x := by cases x <;> rfl
theorem oo_assoc (x y z : Option V3) : oo (oo x y) z = oo x (oo y z) := by cases x <;> rfl
theorem oo_some (v : V3) (y : Option V3) : oo (some v) y = some v := rfl
theorem oo_n (y : Option V3) : oo none y = y := rfl
def pkV (rc : Int32) (a : Nat) (v : V3) : Int64 := pkJ rc v.1 (fstI (nI a) v.2.1) v.2.2
/-- the class's cells in a round: S what was there before it, G0 the grounds of that time, F the reasons given so far -/
def CI (n : Nat) (rc : Int32) (S : Nat → Nat → Bool) (G0 : Nat → Int64) (u : GS) (F : Nat → Nat → Option V3) : Prop :=
  (∀ a c, a < n → c < 168 → bt (u.1 c) a = (S a c || (F a c).isSome)) ∧
  (∀ a c, n ≤ a → a < 32 → c < 168 → bt (u.1 c) a = false) ∧
  (∀ a c, a < n → c < 168 → u.2.1 (cod a c) = if S a c = true then G0 (cod a c) else match F a c with
    | some v => pkV rc a v
    | none => G0 (cod a c)) ∧
  (∀ x, (∀ a c, a < n → c < 168 → x ≠ cod a c) → u.2.1 x = G0 x) ∧
  (∀ a, a < n → (bt u.2.2 a = true ↔ ∃ c, c < 168 ∧ S a c = false ∧ (F a c).isSome = true)) ∧
  (∀ a, n ≤ a → a < 32 → bt u.2.2 a = false)
theorem CI.congr {n : Nat} {rc : Int32} {S : Nat → Nat → Bool} {G0 : Nat → Int64} {u : GS} {F F' : Nat → Nat → Option V3} (h : CI n rc S G0 u F) (e : ∀ a c, a < n → c < 168 → F a c = F' a c) : CI n rc S G0 u F' := by
  obtain ⟨h1, h2, h3, h4, h5, h6⟩ := h
  refine ⟨fun a c ha hc => by rw [h1 a c ha hc, e a c ha hc], h2, fun a c ha hc => by rw [h3 a c ha hc, e a c ha hc], h4, fun a ha => ?_, h6⟩
  rw [h5 a ha]
  exact ⟨fun ⟨c, q1, q2, q3⟩ => ⟨c, q1, q2, by rw [← e a c ha q1]; exact q3⟩, fun ⟨c, q1, q2, q3⟩ => ⟨c, q1, q2, by rw [e a c ha q1]; exact q3⟩⟩
theorem CI.give {n : Nat} {rc : Int32} {S : Nat → Nat → Bool} {G0 : Nat → Int64} {u : GS} {F : Nat → Nat → Option V3} (h : CI n rc S G0 u F) (hn : n ≤ 24) {cls : Int32} {col : Nat} (hcol : col < 168) (ax fcol sec : Int32) (hcls : ∀ a, n ≤ a → a < 32 → bt cls a = false) : CI n rc S G0 (gv n rc cls col ax fcol sec u) (fun a c => oo (F a c) (if c = col ∧ bt cls a = true then some (ax, fcol, sec) else none)) := by
  obtain ⟨h1, h2, h3, h4, h5, h6⟩ := h
  refine ⟨fun a c ha hc => ?_, fun a c ha ha2 hc => ?_, fun a c ha hc => ?_, fun x hx => ?_, fun a ha => ?_, fun a ha ha2 => ?_⟩
  · dsimp only
    rw [gv_bt (by omega), h1 a c ha hc]
    by_cases e : c = col ∧ bt cls a = true
    · rw [show (if c = col ∧ bt cls a = true then some (ax, fcol, sec) else (none : Option V3)) = some (ax, fcol, sec) from if_pos e, decide_eq_true e.1, e.2]
      cases S a c <;> cases F a c <;> rfl
    · rw [show (if c = col ∧ bt cls a = true then some (ax, fcol, sec) else (none : Option V3)) = none from if_neg e, oo_none]
      by_cases e1 : c = col
      · have e2 : bt cls a = false := by cases hb : bt cls a with | false => rfl | true => exact absurd ⟨e1, hb⟩ e
        rw [e2, Bool.and_false, Bool.or_false]
      · rw [decide_eq_false e1, Bool.false_and, Bool.or_false]
  · rw [gv_bt ha2, h2 a c ha ha2 hc, hcls a ha ha2, Bool.and_false]; rfl
  · dsimp only
    rw [gv_G hn hcol ha hc, h3 a c ha hc]
    by_cases e : c = col ∧ bt cls a = true
    · rw [show (if c = col ∧ bt cls a = true then some (ax, fcol, sec) else (none : Option V3)) = some (ax, fcol, sec) from if_pos e]
      obtain ⟨e1, e2⟩ := e
      subst e1
      cases hS : S a c with
      | true => rw [if_neg (fun q => by have q9 := q.2.2; rw [h1 a c ha hc, hS] at q9; cases q9), if_pos rfl, if_pos rfl]
      | false =>
        cases hF : F a c with
        | some v => rw [if_neg (fun q => by have q9 := q.2.2; rw [h1 a c ha hc, hS, hF] at q9; cases q9)]; rfl
        | none => rw [if_pos ⟨rfl, e2, by rw [h1 a c ha hc, hS, hF]; rfl⟩]; rfl
    · rw [show (if c = col ∧ bt cls a = true then some (ax, fcol, sec) else (none : Option V3)) = none from if_neg e, oo_none, if_neg (fun q => e ⟨q.1, q.2.1⟩)]
  · rw [gv_Go hn (fun a ha => hx a col ha hcol)]
    exact h4 x hx
  · dsimp only
    rw [gv_ga (by omega), h1 a col ha hcol]
    constructor
    · intro q
      cases hg : bt u.2.2 a with
      | true =>
        obtain ⟨c, q1, q2, q3⟩ := (h5 a ha).mp hg
        refine ⟨c, q1, q2, ?_⟩
        cases hF : F a c with
        | some v => rfl
        | none => rw [hF] at q3; cases q3
      | false =>
        rw [hg, Bool.false_or] at q
        cases hcl : bt cls a with
        | false => rw [hcl] at q; cases q
        | true =>
          cases hS : S a col with
          | true => rw [hcl, hS] at q; cases q
          | false =>
            refine ⟨col, hcol, hS, ?_⟩
            rw [if_pos ⟨rfl, rfl⟩]
            cases F a col <;> rfl
    · intro ⟨c, q1, q2, q3⟩
      cases hF : F a c with
      | some v => rw [(h5 a ha).mpr ⟨c, q1, q2, by rw [hF]; rfl⟩]; rfl
      | none =>
        rw [hF] at q3
        by_cases e : c = col ∧ bt cls a = true
        · obtain ⟨e1, e2⟩ := e
          subst e1
          rw [e2, q2, hF]
          cases bt u.2.2 a <;> rfl
        · rw [if_neg e] at q3; cases q3
  · rw [gv_ga ha2, h6 a ha ha2, hcls a ha ha2]; rfl
