/-! what a pass of the model gives, said by the same function F -/
def at4 (x : MS) (z : Nat) : Int32 × Int32 × Int32 × Int32 := (x.1 z, x.2.1 z, x.2.2.1 z, x.2.2.2.1 z)
def seV (v : V3) : Int32 := if v.2.2 = nI 4095 then (-1) else v.2.2
def v4 (t a : Nat) (v : V3) : Int32 × Int32 × Int32 × Int32 := (nI t, v.1, fstI (nI a) v.2.1, seV v)
def MJ (n t : Nat) (S : Nat → Nat → Bool) (m0 x : MS) (F : Nat → Nat → Option V3) : Prop :=
  (∀ a c, a < n → c < 168 → at4 x (cod a c) = if S a c = true then at4 m0 (cod a c) else match F a c with
    | some v => v4 t a v
    | none => at4 m0 (cod a c)) ∧
  (∀ z, (∀ a c, a < n → c < 168 → z ≠ cod a c) → at4 x z = at4 m0 z)
def upF (F : Nat → Nat → Option V3) (a0 : Nat) (X : Nat → Option V3) : Nat → Nat → Option V3 := fun a c => if a = a0 then oo (F a c) (X c) else F a c
theorem upF_self (F : Nat → Nat → Option V3) (a0 : Nat) (X : Nat → Option V3) (c : Nat) : upF F a0 X a0 c = oo (F a0 c) (X c) := if_pos rfl
theorem upF_ne {F : Nat → Nat → Option V3} {a0 : Nat} {X : Nat → Option V3} {a c : Nat} (h : a ≠ a0) : upF F a0 X a c = F a c := if_neg h
theorem upF_up (F : Nat → Nat → Option V3) (a0 : Nat) (X Y : Nat → Option V3) : upF (upF F a0 X) a0 Y = upF F a0 (fun c => oo (X c) (Y c)) := by
  funext a c
  unfold upF
  by_cases h : a = a0
  · rw [if_pos h, if_pos h, if_pos h, oo_assoc]
  · rw [if_neg h, if_neg h, if_neg h]
theorem upF_none (F : Nat → Nat → Option V3) (a0 : Nat) : upF F a0 (fun _ => none) = F := by
  funext a c
  unfold upF
  split
  · rw [oo_none]
  · rfl
theorem at4_set (rd : Int32) (c : Nat) (why : Int32) (fi : Nat) (se : Int32) (x : MS) (md : Int32) (z : Nat) : at4 (mSet rd c why fi se x md) z = if z = c then (rd, why, nI fi, se) else at4 x z := by
  unfold at4 mSet
  by_cases h : z = c
  · subst h
    rw [if_pos rfl]
    show (upd _ _ _ _, upd _ _ _ _, upd _ _ _ _, upd _ _ _ _) = _
    rw [pk_us, pk_us, pk_us, pk_us]
  · rw [if_neg h]
    show (upd _ _ _ _, upd _ _ _ _, upd _ _ _ _, upd _ _ _ _) = _
    rw [pk_un h, pk_un h, pk_un h, pk_un h]
/-- a reason that stands before (k, f) -/
def Bel (v : V3) (k f : Nat) : Prop := (∃ k', k' < k ∧ v.1 = nI k') ∨ (v.1 = nI k ∧ ∃ f', f' < f ∧ v.2.1 = nI f')
theorem cod_mono {a f g : Nat} (ha : a < 24) (hg : g < 168) (h : f < g) : cod a f < cod a g := by
  unfold cod
  split <;> split <;> omega
theorem fstI_nI {a f : Nat} (hf : f < 168) : fstI (nI a) (nI f) = nI (cod a f) := by
  unfold fstI
  rw [if_neg (fun q => by have := (nI_eq (by omega) (by decide)).mp q; omega), codI_nat a (by omega)]
theorem bel_bet {v : V3} {k f a : Nat} {se s2 : Int32} (hk : k ≤ 100) (ha : a < 24) (hf : f < 168) (h : Bel v k f) : mBet (nI k) (nI (cod a f)) se v.1 (fstI (nI a) v.2.1) s2 = false := by
  apply decide_eq_false
  have hc := cod_lt ha hf
  rcases h with ⟨k', h1, h2⟩ | ⟨h1, f', h2, h3⟩
  · rw [h2]
    intro q
    rcases q with q | q
    · have := (nI_ltI (by omega) (by omega)).mp q
      omega
    · have := (nI_eq (by omega) (by omega)).mp q.1
      omega
  · rw [h1, h3, fstI_nI (by omega)]
    have hm := cod_mono ha hf h2
    intro q
    rcases q with q | q
    · exact Int32.lt_irrefl q
    · rcases q.2 with q2 | q2
      · have := (nI_ltI (by omega) (by omega)).mp q2
        omega
      · have := (nI_eq (by omega) (by omega)).mp q2.1
        omega
section MJS
variable {n t : Nat} {S : Nat → Nat → Bool} {m0 : MS}
theorem MJ.swap {x : MS} {F F' : Nat → Nat → Option V3} (h : MJ n t S m0 x F) (e : ∀ a c, a < n → c < 168 → S a c = false → F a c = F' a c) : MJ n t S m0 x F' := by
  refine ⟨fun a c ha hc => ?_, h.2⟩
  rw [h.1 a c ha hc]
  cases hS : S a c with
  | true => rw [if_pos rfl, if_pos rfl]
  | false => rw [e a c ha hc hS]
theorem MJ.has {x : MS} {F : Nat → Nat → Option V3} (h : MJ n t S m0 x F) (ht : t < 2 ^ 31) (h0 : ∀ a c, a < n → c < 168 → mHas m0.1 (nI t) (cod a c) = S a c) {a c : Nat} (ha : a < n) (hc : c < 168) : mHas x.1 (nI t) (cod a c) = S a c := by
  have h1 := h.1 a c ha hc
  cases hS : S a c with
  | true =>
    rw [hS, if_pos rfl] at h1
    have h2 : x.1 (cod a c) = m0.1 (cod a c) := congrArg (fun p => p.1) h1
    have h3 := h0 a c ha hc
    rw [hS] at h3
    unfold mHas at h3 ⊢
    rw [h2]
    exact h3
  | false =>
    rw [hS, if_neg (by decide)] at h1
    cases hF : F a c with
    | some v =>
      rw [hF] at h1
      have h2 : x.1 (cod a c) = nI t := congrArg (fun p => p.1) h1
      exact mHas_g (by rw [h2]; exact Int32.le_refl _)
    | none =>
      rw [hF] at h1
      have h2 : x.1 (cod a c) = m0.1 (cod a c) := congrArg (fun p => p.1) h1
      have h3 := h0 a c ha hc
      rw [hS] at h3
      unfold mHas at h3 ⊢
      rw [h2]
      exact h3
theorem MJ.give {x : MS} {F : Nat → Nat → Option V3} (h : MJ n t S m0 x F) (hn : n ≤ 24) (ht : t < 2 ^ 31) (h0 : ∀ a c, a < n → c < 168 → mHas m0.1 (nI t) (cod a c) = S a c) (h00 : ∀ a c, a < n → c < 168 → S a c = false → m0.1 (cod a c) < 0)
    {a0 col f k : Nat} {se sc : Int32} {q : Bool} (ha0 : a0 < n) (hcol : col < 168) (hf : f < 168) (hk : k ≤ 100) (hse : (se = (-1) ∧ sc = nI 4095 ∧ q = true) ∨ (∃ y c2, y < n ∧ c2 < 168 ∧ se = nI (cod y c2) ∧ sc = se ∧ q = S y c2)) (hb : ∀ v, F a0 col = some v → Bel v k f) :
    MJ n t S m0 (mG (nI t) (cod a0 col) (nI k) (cod a0 f) se x) (upF F a0 (fun c => if c = col ∧ (S a0 f && q) = true then some (nI k, nI f, sc) else none)) := by
  have hok : mOK x.1 (nI t) (cod a0 col) (cod a0 f) se = (S a0 f && q && !S a0 col) := by
    unfold mOK
    rw [h.has ht h0 ha0 hf, h.has ht h0 ha0 hcol]
    rcases hse with ⟨e1, -, e3⟩ | ⟨y, c2, hy, hc2, e1, -, e3⟩
    · rw [e1, e3, decide_eq_true (by decide)]; rfl
    · have hl := cod_lt (show y < 24 by omega) hc2
      rw [e1, e3, decide_eq_false (nI_pos (by omega)), tn_nI (by omega), h.has ht h0 hy hc2]; rfl
  have hsc : (if sc = nI 4095 then (-1) else sc) = se := by
    rcases hse with ⟨e1, e2, -⟩ | ⟨y, c2, hy, hc2, e1, e2, -⟩
    · rw [e2, if_pos rfl, e1]
    · have hl := cod_lt (show y < 24 by omega) hc2
      rw [e2, e1, if_neg (fun q => by have := (nI_eq (by omega) (by decide)).mp q; omega)]
  by_cases hP : (S a0 f && q) = true
  · cases hS : S a0 col with
    | true =>
      rw [mG_no (by rw [hok, hS]; simp)]
      refine h.swap (fun a c ha hc hSf => ?_)
      by_cases e : a = a0
      · subst e
        rw [upF_self]
        by_cases e2 : c = col
        · subst e2; rw [hS] at hSf; cases hSf
        · rw [if_neg (fun q => e2 q.1), oo_none]
      · rw [upF_ne e]
    | false =>
      have hok1 : mOK x.1 (nI t) (cod a0 col) (cod a0 f) se = true := by rw [hok, hP, hS]; rfl
      have h1 := h.1 a0 col ha0 hcol
      rw [hS, if_neg (by decide)] at h1
      cases hF : F a0 col with
      | some v =>
        rw [hF] at h1
        have r1 : x.1 (cod a0 col) = nI t := congrArg (fun p => p.1) h1
        have r2 : x.2.1 (cod a0 col) = v.1 := congrArg (fun p => p.2.1) h1
        have r3 : x.2.2.1 (cod a0 col) = fstI (nI a0) v.2.1 := congrArg (fun p => p.2.2.1) h1
        rw [mG_nb hok1 (by rw [r1]; exact nI_pos ht) (by rw [r2, r3]; exact bel_bet hk (by omega) hf (hb v hF))]
        refine h.swap (fun a c ha hc hSf => ?_)
        by_cases e : a = a0
        · subst e
          rw [upF_self]
          by_cases e2 : c = col
          · subst e2; rw [hF]; rfl
          · rw [if_neg (fun q => e2 q.1), oo_none]
        · rw [upF_ne e]
      | none =>
        rw [hF] at h1
        have r1 : x.1 (cod a0 col) = m0.1 (cod a0 col) := congrArg (fun p => p.1) h1
        rw [mG_fr hok1 (by rw [r1]; exact h00 a0 col ha0 hcol hS)]
        refine ⟨fun a c ha hc => ?_, fun z hz => ?_⟩
        · rw [at4_set]
          by_cases e : a = a0 ∧ c = col
          · obtain ⟨e1, e2⟩ := e
            subst e1
            subst e2
            rw [if_pos rfl, hS, if_neg (by decide), upF_self, hF, oo_n, if_pos ⟨rfl, hP⟩]
            show _ = (nI t, nI k, fstI (nI a) (nI f), if sc = nI 4095 then (-1) else sc)
            rw [fstI_nI hf, hsc]
          · rw [if_neg (fun q => e (cod_inj hc hcol (by omega) (by omega) q)), h.1 a c ha hc]
            by_cases e1 : a = a0
            · subst e1
              rw [upF_self, if_neg (c := c = col ∧ (S a f && q) = true) (fun q2 => e ⟨rfl, q2.1⟩), oo_none]
            · rw [upF_ne e1]
        · rw [at4_set, if_neg (hz a0 col ha0 hcol)]
          exact h.2 z hz
  · have hPf : (S a0 f && q) = false := by cases hb : (S a0 f && q) with | false => rfl | true => exact absurd hb hP
    rw [mG_no (by rw [hok, hPf]; rfl)]
    refine h.swap (fun a c ha hc _ => ?_)
    by_cases e : a = a0
    · subst e
      rw [upF_self, if_neg (fun q => hP q.2), oo_none]
    · rw [upF_ne e]
end MJS
