/-! the candidates of an axiom, and what the class's methods of a round do to F -/
def lst (P : Nat → Bool) : Nat → Option Nat
  | 0 => none
  | i + 1 => match lst P i with
    | some y => some y
    | none => if P i = true then some i else none
def lm (P : Nat → Bool) (g : Nat → V3) (i : Nat) : Option V3 := (lst P i).map g
theorem lm_0 (P : Nat → Bool) (g : Nat → V3) : lm P g 0 = none := rfl
theorem lm_s (P : Nat → Bool) (g : Nat → V3) (i : Nat) : lm P g (i + 1) = oo (lm P g i) (if P i = true then some (g i) else none) := by
  unfold lm
  show Option.map g (match lst P i with | some y => some y | none => if P i = true then some i else none) = _
  cases lst P i with
  | some y => rfl
  | none =>
    show Option.map g (if P i = true then some i else none) = (if P i = true then some (g i) else none)
    split <;> rfl
theorem lst_lt {P : Nat → Bool} : ∀ {i y : Nat}, lst P i = some y → y < i ∧ P y = true
  | 0, _, h => by cases h
  | i + 1, y, h => by
    have h' : (match lst P i with | some y => some y | none => if P i = true then some i else none) = some y := h
    cases hl : lst P i with
    | some z =>
      rw [hl] at h'
      have := lst_lt (P := P) hl
      cases h'
      exact ⟨by omega, this.2⟩
    | none =>
      rw [hl] at h'
      by_cases e : P i = true
      · have h2 : (if P i = true then some i else none) = some y := h'
        rw [if_pos e] at h2
        cases h2
        exact ⟨by omega, e⟩
      · have h2 : (if P i = true then some i else none) = some y := h'
        rw [if_neg e] at h2
        cases h2
/-- the candidates of axiom k for (a, c): the first -/
def cK (S : Nat → Nat → Bool) (n k : Nat) (kd : Int32) (A B C a c : Nat) : Option V3 :=
  if kd = nI 1 then (if c = B ∧ S a A = true then some (nI k, nI A, nI 4095) else none)
  else if kd = nI 2 then (if c = C ∧ S a A = true ∧ S a B = true then some (nI k, nI A, nI (cod a B)) else none)
  else if kd = nI 3 then (if c = lcol B C ∧ S a A = true then some (nI k, nI A, nI 4095) else none)
  else if kd = nI 4 then (if c = C then lm (fun y => S a (lcol A y) && S y B) (fun y => (nI k, nI (lcol A y), nI (cod y B))) n else none)
  else if kd = nI 5 then lm (fun y => decide (c = lcol B y) && S a (lcol A y)) (fun y => (nI k, nI (lcol A y), nI 4095)) n
  else if kd = nI 6 then (match lst (fun z => decide (c = lcol C z)) n with
    | some z => lm (fun y => S a (lcol A y) && S y (lcol B z)) (fun y => (nI k, nI (lcol A y), nI (cod y (lcol B z)))) n
    | none => none)
  else none
theorem CI.swap {n : Nat} {rc : Int32} {S : Nat → Nat → Bool} {G0 : Nat → Int64} {u : GS} {F F' : Nat → Nat → Option V3} (h : CI n rc S G0 u F) (e : ∀ a c, a < n → c < 168 → S a c = false → F a c = F' a c) : CI n rc S G0 u F' := by
  obtain ⟨h1, h2, h3, h4, h5, h6⟩ := h
  refine ⟨fun a c ha hc => ?_, h2, fun a c ha hc => ?_, h4, fun a ha => ?_, h6⟩
  · rw [h1 a c ha hc]
    cases hS : S a c with
    | true => rfl
    | false => rw [e a c ha hc hS]
  · rw [h3 a c ha hc]
    cases hS : S a c with
    | true => rw [if_pos rfl, if_pos rfl]
    | false => rw [e a c ha hc hS]
  · rw [h5 a ha]
    exact ⟨fun ⟨c, q1, q2, q3⟩ => ⟨c, q1, q2, by rw [← e a c ha q1 q2]; exact q3⟩, fun ⟨c, q1, q2, q3⟩ => ⟨c, q1, q2, by rw [e a c ha q1 q2]; exact q3⟩⟩
section CI2
variable {n : Nat} {rc : Int32} {S : Nat → Nat → Bool} {G0 : Nat → Int64} {B : Nat → Int32}
theorem CI.wh (hn : n ≤ 24) (hB : ∀ a c, a < n → c < 168 → bt (B c) a = S a c) (hB2 : ∀ a c, n ≤ a → a < 32 → c < 168 → bt (B c) a = false) {r kt tgt : Nat} (hr : r < 6) (hk : kt < 168) (ht : tgt < 168) (ax : Int32) {u : GS} {F : Nat → Nat → Option V3} (h : CI n rc S G0 u F) :
    ∀ i, i ≤ n → CI n rc S G0 (gvWh n rc B ax r kt tgt u i) (fun a c => oo (F a c) (if c = tgt then lm (fun y => S a (lcol r y) && S y kt) (fun y => (ax, nI (lcol r y), nI (cod y kt))) i else none))
  | 0, _ => h.congr (fun a c _ _ => by
      (try dsimp only)
      rw [lm_0]
      split <;> rw [oo_none])
  | i + 1, hi => by
    have ih := CI.wh hn hB hB2 hr hk ht ax h i (by omega)
    have hb : inB (nI i) (B kt) = S i kt := by rw [inB_bt (by omega), hB i kt (by omega) hk]
    cases hS : S i kt with
    | true =>
      rw [gvWh_t (by rw [hb, hS])]
      refine (ih.give hn ht ax (nI (lcol r i)) (nI (cod i kt)) (fun a ha ha2 => hB2 a _ ha ha2 (lcol_lt hr (by omega)))).congr (fun a c ha hc => ?_)
      (try dsimp only)
      rw [hB a (lcol r i) ha (lcol_lt hr (by omega)), oo_assoc]
      congr 1
      by_cases e : c = tgt
      · rw [if_pos e, if_pos e, lm_s]
        congr 1
        (try dsimp only)
        rw [hS, Bool.and_true]
        by_cases e2 : S a (lcol r i) = true
        · rw [if_pos ⟨e, e2⟩, if_pos e2]
        · rw [if_neg (fun q => e2 q.2), if_neg e2]
      · rw [if_neg e, if_neg e, if_neg (fun q => e q.1)]; rfl
    | false =>
      rw [gvWh_f (by rw [hb, hS])]
      refine ih.congr (fun a c ha hc => ?_)
      (try dsimp only)
      congr 1
      by_cases e : c = tgt
      · rw [if_pos e, if_pos e, lm_s]
        (try dsimp only)
        rw [hS, Bool.and_false, if_neg (by decide), oo_none]
      · rw [if_neg e, if_neg e]
theorem CI.ro (hn : n ≤ 24) (hB : ∀ a c, a < n → c < 168 → bt (B c) a = S a c) (hB2 : ∀ a c, n ≤ a → a < 32 → c < 168 → bt (B c) a = false) {r s0 : Nat} (hr : r < 6) (hs : s0 < 6) (ax : Int32) {u : GS} {F : Nat → Nat → Option V3} (h : CI n rc S G0 u F) :
    ∀ i, i ≤ n → CI n rc S G0 (gvRo n rc B ax r s0 u i) (fun a c => oo (F a c) (lm (fun y => decide (c = lcol s0 y) && S a (lcol r y)) (fun y => (ax, nI (lcol r y), nI 4095)) i))
  | 0, _ => h.congr (fun a c _ _ => by (try dsimp only); rw [lm_0, oo_none])
  | i + 1, hi => by
    have ih := CI.ro hn hB hB2 hr hs ax h i (by omega)
    show CI n rc S G0 (gv n rc (B (lcol r i)) (lcol s0 i) ax (nI (lcol r i)) (nI 4095) (gvRo n rc B ax r s0 u i)) _
    refine (ih.give hn (lcol_lt hs (by omega)) ax (nI (lcol r i)) (nI 4095) (fun a ha ha2 => hB2 a _ ha ha2 (lcol_lt hr (by omega)))).congr (fun a c ha hc => ?_)
    (try dsimp only)
    rw [hB a (lcol r i) ha (lcol_lt hr (by omega)), oo_assoc, lm_s]
    congr 2
    (try dsimp only)
    by_cases e : c = lcol s0 i
    · rw [decide_eq_true e, Bool.true_and]
      by_cases e2 : S a (lcol r i) = true
      · rw [if_pos ⟨e, e2⟩, if_pos e2]
      · rw [if_neg (fun q => e2 q.2), if_neg e2]
    · rw [decide_eq_false e, Bool.false_and, if_neg (fun q => e q.1), if_neg (by decide)]
theorem CI.both (hn : n ≤ 24) (hB : ∀ a c, a < n → c < 168 → bt (B c) a = S a c) {one other tgt : Nat} (h1 : one < 168) (h2 : other < 168) (h3 : tgt < 168) (ax : Int32) {u : GS} {F : Nat → Nat → Option V3} (h : CI n rc S G0 u F) :
    CI n rc S G0 (gvBoth n rc B ax one other tgt u) (fun a c => oo (F a c) (if c = tgt ∧ S a one = true ∧ S a other = true then some (ax, nI one, nI (cod a other)) else none)) := by
  have fb : ∀ a, a < n → bt (frs (B one &&& B other) (u.1 tgt)) a = (S a one && S a other && !(S a tgt || (F a tgt).isSome)) := fun a ha => by
    rw [frs_bt (by omega), b_and, hB a one ha h1, hB a other ha h2, h.1 a tgt ha h3]
  have lp : ∀ i, i ≤ n → CI n rc S G0 (gvBl n rc ax (frs (B one &&& B other) (u.1 tgt)) one other tgt u i) (fun a c => oo (F a c) (if c = tgt ∧ a < i ∧ bt (frs (B one &&& B other) (u.1 tgt)) a = true then some (ax, nI one, nI (cod a other)) else none)) := by
    intro i
    induction i with
    | zero => exact fun _ => h.congr (fun a c _ _ => by (try dsimp only); rw [if_neg (fun q => absurd q.2.1 (Nat.not_lt_zero a)), oo_none])
    | succ i ih =>
      intro hi
      have ih := ih (by omega)
      have hb : inB (nI i) (frs (B one &&& B other) (u.1 tgt)) = bt (frs (B one &&& B other) (u.1 tgt)) i := inB_bt (by omega) _
      cases hf : bt (frs (B one &&& B other) (u.1 tgt)) i with
      | true =>
        rw [gvBl_t (by rw [hb, hf])]
        refine (ih.give hn h3 ax (nI one) (nI (cod i other)) (fun a ha ha2 => by rw [bitI_bt i (by omega) a ha2, decide_eq_false (by omega)])).congr (fun a c ha hc => ?_)
        (try dsimp only)
        rw [oo_assoc, bitI_bt i (by omega) a (by omega)]
        congr 1
        by_cases e : c = tgt
        · by_cases e2 : a = i
          · subst e2
            rw [if_neg (fun q => absurd q.2.1 (Nat.lt_irrefl a)), if_pos ⟨e, decide_eq_true rfl⟩, if_pos ⟨e, Nat.lt_succ_self a, hf⟩]; rfl
          · rw [if_neg (c := c = tgt ∧ decide (a = i) = true) (fun q => e2 (of_decide_eq_true q.2)), oo_none]
            by_cases e3 : a < i ∧ bt (frs (B one &&& B other) (u.1 tgt)) a = true
            · rw [if_pos ⟨e, e3⟩, if_pos ⟨e, by omega, e3.2⟩]
            · rw [if_neg (fun q => e3 q.2), if_neg (fun q => e3 ⟨by omega, q.2.2⟩)]
        · rw [if_neg (fun q => e q.1), if_neg (fun q => e q.1), if_neg (fun q => e q.1)]; rfl
      | false =>
        rw [gvBl_f (by rw [hb, hf])]
        refine ih.congr (fun a c ha hc => ?_)
        (try dsimp only)
        congr 1
        by_cases e3 : c = tgt ∧ a < i ∧ bt (frs (B one &&& B other) (u.1 tgt)) a = true
        · rw [if_pos e3, if_pos ⟨e3.1, by omega, e3.2.2⟩]
        · rw [if_neg e3, if_neg (fun q => e3 ⟨q.1, by
            by_cases e4 : a = i
            · subst e4; rw [hf] at q; exact absurd q.2.2 (by decide)
            · omega, q.2.2⟩)]
  -- where (a, tgt) is there already, F's word stands or S's does
  have fin : ∀ a c, a < n → c < 168 → S a c = false → oo (F a c) (if c = tgt ∧ a < n ∧ bt (frs (B one &&& B other) (u.1 tgt)) a = true then some (ax, nI one, nI (cod a other)) else none) = oo (F a c) (if c = tgt ∧ S a one = true ∧ S a other = true then some (ax, nI one, nI (cod a other)) else none) := by
    intro a c ha hc hS
    cases hF : F a c with
    | some v => rfl
    | none =>
      congr 1
      by_cases e : c = tgt
      · subst e
        rw [fb a ha, hS, hF]
        by_cases e2 : S a one = true ∧ S a other = true
        · rw [if_pos ⟨rfl, ha, by rw [e2.1, e2.2]; rfl⟩, if_pos ⟨rfl, e2⟩]
        · rw [if_neg (fun q => e2 (by
            have q9 := q.2.2
            cases h8 : S a one <;> cases h9 : S a other <;> rw [h8, h9] at q9 <;> first | exact ⟨rfl, rfl⟩ | cases q9)), if_neg (fun q => e2 q.2)]
      · rw [if_neg (fun q => e q.1), if_neg (fun q => e q.1)]
  have key : CI n rc S G0 (gvBoth n rc B ax one other tgt u) (fun a c => oo (F a c) (if c = tgt ∧ a < n ∧ bt (frs (B one &&& B other) (u.1 tgt)) a = true then some (ax, nI one, nI (cod a other)) else none)) := by
    by_cases e : frs (B one &&& B other) (u.1 tgt) = 0
    · rw [gvBoth_e e]
      exact h.congr (fun a c _ _ => by (try dsimp only); rw [if_neg (fun q => by have q9 := q.2.2; rw [e, b_0] at q9; cases q9), oo_none])
    · rw [gvBoth_n e]
      exact lp n (Nat.le_refl n)
  exact key.swap fin
theorem CI.chain (hn : n ≤ 24) (hB : ∀ a c, a < n → c < 168 → bt (B c) a = S a c) (hB2 : ∀ a c, n ≤ a → a < 32 → c < 168 → bt (B c) a = false) {r s0 t0 : Nat} (hr : r < 6) (hs : s0 < 6) (ht : t0 < 6) (ax : Int32) {u : GS} {F : Nat → Nat → Option V3} (h : CI n rc S G0 u F) :
    ∀ z, z ≤ n → CI n rc S G0 (gvC n rc B ax r s0 t0 u z) (fun a c => oo (F a c) (match lst (fun z => decide (c = lcol t0 z)) z with
      | some w => lm (fun y => S a (lcol r y) && S y (lcol s0 w)) (fun y => (ax, nI (lcol r y), nI (cod y (lcol s0 w)))) n
      | none => none))
  | 0, _ => h.congr (fun a c _ _ => by (try dsimp only [lst]); rw [oo_none])
  | z + 1, hz => by
    have ih := CI.chain hn hB hB2 hr hs ht ax h z (by omega)
    have inn : ∀ {v : GS} {F1 : Nat → Nat → Option V3}, CI n rc S G0 v F1 → ∀ i, i ≤ n → CI n rc S G0 (gvCi n rc B ax r s0 t0 z v i) (fun a c => oo (F1 a c) (if c = lcol t0 z then lm (fun y => S a (lcol r y) && S y (lcol s0 z)) (fun y => (ax, nI (lcol r y), nI (cod y (lcol s0 z)))) i else none)) := by
      intro v F1 hv i
      induction i with
      | zero => exact fun _ => hv.congr (fun a c _ _ => by (try dsimp only); rw [lm_0]; split <;> rw [oo_none])
      | succ i ih =>
        intro hi
        have ih := ih (by omega)
        have hb : inB (nI i) (B (lcol s0 z)) = S i (lcol s0 z) := by rw [inB_bt (by omega), hB i _ (by omega) (lcol_lt hs (by omega))]
        cases hS : S i (lcol s0 z) with
        | true =>
          rw [gvCi_t (by rw [hb, hS])]
          refine (ih.give hn (lcol_lt ht (by omega)) ax (nI (lcol r i)) (nI (cod i (lcol s0 z))) (fun a ha ha2 => hB2 a _ ha ha2 (lcol_lt hr (by omega)))).congr (fun a c ha hc => ?_)
          (try dsimp only)
          rw [hB a (lcol r i) ha (lcol_lt hr (by omega)), oo_assoc]
          congr 1
          by_cases e : c = lcol t0 z
          · rw [if_pos e, if_pos e, lm_s]
            congr 1
            (try dsimp only)
            rw [hS, Bool.and_true]
            by_cases e2 : S a (lcol r i) = true
            · rw [if_pos ⟨e, e2⟩, if_pos e2]
            · rw [if_neg (fun q => e2 q.2), if_neg e2]
          · rw [if_neg e, if_neg e, if_neg (fun q => e q.1)]; rfl
        | false =>
          rw [gvCi_f (by rw [hb, hS])]
          refine ih.congr (fun a c ha hc => ?_)
          (try dsimp only)
          congr 1
          by_cases e : c = lcol t0 z
          · rw [if_pos e, if_pos e, lm_s]
            (try dsimp only)
            rw [hS, Bool.and_false, if_neg (by decide), oo_none]
          · rw [if_neg e, if_neg e]
    -- the two words for the prefix of columns
    have wd : ∀ a c, (match lst (fun z => decide (c = lcol t0 z)) (z + 1) with
        | some w => lm (fun y => S a (lcol r y) && S y (lcol s0 w)) (fun y => (ax, nI (lcol r y), nI (cod y (lcol s0 w)))) n
        | none => none) = oo (match lst (fun z => decide (c = lcol t0 z)) z with
        | some w => lm (fun y => S a (lcol r y) && S y (lcol s0 w)) (fun y => (ax, nI (lcol r y), nI (cod y (lcol s0 w)))) n
        | none => none) (if c = lcol t0 z then lm (fun y => S a (lcol r y) && S y (lcol s0 z)) (fun y => (ax, nI (lcol r y), nI (cod y (lcol s0 z)))) n else none) := by
      intro a c
      have e1 : lst (fun z => decide (c = lcol t0 z)) (z + 1) = match lst (fun z => decide (c = lcol t0 z)) z with | some y => some y | none => if decide (c = lcol t0 z) = true then some z else none := rfl
      rw [e1]
      cases hl : lst (fun z => decide (c = lcol t0 z)) z with
      | some w =>
        have h9 := lst_lt hl
        have h8 : c = lcol t0 w := of_decide_eq_true h9.2
        rw [if_neg (c := c = lcol t0 z) (fun q => by rw [h8] at q; unfold lcol at q; omega), oo_none]
      | none =>
        by_cases e : c = lcol t0 z
        · rw [if_pos e]
          show (match (if decide (c = lcol t0 z) = true then some z else none) with | some w => _ | none => none) = _
          rw [if_pos (decide_eq_true e)]
          rfl
        · rw [if_neg e]
          show (match (if decide (c = lcol t0 z) = true then some z else none) with | some w => _ | none => none) = _
          rw [if_neg (fun q => e (of_decide_eq_true q))]
          rfl
    by_cases e0 : B (lcol s0 z) = 0
    · rw [gvC_e e0]
      refine ih.congr (fun a c ha hc => ?_)
      (try dsimp only)
      rw [wd a c, ← oo_assoc]
      have no : lm (fun y => S a (lcol r y) && S y (lcol s0 z)) (fun y => (ax, nI (lcol r y), nI (cod y (lcol s0 z)))) n = none := by
        have : ∀ i, i ≤ n → lm (fun y => S a (lcol r y) && S y (lcol s0 z)) (fun y => (ax, nI (lcol r y), nI (cod y (lcol s0 z)))) i = none := by
          intro i
          induction i with
          | zero => exact fun _ => rfl
          | succ i ih2 =>
            intro hi
            rw [lm_s, ih2 (by omega)]
            (try dsimp only)
            rw [← hB i (lcol s0 z) (by omega) (lcol_lt hs (by omega)), e0, b_0, Bool.and_false, if_neg (by decide)]
            rfl
        exact this n (Nat.le_refl n)
      rw [no, show (if c = lcol t0 z then (none : Option V3) else none) = none by split <;> rfl, oo_none]
    · rw [gvC_n e0]
      refine (inn ih n (Nat.le_refl n)).congr (fun a c ha hc => ?_)
      (try dsimp only)
      rw [wd a c, oo_assoc]
end CI2

/-- the reasons that the axioms below k give -/
def FA (S : Nat → Nat → Bool) (n : Nat) (Kd Aa Ab Ac : Nat → Int32) : Nat → Nat → Nat → Option V3
  | 0, _, _ => none
  | k + 1, a, c => oo (FA S n Kd Aa Ab Ac k a c) (cK S n k (Kd k) (tn (Aa k)) (tn (Ab k)) (tn (Ac k)) a c)
def FB (S : Nat → Nat → Bool) (n : Nat) (F : Nat → Nat → Option V3) : Nat → Nat → Nat → Option V3
  | 0, a, c => F a c
  | r + 1, a, c => oo (FB S n F r a c) (if c = 1 then lm (fun y => S a (lcol r y) && S y 1) (fun y => (nI 100, nI (lcol r y), nI (cod y 1))) n else none)
def full (S : Nat → Nat → Bool) (n cnt : Nat) (Kd Aa Ab Ac : Nat → Int32) : Nat → Nat → Option V3 := FB S n (FA S n Kd Aa Ab Ac cnt) 6
section CI3
variable {n : Nat} {rc : Int32} {S : Nat → Nat → Bool} {G0 : Nat → Int64} {B : Nat → Int32}
theorem CI.by (hn : n ≤ 24) (hB : ∀ a c, a < n → c < 168 → bt (B c) a = S a c) (hB2 : ∀ a c, n ≤ a → a < 32 → c < 168 → bt (B c) a = false) {k : Nat} {kd ia ib ic : Int32} (hax : axV n kd ia ib ic) {u : GS} {F : Nat → Nat → Option V3} (h : CI n rc S G0 u F) : CI n rc S G0 (byAx n rc B k kd (tn ia) (tn ib) (tn ic) u) (fun a c => oo (F a c) (cK S n k kd (tn ia) (tn ib) (tn ic) a c)) := by
  by_cases e1 : kd = nI 1
  · obtain ⟨⟨ja, hja, ea⟩, jb, hjb, eb⟩ := hax.1 e1
    subst e1
    rw [byAx_1 rfl, ea, eb, tn_nI (by omega), tn_nI (by omega)]
    refine (h.give hn (by omega) (nI k) (nI ja) (nI 4095) (fun a ha ha2 => hB2 a _ ha ha2 (by omega))).congr (fun a c ha hc => ?_)
    rw [hB a ja ha (by omega)]
    rfl
  by_cases e2 : kd = nI 2
  · obtain ⟨⟨ja, hja, ea⟩, ⟨jb, hjb, eb⟩, jc, hjc, ec⟩ := hax.2.1 e2
    subst e2
    rw [byAx_2 rfl, ea, eb, ec, tn_nI (by omega), tn_nI (by omega), tn_nI (by omega)]
    exact h.both hn hB (by omega) (by omega) (by omega) (nI k)
  by_cases e3 : kd = nI 3
  · obtain ⟨⟨ja, hja, ea⟩, ⟨jb, hjb, eb⟩, jc, hjc, ec⟩ := hax.2.2.1 e3
    subst e3
    rw [byAx_3 rfl, ea, eb, ec, tn_nI (by omega), tn_nI (by omega), tn_nI (by omega)]
    refine (h.give hn (lcol_lt hjb (by omega)) (nI k) (nI ja) (nI 4095) (fun a ha ha2 => hB2 a _ ha ha2 (by omega))).congr (fun a c ha hc => ?_)
    rw [hB a ja ha (by omega)]
    rfl
  by_cases e4 : kd = nI 4
  · obtain ⟨⟨ja, hja, ea⟩, ⟨jb, hjb, eb⟩, jc, hjc, ec⟩ := hax.2.2.2.1 e4
    subst e4
    rw [byAx_4 rfl, ea, eb, ec, tn_nI (by omega), tn_nI (by omega), tn_nI (by omega)]
    exact h.wh hn hB hB2 hja (by omega) (by omega) (nI k) n (Nat.le_refl n)
  by_cases e5 : kd = nI 5
  · obtain ⟨⟨ja, hja, ea⟩, jb, hjb, eb⟩ := hax.2.2.2.2.1 e5
    subst e5
    rw [byAx_5 rfl, ea, eb, tn_nI (by omega), tn_nI (by omega)]
    exact h.ro hn hB hB2 hja hjb (nI k) n (Nat.le_refl n)
  by_cases e6 : kd = nI 6
  · obtain ⟨⟨ja, hja, ea⟩, ⟨jb, hjb, eb⟩, jc, hjc, ec⟩ := hax.2.2.2.2.2.1 e6
    subst e6
    rw [byAx_6 rfl, ea, eb, ec, tn_nI (by omega), tn_nI (by omega), tn_nI (by omega)]
    exact h.chain hn hB hB2 hja hjb hjc (nI k) n (Nat.le_refl n)
  · rw [byAx_n e1 e2 e3 e4 e5 e6]
    refine h.congr (fun a c ha hc => ?_)
    unfold cK
    rw [if_neg e1, if_neg e2, if_neg e3, if_neg e4, if_neg e5, if_neg e6, oo_none]
theorem CI.axs (hn : n ≤ 24) (hB : ∀ a c, a < n → c < 168 → bt (B c) a = S a c) (hB2 : ∀ a c, n ≤ a → a < 32 → c < 168 → bt (B c) a = false) {Kd Aa Ab Ac : Nat → Int32} {cnt : Nat} (hax : ∀ k, k < cnt → axV n (Kd k) (Aa k) (Ab k) (Ac k)) {u : GS} (h : CI n rc S G0 u (fun _ _ => none)) : ∀ k, k ≤ cnt → CI n rc S G0 (fAx n rc B Kd Aa Ab Ac u k) (FA S n Kd Aa Ab Ac k)
  | 0, _ => h
  | k + 1, hk => (CI.axs hn hB hB2 hax h k (by omega)).by hn hB hB2 (hax k (by omega))
theorem CI.bot (hn : n ≤ 24) (hB : ∀ a c, a < n → c < 168 → bt (B c) a = S a c) (hB2 : ∀ a c, n ≤ a → a < 32 → c < 168 → bt (B c) a = false) {u : GS} {F : Nat → Nat → Option V3} (h : CI n rc S G0 u F) : ∀ r, r ≤ 6 → CI n rc S G0 (fBo n rc B u r) (FB S n F r)
  | 0, _ => h
  | r + 1, hr => (CI.bot hn hB hB2 h r (by omega)).wh hn hB hB2 (by omega) (by decide) (by decide) (nI 100) n (Nat.le_refl n)
/-- A ROUND OF THE CLASS -/
theorem CI.round (hn : n ≤ 24) {cnt : Nat} {Kd Aa Ab Ac : Nat → Int32} (hax : ∀ k, k < cnt → axV n (Kd k) (Aa k) (Ab k) (Ac k)) {x : FS} (hS : ∀ a c, a < n → c < 168 → bt (x.1.1 c) a = S a c) (hS2 : ∀ a c, n ≤ a → a < 32 → c < 168 → bt (x.1.1 c) a = false) : CI n (nI x.2.2.2) S x.1.2.1 (fGive n cnt Kd Aa Ab Ac x) (full S n cnt Kd Aa Ab Ac) := by
  have h0 : CI n (nI x.2.2.2) S x.1.2.1 (x.1.1, x.1.2.1, nI 0) (fun _ _ => none) := by
    refine ⟨fun a c ha hc => ?_, hS2, fun a c ha hc => ?_, fun _ _ => rfl, fun a ha => ?_, fun a _ _ => b_0 a⟩
    · show bt (x.1.1 c) a = _
      rw [hS a c ha hc]
      cases S a c <;> rfl
    · split <;> rfl
    · constructor
      · intro q
        have : bt 0 a = true := q
        rw [b_0] at this
        cases this
      · intro ⟨c, _, _, q⟩
        cases q
  exact (h0.axs hn hS hS2 hax cnt (Nat.le_refl cnt)).bot hn hS hS2 6 (Nat.le_refl 6)
end CI3
