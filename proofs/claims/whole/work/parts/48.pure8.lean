/-! round 0 of both, and the rounds' loops -/
def v0 : V3 := (nI 255, nI 4095, nI 4095)
def Fb (b : Bool) : Option V3 := if b = true then some v0 else none
theorem Fb_oo (b d : Bool) : oo (Fb b) (if d = true then some v0 else none) = Fb (b || d) := by cases b <;> cases d <;> rfl
theorem Fb_some (b : Bool) : (Fb b).isSome = b := by cases b <;> rfl
def i7 (Kd Aa : Nat → Int32) (a c : Nat) : Nat → Bool
  | 0 => false
  | k + 1 => i7 Kd Aa a c k || (decide (Kd k = nI 7) && decide (c = lcol (tn (Aa k)) a))
def iB (cnt : Nat) (Kd Aa : Nat → Int32) (a c : Nat) : Bool := decide (c = a) || decide (c = 0) || i7 Kd Aa a c cnt
def S0 : Nat → Nat → Bool := fun _ _ => false
section ZERO
variable {n : Nat} {G0 : Nat → Int64}
/-- a giving of round 0 -/
theorem CI.give0 {u : GS} {b : Nat → Nat → Bool} (h : CI n (nI 0) S0 G0 u (fun a c => Fb (b a c))) (hn : n ≤ 24) {i col : Nat} (hi : i < n) (hcol : col < 168) : CI n (nI 0) S0 G0 (gv n (nI 0) (bitI i) col (nI 255) (nI 4095) (nI 4095) u) (fun a c => Fb (b a c || (decide (c = col) && decide (a = i)))) := by
  refine (h.give hn hcol (nI 255) (nI 4095) (nI 4095) (fun a ha ha2 => by rw [bitI_bt i (by omega) a ha2, decide_eq_false (by omega)])).congr (fun a c ha hc => ?_)
  rw [bitI_bt i (by omega) a (by omega), ← Fb_oo]
  congr 1
  by_cases e : c = col
  · rw [decide_eq_true e, Bool.true_and]
    by_cases e2 : a = i
    · rw [decide_eq_true e2, if_pos ⟨e, rfl⟩, if_pos rfl]; rfl
    · rw [decide_eq_false e2, if_neg (fun q => absurd q.2 (by decide)), if_neg (by decide)]
  · rw [decide_eq_false e, Bool.false_and, if_neg (fun q => e q.1), if_neg (by decide)]
theorem CI.gv0 {u : GS} (h : CI n (nI 0) S0 G0 u (fun _ _ => Fb false)) (hn : n ≤ 24) : ∀ i, i ≤ n → CI n (nI 0) S0 G0 (gv0 n (nI 0) u i) (fun a c => Fb (decide (a < i) && (decide (c = a) || decide (c = 0))))
  | 0, _ => h.congr (fun a c _ _ => by rw [decide_eq_false (Nat.not_lt_zero a), Bool.false_and])
  | i + 1, hi => by
    have ih := CI.gv0 h hn i (by omega)
    refine ((ih.give0 hn (i := i) (col := i) (by omega) (by omega)).give0 hn (i := i) (col := 0) (by omega) (by decide)).congr (fun a c ha hc => ?_)
    congr 1
    by_cases e : a = i
    · subst e
      rw [decide_eq_false (Nat.lt_irrefl a), decide_eq_true (Nat.lt_succ_self a), decide_eq_true (rfl : a = a)]
      cases decide (c = a) <;> cases decide (c = 0) <;> rfl
    · rw [decide_eq_false e, Bool.and_false, Bool.and_false, Bool.or_false, Bool.or_false]
      by_cases e2 : a < i
      · rw [decide_eq_true e2, decide_eq_true (show a < i + 1 by omega)]
      · rw [decide_eq_false e2, decide_eq_false (show ¬ a < i + 1 by omega)]
theorem CI.it {u : GS} {b : Nat → Nat → Bool} (h : CI n (nI 0) S0 G0 u (fun a c => Fb (b a c))) (hn : n ≤ 24) {r : Nat} (hr : r < 6) : ∀ i, i ≤ n → CI n (nI 0) S0 G0 (gvIt n (nI 0) r u i) (fun a c => Fb (b a c || (decide (a < i) && decide (c = lcol r a))))
  | 0, _ => h.congr (fun a c _ _ => by rw [decide_eq_false (Nat.not_lt_zero a), Bool.false_and, Bool.or_false])
  | i + 1, hi => by
    have ih := CI.it h hn hr i (by omega)
    refine (ih.give0 hn (i := i) (col := lcol r i) (by omega) (lcol_lt hr (by omega))).congr (fun a c ha hc => ?_)
    congr 1
    rw [Bool.or_assoc]
    congr 1
    by_cases e : a = i
    · subst e
      rw [decide_eq_false (Nat.lt_irrefl a), decide_eq_true (Nat.lt_succ_self a), decide_eq_true (rfl : a = a)]
      cases decide (c = lcol r a) <;> rfl
    · rw [decide_eq_false e, Bool.and_false, Bool.or_false]
      by_cases e2 : a < i
      · rw [decide_eq_true e2, decide_eq_true (show a < i + 1 by omega)]
      · rw [decide_eq_false e2, decide_eq_false (show ¬ a < i + 1 by omega)]
theorem CI.gv7 {u : GS} {b : Nat → Nat → Bool} (h : CI n (nI 0) S0 G0 u (fun a c => Fb (b a c))) (hn : n ≤ 24) {cnt : Nat} {Kd Aa : Nat → Int32} (hax : ∀ k, k < cnt → Kd k = nI 7 → clV 6 (Aa k)) : ∀ k, k ≤ cnt → CI n (nI 0) S0 G0 (gv7 n (nI 0) Kd Aa u k) (fun a c => Fb (b a c || i7 Kd Aa a c k))
  | 0, _ => h.congr (fun a c _ _ => by show _ = Fb (b a c || false); rw [Bool.or_false])
  | k + 1, hk => by
    have ih := CI.gv7 h hn hax k (by omega)
    by_cases e : Kd k = nI 7
    · obtain ⟨r, hr, er⟩ := hax k (by omega) e
      rw [gv7_t e]
      refine (ih.it hn (r := tn (Aa k)) (by rw [er, tn_nI (by omega)]; exact hr) n (Nat.le_refl n)).congr (fun a c ha hc => ?_)
      congr 1
      show _ = (b a c || (i7 Kd Aa a c k || (decide (Kd k = nI 7) && decide (c = lcol (tn (Aa k)) a))))
      rw [decide_eq_true e, decide_eq_true ha, Bool.true_and, Bool.or_assoc]
    · rw [gv7_f e]
      refine ih.congr (fun a c ha hc => ?_)
      congr 1
      show _ = (b a c || (i7 Kd Aa a c k || (decide (Kd k = nI 7) && decide (c = lcol (tn (Aa k)) a))))
      rw [decide_eq_false e, Bool.false_and, Bool.or_false]
theorem CI.first (hn : n ≤ 24) {cnt : Nat} {Kd Aa : Nat → Int32} (hax : ∀ k, k < cnt → Kd k = nI 7 → clV 6 (Aa k)) : CI n (nI 0) S0 (fun _ => (-1)) (fFirst n cnt Kd Aa) (fun a c => Fb (iB cnt Kd Aa a c)) := by
  have h0 : CI n (nI 0) S0 (fun _ => (-1)) (fun _ => nI 0, fun _ => (-1), nI 0) (fun _ _ => Fb false) := by
    refine ⟨fun a c _ _ => b_0 a, fun a c _ _ _ => b_0 a, fun a c _ _ => rfl, fun _ _ => rfl, fun a _ => ⟨fun q => ?_, fun ⟨c, _, _, q⟩ => by cases q⟩, fun a _ _ => b_0 a⟩
    have : bt 0 a = true := q
    rw [b_0] at this
    cases this
  refine ((h0.gv0 hn n (Nat.le_refl n)).gv7 hn hax cnt (Nat.le_refl cnt)).congr (fun a c ha hc => ?_)
  congr 1
  rw [decide_eq_true ha, Bool.true_and]
  rfl
end ZERO
/-- the model's round 0 -/
def M0 (n : Nat) (b : Nat → Nat → Bool) (x : MS) : Prop := (∀ a c, a < n → c < 168 → (b a c = true → at4 x (cod a c) = (nI 0, (-1), (-1), (-1))) ∧ (b a c = false → x.1 (cod a c) = (-1))) ∧ ∀ z, (∀ a c, a < n → c < 168 → z ≠ cod a c) → x.1 z = (-1)
theorem M0.start {n : Nat} {b : Nat → Nat → Bool} {x : MS} (h : M0 n b x) (hn : n ≤ 24) {i col : Nat} (hi : i < n) (hcol : col < 168) : M0 n (fun a c => b a c || (decide (c = col) && decide (a = i))) (mStart (cod i col) x) := by
  obtain ⟨h1, h2⟩ := h
  have at4s : ∀ z, x.1 (cod i col) ≠ 0 → at4 (mStart (cod i col) x) z = if z = cod i col then (nI 0, (-1), (-1), (-1)) else at4 x z := by
    intro z hne
    rw [mStart_n hne]
    show (upd _ _ _ z, upd _ _ _ z, upd _ _ _ z, upd _ _ _ z) = _
    by_cases e : z = cod i col
    · rw [if_pos e, e, pk_us, pk_us, pk_us, pk_us]
    · rw [if_neg e, pk_un e, pk_un e, pk_un e, pk_un e]; rfl
  by_cases hb : b i col = true
  · have r := (h1 i col hi hcol).1 hb
    have r1 : x.1 (cod i col) = 0 := congrArg (fun p => p.1) r
    rw [mStart_e r1]
    refine ⟨fun a c ha hc => ?_, h2⟩
    have e9 : (b a c || (decide (c = col) && decide (a = i))) = b a c := by
      by_cases e1 : c = col
      · by_cases e2 : a = i
        · rw [e1, e2, hb]; rfl
        · rw [decide_eq_false e2, Bool.and_false, Bool.or_false]
      · rw [decide_eq_false e1, Bool.false_and, Bool.or_false]
    dsimp only
    rw [e9]
    exact h1 a c ha hc
  · have hb : b i col = false := by cases q : b i col with | false => rfl | true => exact absurd q hb
    have r1 := (h1 i col hi hcol).2 hb
    have hne : x.1 (cod i col) ≠ 0 := by rw [r1]; decide
    refine ⟨fun a c ha hc => ?_, fun z hz => ?_⟩
    · by_cases e : c = col ∧ a = i
      · obtain ⟨e1, e2⟩ := e
        subst e1
        subst e2
        refine ⟨fun _ => by rw [at4s _ hne, if_pos rfl], fun q => ?_⟩
        have q : (b a c || (decide (c = c) && decide (a = a))) = false := q
        rw [decide_eq_true (rfl : c = c), decide_eq_true (rfl : a = a), Bool.and_self, Bool.or_true] at q
        cases q
      · have e9 : (b a c || (decide (c = col) && decide (a = i))) = b a c := by
          by_cases e1 : c = col
          · rw [decide_eq_false (fun e2 => e ⟨e1, e2⟩), Bool.and_false, Bool.or_false]
          · rw [decide_eq_false e1, Bool.false_and, Bool.or_false]
        have en : at4 (mStart (cod i col) x) (cod a c) = at4 x (cod a c) := by rw [at4s _ hne, if_neg (fun q => e (by have := cod_inj hc hcol (by omega) (by omega) q; exact ⟨this.2, this.1⟩))]
        dsimp only
        rw [e9]
        refine ⟨fun q => by rw [en]; exact (h1 a c ha hc).1 q, fun q => ?_⟩
        rw [show (mStart (cod i col) x).1 (cod a c) = x.1 (cod a c) from congrArg (fun p => p.1) en]
        exact (h1 a c ha hc).2 q
    · have en : at4 (mStart (cod i col) x) z = at4 x z := by rw [at4s _ hne, if_neg (hz i col hi hcol)]
      rw [show (mStart (cod i col) x).1 z = x.1 z from congrArg (fun p => p.1) en]
      exact h2 z hz
theorem M0.congr {n : Nat} {b b' : Nat → Nat → Bool} {x : MS} (h : M0 n b x) (e : ∀ a c, a < n → c < 168 → b a c = b' a c) : M0 n b' x := ⟨fun a c ha hc => by rw [← e a c ha hc]; exact h.1 a c ha hc, h.2⟩
theorem M0.sk {n : Nat} {b : Nat → Nat → Bool} {x : MS} (h : M0 n b x) (hn : n ≤ 24) {i cnt : Nat} (hi : i < n) {Kd Aa Ax : Nat → Int32} (hAx : ∀ k, k < cnt → Kd k = Ax (4 * k) ∧ Aa k = Ax (4 * k + 1)) (hax : ∀ k, k < cnt → Kd k = nI 7 → clV 6 (Aa k)) : ∀ k, k ≤ cnt → M0 n (fun a c => b a c || (decide (a = i) && i7 Kd Aa a c k)) (mSk Ax i x k)
  | 0, _ => h.congr (fun a c _ _ => by show _ = (b a c || (decide (a = i) && false)); rw [Bool.and_false, Bool.or_false])
  | k + 1, hk => by
    have ih := M0.sk h hn hi hAx hax k (by omega)
    obtain ⟨a1, a2⟩ := hAx k (by omega)
    by_cases e : Kd k = nI 7
    · obtain ⟨r, hr, er⟩ := hax k (by omega) e
      rw [mSk_t (by rw [← a1]; exact e)]
      refine (ih.start hn hi (col := lcol (tn (Ax (4 * k + 1))) i) (by rw [← a2, er, tn_nI (by omega)]; exact lcol_lt hr (by omega))).congr (fun a c ha hc => ?_)
      show _ = (b a c || (decide (a = i) && (i7 Kd Aa a c k || (decide (Kd k = nI 7) && decide (c = lcol (tn (Aa k)) a)))))
      rw [decide_eq_true e, Bool.true_and, ← a2, Bool.or_assoc]
      congr 1
      by_cases e2 : a = i
      · rw [decide_eq_true e2, e2]
        cases i7 Kd Aa i c k <;> cases decide (c = lcol (tn (Aa k)) i) <;> rfl
      · rw [decide_eq_false e2, Bool.and_false]; rfl
    · rw [mSk_f (by rw [← a1]; exact e)]
      refine ih.congr (fun a c ha hc => ?_)
      show _ = (b a c || (decide (a = i) && (i7 Kd Aa a c k || (decide (Kd k = nI 7) && decide (c = lcol (tn (Aa k)) a)))))
      rw [decide_eq_false e, Bool.false_and, Bool.or_false]
theorem M0.sx {n : Nat} {x : MS} (h : M0 n (fun _ _ => false) x) (hn : n ≤ 24) {cnt : Nat} {Kd Aa Ax : Nat → Int32} (hAx : ∀ k, k < cnt → Kd k = Ax (4 * k) ∧ Aa k = Ax (4 * k + 1)) (hax : ∀ k, k < cnt → Kd k = nI 7 → clV 6 (Aa k)) : ∀ i, i ≤ n → M0 n (fun a c => decide (a < i) && iB cnt Kd Aa a c) (mSx cnt Ax x i)
  | 0, _ => h.congr (fun a c _ _ => by rw [decide_eq_false (Nat.not_lt_zero a), Bool.false_and])
  | i + 1, hi => by
    have ih := M0.sx h hn hAx hax i (by omega)
    refine (((ih.start hn (i := i) (col := i) (by omega) (by omega)).start hn (i := i) (col := 0) (by omega) (by decide)).sk hn (i := i) (by omega) hAx hax cnt (Nat.le_refl cnt)).congr (fun a c ha hc => ?_)
    by_cases e : a = i
    · subst e
      rw [decide_eq_false (Nat.lt_irrefl a), decide_eq_true (Nat.lt_succ_self a), decide_eq_true (rfl : a = a)]
      show _ = (true && (decide (c = a) || decide (c = 0) || i7 Kd Aa a c cnt))
      cases decide (c = a) <;> cases decide (c = 0) <;> cases i7 Kd Aa a c cnt <;> rfl
    · rw [decide_eq_false e, Bool.and_false, Bool.and_false, Bool.false_and, Bool.or_false, Bool.or_false, Bool.or_false]
      by_cases e2 : a < i
      · rw [decide_eq_true e2, decide_eq_true (show a < i + 1 by omega)]
      · rw [decide_eq_false e2, decide_eq_false (show ¬ a < i + 1 by omega)]
theorem cU_le2 {R : Nat → Int32} {i : Nat} : ∀ j, cU R (i + j) ≤ cU R i + j
  | 0 => Nat.le_refl _
  | j + 1 => by
    have := cU_le2 (R := R) (i := i) j
    have e1 : cU R (i + (j + 1)) = cU R (i + j) + (if R (i + j) < 0 then 1 else 0) := rfl
    split at e1 <;> omega
/-- at the start -/
theorem head0 {n cnt : Nat} {Kd Aa Ab Ac Ax O O1 : Nat → Int32} {m : MS} (hn : n ≤ 24) (hn2 : 2 ≤ n) (hax : ∀ k, k < cnt → axV n (Kd k) (Aa k) (Ab k) (Ac k)) (hAx : ∀ k, k < cnt → Kd k = Ax (4 * k) ∧ Aa k = Ax (4 * k + 1)) :
    Head n O (fStart n cnt Kd Aa O1) (((mBeg n cnt Ax m).1, (mBeg n cnt Ax m).2.1, (mBeg n cnt Ax m).2.2.1, (mBeg n cnt Ax m).2.2.2.1, nI 1), 0) ∧ cU (mBeg n cnt Ax m).1 4032 ≤ 4030 := by
  have ha7 : ∀ k, k < cnt → Kd k = nI 7 → clV 6 (Aa k) := fun k hk e => (hax k hk).2.2.2.2.2.2 e
  obtain ⟨C1, C2, C3, C4, C5, C6⟩ := CI.first (cnt := cnt) (Kd := Kd) (Aa := Aa) hn ha7
  have M := M0.sx (x := (fun _ => (-1), m.2.1, m.2.2.1, m.2.2.2.1, m.2.2.2.2)) (n := n) ⟨fun a c _ _ => ⟨fun q => absurd (show false = true from q) (by decide), fun _ => rfl⟩, fun _ _ => rfl⟩ hn (cnt := cnt) (Kd := Kd) (Aa := Aa) (Ax := Ax) hAx ha7 n (Nat.le_refl n)
  have M := M.congr (b' := fun a c => iB cnt Kd Aa a c) (fun a c ha _ => by rw [decide_eq_true ha, Bool.true_and])
  have eB : mSx cnt Ax (fun _ => (-1), m.2.1, m.2.2.1, m.2.2.2.1, m.2.2.2.2) n = mBeg n cnt Ax m := rfl
  rw [eB] at M
  obtain ⟨M1, M2⟩ := M
  have bB : ∀ a c, a < n → c < 168 → bt ((fFirst n cnt Kd Aa).1 c) a = iB cnt Kd Aa a c := fun a c ha hc => by
    rw [C1 a c ha hc, Fb_some]; rfl
  have ib0 : ∀ a, iB cnt Kd Aa a a = true := fun a => by unfold iB; rw [decide_eq_true rfl]; rfl
  have hga : (fFirst n cnt Kd Aa).2.2 ≠ 0 := fun q => by
    have := (C5 0 (by omega)).mpr ⟨0, by decide, rfl, by rw [Fb_some]; exact ib0 0⟩
    rw [q, b_0] at this
    cases this
  have R0 : ∀ a c, a < n → c < 168 → iB cnt Kd Aa a c = true → (mBeg n cnt Ax m).1 (cod a c) = nI 0 := fun a c ha hc h => congrArg (fun p => p.1) ((M1 a c ha hc).1 h)
  have oq0 : Oq (O1, 0) (O, 0) := ⟨rfl, fun i hi => absurd hi (Nat.not_lt_zero i)⟩
  have hrE : erR (fFirst n cnt Kd Aa).2.2 0 = 1 := erR_n hga
  refine ⟨⟨⟨fun a c ha hc h => ?_, fun a c ha hc h => ?_, C2, fun z hz => ⟨C4 z hz, M2 z hz⟩⟩, fun a c ha hc h => ⟨0, Nat.le_refl 0, R0 a c ha hc (by rw [← bB a c ha hc]; exact h)⟩, ?_, hrE, hga, by show ¬ nI 1 ≤ 0; decide, ?_⟩, ?_⟩
  · have hb : iB cnt Kd Aa a c = true := by rw [← bB a c ha hc]; exact h
    have h3 := C3 a c ha hc
    rw [if_neg (c := S0 a c = true) (show ¬ (false = true) by decide)] at h3
    have h3 : (fFirst n cnt Kd Aa).2.1 (cod a c) = match Fb (iB cnt Kd Aa a c) with | some v => pkV (nI 0) a v | none => (-1) := h3
    rw [hb] at h3
    have h4 := (M1 a c ha hc).1 hb
    show tells ((fFirst n cnt Kd Aa).2.1 (cod a c)) (at4 (mBeg n cnt Ax m) (cod a c))
    rw [h3, h4]
    exact first_tells a
  · have hb : iB cnt Kd Aa a c = false := by rw [← bB a c ha hc]; exact h
    have h3 := C3 a c ha hc
    rw [if_neg (c := S0 a c = true) (show ¬ (false = true) by decide)] at h3
    have h3 : (fFirst n cnt Kd Aa).2.1 (cod a c) = match Fb (iB cnt Kd Aa a c) with | some v => pkV (nI 0) a v | none => (-1) := h3
    rw [hb] at h3
    exact ⟨h3, (M1 a c ha hc).2 hb⟩
  · show Oq (erO n (fun _ => nI 0) (fFirst n cnt Kd Aa).1 (fFirst n cnt Kd Aa).2.2 (O1, 0)) (mF1 (mBeg n cnt Ax m).1 0 (O, 0) 4032)
    rw [erO_app (R := (mBeg n cnt Ax m).1) (t := 0) hn hga (fun a c ha hc => ?_) (fun a ha hb c hc q => ?_) (fun z hz hc => ?_) (fun c hc q => ?_), mF1_app, mF1_app]
    · exact Oq_app oq0 4032
    · rw [inB_bt (by omega), b_and, b_xor, b_m1 a (by omega), show bt (nI 0) a = false from b_0 a, bB a c ha hc]
      cases hb : iB cnt Kd Aa a c with
      | true => exact ⟨fun _ => R0 a c ha hc hb, fun _ => rfl⟩
      | false =>
        rw [(M1 a c ha hc).2 hb]
        exact ⟨(fun q => by cases q), (fun q => absurd q (nI_neg1 (by decide)))⟩
    · cases hb2 : iB cnt Kd Aa a c with
      | true =>
        rw [(C5 a ha).mpr ⟨c, hc, rfl, by rw [Fb_some]; exact hb2⟩] at hb
        cases hb
      | false => exact absurd ((((M1 a c ha hc).2 hb2).symm).trans q) (nI_neg1 (by decide))
    · rw [M2 z hc]; exact nI_neg1 (by decide)
    · have q2 := mF_room (R := (mBeg n cnt Ax m).1) (O := O1) (r := 0) (c := c) (by decide) hc q
      rw [mF1_app] at q2
      exact q2
  · show 0 + cU (mBeg n cnt Ax m).1 4032 ≤ 4032
    have := cU_le (mBeg n cnt Ax m).1 4032
    omega
  · have e0 : (mBeg n cnt Ax m).1 0 = nI 0 := R0 0 0 (by omega) (by decide) (ib0 0)
    have e25 : (mBeg n cnt Ax m).1 25 = nI 0 := R0 1 1 (by omega) (by decide) (ib0 1)
    generalize (mBeg n cnt Ax m).1 = R at e0 e25
    have a1 : cU R (0 + 1) = cU R 0 + (if R 0 < 0 then 1 else 0) := rfl
    rw [e0, if_neg (by decide)] at a1
    have a2 : cU R (1 + 24) ≤ cU R 1 + 24 := cU_le2 24
    have a3 : cU R (25 + 1) = cU R 25 + (if R 25 < 0 then 1 else 0) := rfl
    rw [e25, if_neg (by decide)] at a3
    have a4 : cU R (26 + 4006) ≤ cU R 26 + 4006 := cU_le2 4006
    have a5 : cU R 0 = 0 := rfl
    have a6 : (26 + 4006 : Nat) = 4032 := rfl
    rw [a6] at a4
    have a7 : cU R (25 + 1) = cU R 26 := rfl
    have a8 : cU R (1 + 24) = cU R 25 := rfl
    have a9 : cU R (0 + 1) = cU R 1 := rfl
    omega
theorem loop9 {n cnt : Nat} {Kd Aa Ab Ac Ax O : Nat → Int32} (hn : n ≤ 24) (hcnt : cnt ≤ 80) (hax : ∀ k, k < cnt → axV n (Kd k) (Aa k) (Ab k) (Ac k)) (hkd : ∀ k, k < cnt → ∃ j, 1 ≤ j ∧ j ≤ 7 ∧ Kd k = nI j) (hAx : ∀ k, k < cnt → Kd k = Ax (4 * k) ∧ Aa k = Ax (4 * k + 1) ∧ Ab k = Ax (4 * k + 2) ∧ Ac k = Ax (4 * k + 3)) : ∀ (m : Nat) (x : FS) (y : MS × Nat) (f g : Nat), cU y.1.1 4032 ≤ m → Head n O x y → cU y.1.1 4032 + 1 ≤ f → cU y.1.1 4032 + 2 ≤ g → Fin9 n O (fLoop n cnt Kd Aa Ab Ac f x) (mLoop n cnt Ax g y) := by
  intro m
  induction m with
  | zero =>
    intro x y f g hm H hf hg
    obtain ⟨f', rfl⟩ : ∃ f', f = f' + 1 := ⟨f - 1, by omega⟩
    obtain ⟨g', rfl⟩ : ∃ g', g = g' + 1 := ⟨g - 1, by omega⟩
    have hga := H.2.2.2.2.1
    have hmd := H.2.2.2.2.2.1
    rw [fLoop_n (by omega) hga, mLoop_n hmd, Nat.add_sub_cancel]
    rcases step9 hn hcnt hax hkd hAx H with ⟨H', hc⟩ | ⟨H', h1, h2⟩
    · omega
    · obtain ⟨g'', rfl⟩ : ∃ g'', g' = g'' + 1 := ⟨g' - 1, by omega⟩
      rw [fLoop_e h1, mLoop_e h2]
      exact H'
  | succ m ih =>
    intro x y f g hm H hf hg
    obtain ⟨f', rfl⟩ : ∃ f', f = f' + 1 := ⟨f - 1, by omega⟩
    obtain ⟨g', rfl⟩ : ∃ g', g = g' + 1 := ⟨g - 1, by omega⟩
    have hga := H.2.2.2.2.1
    have hmd := H.2.2.2.2.2.1
    rw [fLoop_n (by omega) hga, mLoop_n hmd, Nat.add_sub_cancel]
    rcases step9 hn hcnt hax hkd hAx H with ⟨H', hc⟩ | ⟨H', h1, h2⟩
    · exact ih _ _ f' g' (by omega) H' (by omega) (by omega)
    · obtain ⟨g'', rfl⟩ : ∃ g'', g' = g'' + 1 := ⟨g' - 1, by omega⟩
      rw [fLoop_e h1, mLoop_e h2]
      exact H'
/-- THE TWO CLOSURES ARE THE SAME -/
theorem same9 {n cnt : Nat} {Kd Aa Ab Ac Ax O O1 : Nat → Int32} {m : MS} (hn : n ≤ 24) (hn2 : 2 ≤ n) (hcnt : cnt ≤ 80) (hax : ∀ k, k < cnt → axV n (Kd k) (Aa k) (Ab k) (Ac k)) (hkd : ∀ k, k < cnt → ∃ j, 1 ≤ j ∧ j ≤ 7 ∧ Kd k = nI j) (hAx : ∀ k, k < cnt → Kd k = Ax (4 * k) ∧ Aa k = Ax (4 * k + 1) ∧ Ab k = Ax (4 * k + 2) ∧ Ac k = Ax (4 * k + 3)) : Fin9 n O (fillF n cnt Kd Aa Ab Ac O1) (mEnd n cnt Ax m) := by
  obtain ⟨H, hc⟩ := head0 (O := O) (O1 := O1) (m := m) hn hn2 hax (fun k hk => ⟨(hAx k hk).1, (hAx k hk).2.1⟩)
  exact loop9 hn hcnt hax hkd hAx _ _ _ 4031 5000 (Nat.le_refl _) H (by show cU (mBeg n cnt Ax m).1 4032 + 1 ≤ 4031; omega) (by show cU (mBeg n cnt Ax m).1 4032 + 2 ≤ 5000; omega)
