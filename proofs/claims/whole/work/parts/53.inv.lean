/-! what holds between the two at every call -/
def FiOK (x : MS) : Prop := (∀ c, c < 4032 → ¬ x.2.2.1 c < 0 → clV 4032 (x.2.2.1 c)) ∧ (∀ c, c < 4032 → ¬ x.2.2.2.1 c < 0 → clV 4032 (x.2.2.2.1 c))
theorem FiOK.put {x : MS} (h : FiOK x) {R W : Nat → Int32} {md : Int32} {c : Nat} {f s : Int32} (hf : ¬ f < 0 → clV 4032 f) (hs : ¬ s < 0 → clV 4032 s) : FiOK (R, W, upd x.2.2.1 c f, upd x.2.2.2.1 c s, md) := by
  refine ⟨fun z hz => ?_, fun z hz => ?_⟩
  · show ¬ upd x.2.2.1 c f z < 0 → clV 4032 (upd x.2.2.1 c f z)
    by_cases e : z = c
    · rw [e, pk_us]; exact hf
    · rw [pk_un e]; exact h.1 z hz
  · show ¬ upd x.2.2.2.1 c s z < 0 → clV 4032 (upd x.2.2.2.1 c s z)
    by_cases e : z = c
    · rw [e, pk_us]; exact hs
    · rw [pk_un e]; exact h.2 z hz
theorem FiOK.start {x : MS} (h : FiOK x) {c : Nat} : FiOK (mStart c x) := by
  unfold mStart
  split
  · exact h
  · exact h.put (fun q => absurd (by decide) q) (fun q => absurd (by decide) q)
theorem FiOK.sk {Ax : Nat → Int32} {x0 : Nat} {m : MS} (h : FiOK m) : ∀ k, FiOK (mSk Ax x0 m k)
  | 0 => h
  | k + 1 => by
    unfold mSk
    split
    · exact (FiOK.sk h k).start
    · exact FiOK.sk h k
theorem FiOK.sx {cnt : Nat} {Ax : Nat → Int32} {m : MS} (h : FiOK m) : ∀ i, FiOK (mSx cnt Ax m i)
  | 0 => h
  | i + 1 => by
    unfold mSx
    exact FiOK.sk (FiOK.sx h i).start.start cnt
theorem FiOK.g {rd : Int32} {c : Nat} {why : Int32} {fi : Nat} {se : Int32} {x : MS} (hf : fi < 4032) (hs : se = (-1) ∨ clV 4032 se) (h : FiOK x) : FiOK (mG rd c why fi se x) := by
  have hs2 : ¬ se < 0 → clV 4032 se := fun q => hs.elim (fun e => absurd (by rw [e]; decide) q) id
  unfold mG mSet
  split
  · split
    · exact h.put (fun _ => ⟨fi, hf, rfl⟩) hs2
    · split
      · exact h.put (fun _ => ⟨fi, hf, rfl⟩) hs2
      · exact h
  · exact h
def pos1 (z : Nat) (x : MS) : Prop := ¬ x.1 z < 0
theorem pos1.g {z rd c : Nat} {why : Int32} {fi : Nat} {se : Int32} {x : MS} (hrd : rd < 2 ^ 31) (h : pos1 z x) : pos1 z (mG (nI rd) c why fi se x) := by
  have hu : ¬ upd x.1 c (nI rd) z < 0 := by
    by_cases e : z = c
    · rw [e, pk_us]; exact nI_pos hrd
    · rw [pk_un e]; exact h
  unfold mG mSet
  split
  · split
    · exact hu
    · split
      · exact hu
      · exact h
  · exact h
section END9
variable {n cnt : Nat} {Ax : Nat → Int32}
theorem mLoop_keeps (hn : n ≤ 24) (hax : ∀ k, k < cnt → axV n (Ax (4 * k)) (Ax (4 * k + 1)) (Ax (4 * k + 2)) (Ax (4 * k + 3))) (hkd : ∀ k, k < cnt → ∃ j, 1 ≤ j ∧ j ≤ 7 ∧ Ax (4 * k) = nI j) {P : MS → Prop} (hP : ∀ x : MS, P x → P (x.1, x.2.1, x.2.2.1, x.2.2.2.1, nI 0)) (hG : ∀ (rd c : Nat) (why : Int32) (fi : Nat) (se : Int32) (x : MS), rd < 2 ^ 31 → c < 4032 → fi < 4032 → (se = (-1) ∨ clV 4032 se) → P x → P (mG (nI rd) c why fi se x)) : ∀ f (y : MS × Nat), y.2 + f < 2 ^ 31 → P y.1 → P (mLoop n cnt Ax f y).1
  | 0, _, _, h => h
  | f + 1, y, hy, h => by
    by_cases e : y.1.2.2.2.2 ≤ 0
    · rw [mLoop_e e]; exact h
    · rw [mLoop_n e]
      refine mLoop_keeps hn hax hkd hP hG f _ (by show y.2 + 1 + f < 2 ^ 31; omega) ?_
      exact mPx_keeps hn hax hkd (fun c why fi se x h1 h2 h3 h4 => hG (y.2 + 1) c why fi se x (by omega) h1 h2 h3 h4) (hP _ h) n (Nat.le_refl n)
theorem mEnd_fi (hn : n ≤ 24) (hax : ∀ k, k < cnt → axV n (Ax (4 * k)) (Ax (4 * k + 1)) (Ax (4 * k + 2)) (Ax (4 * k + 3))) (hkd : ∀ k, k < cnt → ∃ j, 1 ≤ j ∧ j ≤ 7 ∧ Ax (4 * k) = nI j) {m : MS} (h : FiOK m) : FiOK (mEnd n cnt Ax m).1 := by
  unfold mEnd
  refine mLoop_keeps hn hax hkd (P := FiOK) (fun x h => h) (fun rd c why fi se x _ _ h2 h3 h4 => h4.g h2 h3) 5000 _ (by show 0 + 5000 < 2 ^ 31; decide) ?_
  have h1 : FiOK (mBeg n cnt Ax m) := FiOK.sx (m := (fun _ => (-1), m.2.1, m.2.2.1, m.2.2.2.1, m.2.2.2.2)) h n
  exact h1
theorem mEnd_self (hn : n ≤ 24) (hax : ∀ k, k < cnt → axV n (Ax (4 * k)) (Ax (4 * k + 1)) (Ax (4 * k + 2)) (Ax (4 * k + 3))) (hkd : ∀ k, k < cnt → ∃ j, 1 ≤ j ∧ j ≤ 7 ∧ Ax (4 * k) = nI j) {m : MS} {Kd Aa : Nat → Int32} (hAx : ∀ k, k < cnt → Kd k = Ax (4 * k) ∧ Aa k = Ax (4 * k + 1)) {a : Nat} (ha : a < n) : mFn (mEnd n cnt Ax m).1.1 (cod a a) = true := by
  have ha7 : ∀ k, k < cnt → Kd k = nI 7 → clV 6 (Aa k) := fun k hk e => by
    rw [(hAx k hk).2]
    exact (hax k hk).2.2.2.2.2.2 (by rw [← (hAx k hk).1]; exact e)
  have M := M0.sx (x := (fun _ => (-1), m.2.1, m.2.2.1, m.2.2.2.1, m.2.2.2.2)) (n := n) ⟨fun a c _ _ => ⟨fun q => absurd (show false = true from q) (by decide), fun _ => rfl⟩, fun _ _ => rfl⟩ hn (cnt := cnt) (Kd := Kd) (Aa := Aa) (Ax := Ax) hAx ha7 n (Nat.le_refl n)
  have h1 := (M.1 a a ha (by omega)).1 (by
    show (decide (a < n) && iB cnt Kd Aa a a) = true
    unfold iB
    simp [ha])
  have h2 : (mBeg n cnt Ax m).1 (cod a a) = nI 0 := congrArg (fun p => p.1) h1
  have h3 : pos1 (cod a a) (mEnd n cnt Ax m).1 := by
    unfold mEnd
    refine mLoop_keeps hn hax hkd (P := pos1 (cod a a)) (fun x h => h) (fun rd c why fi se x h1 _ _ _ h4 => h4.g h1) 5000 _ (by show 0 + 5000 < 2 ^ 31; decide) ?_
    show ¬ (mBeg n cnt Ax m).1 (cod a a) < 0
    rw [h2]; decide
  exact decide_eq_true h3
end END9
def AxR (n cnt : Nat) (Kd Aa Ab Ac Ax : Nat → Int32) : Prop := (∀ k, k < cnt → axV n (Kd k) (Aa k) (Ab k) (Ac k)) ∧ (∀ k, k < cnt → ∃ j, 1 ≤ j ∧ j ≤ 7 ∧ Kd k = nI j) ∧ (∀ k, k < cnt → Kd k = Ax (4 * k) ∧ Aa k = Ax (4 * k + 1) ∧ Ab k = Ax (4 * k + 2) ∧ Ac k = Ax (4 * k + 3))
theorem AxR.ax {n cnt : Nat} {Kd Aa Ab Ac Ax : Nat → Int32} (h : AxR n cnt Kd Aa Ab Ac Ax) : ∀ k, k < cnt → axV n (Ax (4 * k)) (Ax (4 * k + 1)) (Ax (4 * k + 2)) (Ax (4 * k + 3)) := fun k hk => by
  obtain ⟨e1, e2, e3, e4⟩ := h.2.2 k hk
  rw [← e1, ← e2, ← e3, ← e4]
  exact h.1 k hk
theorem AxR.kd {n cnt : Nat} {Kd Aa Ab Ac Ax : Nat → Int32} (h : AxR n cnt Kd Aa Ab Ac Ax) : ∀ k, k < cnt → ∃ j, 1 ≤ j ∧ j ≤ 7 ∧ Ax (4 * k) = nI j := fun k hk => by rw [← (h.2.2 k hk).1]; exact h.2.1 k hk
theorem clV.mono {n m : Nat} (h : n ≤ m) {x : Int32} (hx : clV n x) : clV m x := let ⟨j, h1, h2⟩ := hx; ⟨j, by omega, h2⟩
theorem axV.mono {n m : Nat} (h : n ≤ m) {k a b c : Int32} (hx : axV n k a b c) : axV m k a b c :=
  ⟨fun e => ⟨(hx.1 e).1.mono h, (hx.1 e).2.mono h⟩, fun e => ⟨(hx.2.1 e).1.mono h, (hx.2.1 e).2.1.mono h, (hx.2.1 e).2.2.mono h⟩, fun e => ⟨(hx.2.2.1 e).1.mono h, (hx.2.2.1 e).2.1, (hx.2.2.1 e).2.2.mono h⟩, fun e => ⟨(hx.2.2.2.1 e).1, (hx.2.2.2.1 e).2.1.mono h, (hx.2.2.2.1 e).2.2.mono h⟩, hx.2.2.2.2⟩
theorem axV_of {n : Nat} (hn : n ≤ 24) {k a b c : Int32} (h : isAx n k a b c = true) : axV n k a b c ∧ ∃ j, 1 ≤ j ∧ j ≤ 7 ∧ k = nI j := by
  have cl : ∀ {x : Int32}, isCl x (nI n) = true → clV n x := fun h => isCl_of (by omega) h
  by_cases h1 : k = nI 1
  · rw [isAx_1 h1, Bool.and_eq_true] at h
    subst h1
    exact ⟨⟨fun _ => ⟨cl h.1, cl h.2⟩, fun e => absurd e (by decide), fun e => absurd e (by decide), fun e => absurd e (by decide), fun e => absurd e (by decide), fun e => absurd e (by decide), fun e => absurd e (by decide)⟩, 1, by decide, by decide, rfl⟩
  by_cases h2 : k = nI 2
  · rw [isAx_2 h2, Bool.and_eq_true, Bool.and_eq_true] at h
    subst h2
    exact ⟨⟨fun e => absurd e (by decide), fun _ => ⟨cl h.1.1, cl h.1.2, cl h.2⟩, fun e => absurd e (by decide), fun e => absurd e (by decide), fun e => absurd e (by decide), fun e => absurd e (by decide), fun e => absurd e (by decide)⟩, 2, by decide, by decide, rfl⟩
  by_cases h3 : k = nI 3
  · rw [isAx_3 h3, Bool.and_eq_true, Bool.and_eq_true] at h
    subst h3
    exact ⟨⟨fun e => absurd e (by decide), fun e => absurd e (by decide), fun _ => ⟨cl h.1.1, isRo_of h.1.2, cl h.2⟩, fun e => absurd e (by decide), fun e => absurd e (by decide), fun e => absurd e (by decide), fun e => absurd e (by decide)⟩, 3, by decide, by decide, rfl⟩
  by_cases h4 : k = nI 4
  · rw [isAx_4 h4, Bool.and_eq_true, Bool.and_eq_true] at h
    subst h4
    exact ⟨⟨fun e => absurd e (by decide), fun e => absurd e (by decide), fun e => absurd e (by decide), fun _ => ⟨isRo_of h.1.1, cl h.1.2, cl h.2⟩, fun e => absurd e (by decide), fun e => absurd e (by decide), fun e => absurd e (by decide)⟩, 4, by decide, by decide, rfl⟩
  by_cases h5 : k = nI 5
  · rw [isAx_5 h5, Bool.and_eq_true] at h
    subst h5
    exact ⟨⟨fun e => absurd e (by decide), fun e => absurd e (by decide), fun e => absurd e (by decide), fun e => absurd e (by decide), fun _ => ⟨isRo_of h.1, isRo_of h.2⟩, fun e => absurd e (by decide), fun e => absurd e (by decide)⟩, 5, by decide, by decide, rfl⟩
  by_cases h6 : k = nI 6
  · rw [isAx_6 h6, Bool.and_eq_true, Bool.and_eq_true] at h
    subst h6
    exact ⟨⟨fun e => absurd e (by decide), fun e => absurd e (by decide), fun e => absurd e (by decide), fun e => absurd e (by decide), fun e => absurd e (by decide), fun _ => ⟨isRo_of h.1.1, isRo_of h.1.2, isRo_of h.2⟩, fun e => absurd e (by decide)⟩, 6, by decide, by decide, rfl⟩
  by_cases h7 : k = nI 7
  · rw [isAx_7 h7] at h
    subst h7
    exact ⟨⟨fun e => absurd e (by decide), fun e => absurd e (by decide), fun e => absurd e (by decide), fun e => absurd e (by decide), fun e => absurd e (by decide), fun e => absurd e (by decide), fun _ => isRo_of h⟩, 7, by decide, by decide, rfl⟩
  rw [isAx_n h1 h2 h3 h4 h5 h6 h7] at h
  exact absurd h (by decide)
def Fresh (n : Nat) (s : CSt) (ms : MSt) : Prop := ∃ O : Nat → Int32, Fin9 n O s.1 (ms.1, ms.2.1) ∧ ms.2.2.1 = mF ms.1.1 (O, 0) ms.2.1 ∧ PP ms.1 ∧ (∀ a, a < n → mFn ms.1.1 (cod a a) = true) ∧ s.2.1 = n
/-- between the class (s, Rw) and the model (ms, Prf), with ct rows of the last proof -/
def INV (n cnt : Nat) (Kd Aa Ab Ac : Nat → Int32) (s : CSt) (Rw : Nat → Int32) (ct : Nat) (Ax : Nat → Int32) (ms : MSt) (Prf : Nat → Int32) : Prop :=
  (2 ≤ n ∧ n ≤ 24 ∧ cnt ≤ 80) ∧ AxR n cnt Kd Aa Ab Ac Ax ∧ ms.2.2.2 = (!s.2.2) ∧ (s.2.2 = false → Fresh n s ms) ∧ FiOK ms.1 ∧ ct ≤ 4032 ∧ ∀ i, i < ct → Rw i = Prf i
section INV9
variable {n cnt : Nat} {Kd Aa Ab Ac : Nat → Int32} {s : CSt} {Rw : Nat → Int32} {ct : Nat} {Ax : Nat → Int32} {ms : MSt} {Prf : Nat → Int32}
theorem INV.closed (h : INV n cnt Kd Aa Ab Ac s Rw ct Ax ms Prf) : INV n cnt Kd Aa Ab Ac (cloT n cnt Kd Aa Ab Ac s) Rw ct Ax (mClo n cnt Ax ms) Prf ∧ Fresh n (cloT n cnt Kd Aa Ab Ac s) (mClo n cnt Ax ms) := by
  obtain ⟨⟨h1, h2, h3⟩, hA, hst, hfr, hFi, hpr⟩ := h
  cases hs : s.2.2 with
  | false =>
    have e1 : cloT n cnt Kd Aa Ab Ac s = s := if_neg (by rw [hs]; decide)
    have e2 : mClo n cnt Ax ms = ms := if_pos (by rw [hst, hs]; rfl)
    rw [e1, e2]
    exact ⟨⟨⟨h1, h2, h3⟩, hA, hst, hfr, hFi, hpr⟩, hfr hs⟩
  | true =>
    have e1 : cloT n cnt Kd Aa Ab Ac s = (fillF n cnt Kd Aa Ab Ac s.1.2.2.1.1, n, false) := if_pos hs
    have e2 : mClo n cnt Ax ms = mReck n cnt Ax ms := if_neg (by rw [hst, hs]; decide)
    rw [e1, e2]
    have hF : Fresh n (fillF n cnt Kd Aa Ab Ac s.1.2.2.1.1, n, false) (mReck n cnt Ax ms) := by
      refine ⟨ms.2.2.1.1, ?_, rfl, ?_, ?_, rfl⟩
      · exact same9 (O := ms.2.2.1.1) (O1 := s.1.2.2.1.1) (m := ms.1) h2 h1 h3 hA.1 hA.2.1 hA.2.2
      · exact prem9 (m := ms.1) h2 h1 h3 hA.1 hA.2.1 hA.2.2
      · intro a ha
        exact mEnd_self (m := ms.1) h2 hA.ax hA.kd (fun k hk => ⟨(hA.2.2 k hk).1, (hA.2.2 k hk).2.1⟩) ha
    exact ⟨⟨⟨h1, h2, h3⟩, hA, rfl, fun _ => hF, mEnd_fi h2 hA.ax hA.kd hFi, hpr⟩, hF⟩
theorem INV.grow (h : INV n cnt Kd Aa Ab Ac s Rw ct Ax ms Prf) (hn : n < 24) : INV (n + 1) cnt Kd Aa Ab Ac (s.1, s.2.1, true) Rw ct Ax (ms.1, ms.2.1, ms.2.2.1, false) Prf := by
  obtain ⟨⟨h1, h2, h3⟩, hA, hst, hfr, hFi, hpr⟩ := h
  exact ⟨⟨by omega, hn, h3⟩, ⟨fun k hk => (hA.1 k hk).mono (Nat.le_succ n), hA.2⟩, rfl, fun q => absurd (show true = false from q) (by decide), hFi, hpr⟩
theorem INV.axiom_ (h : INV n cnt Kd Aa Ab Ac s Rw ct Ax ms Prf) (hc : cnt < 80) {k0 a0 b0 c0 : Int32} (hi : isAx n k0 a0 b0 c0 = true) : INV n (cnt + 1) (upd Kd cnt k0) (upd Aa cnt a0) (upd Ab cnt b0) (upd Ac cnt c0) (s.1, s.2.1, true) Rw ct (upd (upd (upd (upd Ax (4 * cnt) k0) (4 * cnt + 1) a0) (4 * cnt + 2) b0) (4 * cnt + 3) c0) (ms.1, ms.2.1, ms.2.2.1, false) Prf := by
  obtain ⟨⟨h1, h2, h3⟩, hA, hst, hfr, hFi, hpr⟩ := h
  obtain ⟨v1, v2⟩ := axV_of h2 hi
  refine ⟨⟨h1, h2, hc⟩, ⟨fun k hk => ?_, fun k hk => ?_, fun k hk => ?_⟩, rfl, fun q => absurd (show true = false from q) (by decide), hFi, hpr⟩
  · by_cases e : k = cnt
    · subst e
      rw [pk_us, pk_us, pk_us, pk_us]
      exact v1
    · rw [pk_un e, pk_un e, pk_un e, pk_un e]
      exact hA.1 k (by omega)
  · by_cases e : k = cnt
    · subst e
      rw [pk_us]
      exact v2
    · rw [pk_un e]
      exact hA.2.1 k (by omega)
  · by_cases e : k = cnt
    · subst e
      rw [pk_us, pk_us, pk_us, pk_us]
      refine ⟨?_, ?_, ?_, ?_⟩
      · rw [pk_un (by omega), pk_un (by omega), pk_un (by omega), pk_us]
      · rw [pk_un (by omega), pk_un (by omega), pk_us]
      · rw [pk_un (by omega), pk_us]
      · rw [pk_us]
    · have hk : k < cnt + 1 := hk
      rw [pk_un e, pk_un e, pk_un e, pk_un e]
      obtain ⟨g1, g2, g3, g4⟩ := hA.2.2 k (by omega)
      rw [g1, g2, g3, g4]
      refine ⟨?_, ?_, ?_, ?_⟩ <;> rw [pk_un (by omega), pk_un (by omega), pk_un (by omega), pk_un (by omega)]
theorem INV.drop (h : INV n cnt Kd Aa Ab Ac s Rw ct Ax ms Prf) {k : Nat} (hk : k < cnt) : INV n (cnt - 1) (va_cpy Kd Kd (k + 1) k (cnt - 1 - k)) (va_cpy Aa Aa (k + 1) k (cnt - 1 - k)) (va_cpy Ab Ab (k + 1) k (cnt - 1 - k)) (va_cpy Ac Ac (k + 1) k (cnt - 1 - k)) (s.1, s.2.1, true) Rw ct (drpF Ax k (4 * (cnt - 1))) (ms.1, ms.2.1, ms.2.2.1, false) Prf := by
  obtain ⟨⟨h1, h2, h3⟩, hA, hst, hfr, hFi, hpr⟩ := h
  have hcp : ∀ (f : Nat → Int32) (i : Nat), i < cnt - 1 → va_cpy f f (k + 1) k (cnt - 1 - k) i = f (if k ≤ i then i + 1 else i) := by
    intro f i hi
    unfold va_cpy
    by_cases e : k ≤ i
    · rw [if_pos e, if_pos ⟨e, by omega⟩]
      congr 1
      omega
    · rw [if_neg e, if_neg (fun q => e q.1)]
  have hdr : ∀ i r, r < 4 → i < cnt - 1 → drpF Ax k (4 * (cnt - 1)) (4 * i + r) = Ax (4 * (if k ≤ i then i + 1 else i) + r) := by
    intro i r hr hi
    unfold drpF
    by_cases e : k ≤ i
    · rw [if_pos e, if_pos ⟨by omega, by omega⟩]
      congr 1
      omega
    · rw [if_neg e, if_neg (fun q => e (by omega))]
  have hlt : ∀ i, i < cnt - 1 → (if k ≤ i then i + 1 else i) < cnt := by
    intro i hi
    split <;> omega
  refine ⟨⟨h1, h2, by omega⟩, ⟨fun i hi => ?_, fun i hi => ?_, fun i hi => ?_⟩, rfl, fun q => absurd (show true = false from q) (by decide), hFi, hpr⟩
  · rw [hcp _ i hi, hcp _ i hi, hcp _ i hi, hcp _ i hi]
    exact hA.1 _ (hlt i hi)
  · rw [hcp _ i hi]
    exact hA.2.1 _ (hlt i hi)
  · rw [hcp _ i hi, hcp _ i hi, hcp _ i hi, hcp _ i hi, hdr i 1 (by decide) hi, hdr i 2 (by decide) hi, hdr i 3 (by decide) hi]
    have h0 := hdr i 0 (by decide) hi
    rw [Nat.add_zero, Nat.add_zero] at h0
    rw [h0]
    exact hA.2.2 _ (hlt i hi)
theorem Fresh.fc (h : Fresh n s ms) (hn : n ≤ 24) (hn2 : 2 ≤ n) : s.1.2.2.1.2 = ms.2.2.1.2 ∧ 1 ≤ s.1.2.2.1.2 ∧ s.1.2.2.1.2 ≤ 4032 ∧ (∀ i, i < s.1.2.2.1.2 → clV 4032 (s.1.2.2.1.1 i)) ∧ (∀ i, i < s.1.2.2.1.2 → s.1.2.2.1.1 i = ms.2.2.1.1 i) ∧ s.1.2.2.2 = ms.2.1 := by
  obtain ⟨O, hF, hO, hP, hself, hm⟩ := h
  obtain ⟨o1, o2, o3⟩ := fin_ord hF hn
  obtain ⟨q1, q2⟩ := hF.2.2.1
  have hb := hF.2.2.2.2
  have q1 : s.1.2.2.1.2 = (mF ms.1.1 (O, 0) ms.2.1).2 := q1
  have q2 : ∀ i, i < s.1.2.2.1.2 → s.1.2.2.1.1 i = (mF ms.1.1 (O, 0) ms.2.1).1 i := q2
  have hb : ms.2.1 ≤ 4033 := hb
  refine ⟨by rw [hO]; exact q1, ?_, ?_, ?_, ?_, hF.2.2.2.1⟩
  · obtain ⟨i, hi, -⟩ := o3 (cod 0 0) (by decide) (of_decide_eq_true (hself 0 (by omega)))
    omega
  · rw [q1, mF_c]
    exact cS_le (by omega) 4032
  · intro i hi
    obtain ⟨z, k1, k2, -⟩ := o1 i hi
    exact ⟨z, k1, k2⟩
  · rw [hO]; exact q2
theorem INV.trace (h : INV n cnt Kd Aa Ab Ac s Rw ct Ax ms Prf) (hF : Fresh n s ms) (c : Int32) : (takeR s.1.1.2.1 s.1.2.2.1.1 s.1.2.2.1.2 c Rw).2 = (mTrR ms c Prf).2 ∧ INV n cnt Kd Aa Ab Ac s (takeR s.1.1.2.1 s.1.2.2.1.1 s.1.2.2.1.2 c Rw).1 (takeR s.1.1.2.1 s.1.2.2.1.1 s.1.2.2.1.2 c Rw).2 Ax ms (mTrR ms c Prf).1 := by
  obtain ⟨⟨h1, h2, h3⟩, hA, hst, hfr, hFi, hpr⟩ := h
  obtain ⟨f1, f2, f3, f4, f5, f6⟩ := hF.fc h2 h1
  obtain ⟨O, hFn, hO, hP, hself, hm⟩ := hF
  obtain ⟨t1, t2⟩ := trace9 hFn h2 hO hP hFi.1 hFi.2 c Rw Prf
  refine ⟨t1, ⟨h1, h2, h3⟩, hA, hst, hfr, hFi, ?_, t2⟩
  have hle : ∀ (Nd : Nat → Int64) (O : Nat → Int32) m, (tkR Nd O (Rw, 0) m).2 ≤ m := by
    intro Nd O m
    induction m with
    | zero => exact Nat.le_refl 0
    | succ m ih =>
      cases hb : isN Nd (tn (O m)) with
      | true => rw [tkR_t hb]; show _ + 1 ≤ _; omega
      | false => rw [tkR_f hb]; omega
  cases hb : flw s.1.1.2.1 c with
  | false => rw [takeR_f hb]; exact Nat.zero_le _
  | true => rw [takeR_t hb]; exact Nat.le_trans (hle _ _ _) f3
end INV9
