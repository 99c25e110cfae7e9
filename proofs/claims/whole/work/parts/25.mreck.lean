/-! ElCompletionModel: reckon, the walk -/
theorem z_steq {K : KT} {n k : Nat} {ws : va_W} {lv : List (Nat × Value)} {pc : Nat} {st : List Value} (st2 : List Value) (h : st = st2) (kk : Z K n k ws lv pc st2) : Z K n k ws lv pc st := h ▸ kk

theorem mPass_dec {n cnt : Nat} {Ax : Nat → Int32} {y : MS × Nat} (hn : n ≤ 24) (hax : ∀ k, k < cnt → axV n (Ax (4 * k)) (Ax (4 * k + 1)) (Ax (4 * k + 2)) (Ax (4 * k + 3))) (hkd : ∀ k, k < cnt → ∃ j, 1 ≤ j ∧ j ≤ 7 ∧ Ax (4 * k) = nI j) (hrd : y.2 + 1 < 2 ^ 31) (h : ¬ (mPass n cnt Ax y).1.2.2.2.2 ≤ 0) : cU (mPass n cnt Ax y).1.1 4032 < cU y.1.1 4032 := by
  obtain ⟨m, h1, h2⟩ := mPx_keeps (P := mInv y.1.1) (rd := nI (y.2 + 1)) hn hax hkd (fun c why fi se x hc _ _ hx => mInv_G hrd hc hx) (m := (y.1.1, y.1.2.1, y.1.2.2.1, y.1.2.2.2.1, nI 0)) ⟨0, rfl, Nat.zero_add _⟩ n (Nat.le_refl n)
  have h1' : (mPass n cnt Ax y).1.2.2.2.2 = nI m := h1
  have h2' : m + cU (mPass n cnt Ax y).1.1 4032 = cU y.1.1 4032 := h2
  have : m ≠ 0 := fun e => h (by rw [h1', e]; decide)
  omega
/-- the order of the facts -/
def mF1 (R : Nat → Int32) (r : Nat) (o : OS) : Nat → OS
  | 0 => o
  | c + 1 => if R c = nI r then (upd (mF1 R r o c).1 (mF1 R r o c).2 (nI c), (mF1 R r o c).2 + 1) else mF1 R r o c
theorem mF1_t {R : Nat → Int32} {r : Nat} {o : OS} {c : Nat} (h : R c = nI r) : mF1 R r o (c + 1) = (upd (mF1 R r o c).1 (mF1 R r o c).2 (nI c), (mF1 R r o c).2 + 1) := if_pos h
theorem mF1_f {R : Nat → Int32} {r : Nat} {o : OS} {c : Nat} (h : ¬ R c = nI r) : mF1 R r o (c + 1) = mF1 R r o c := if_neg h
def mF (R : Nat → Int32) (o : OS) : Nat → OS
  | 0 => o
  | r + 1 => mF1 R r (mF R o r) 4032
def cE (R : Nat → Int32) (r : Nat) : Nat → Nat
  | 0 => 0
  | i + 1 => cE R r i + (if R i = nI r then 1 else 0)
def cS (R : Nat → Int32) (N : Nat) : Nat → Nat
  | 0 => 0
  | r + 1 => cS R N r + cE R r N
theorem mF1_c {R : Nat → Int32} {r : Nat} {o : OS} : ∀ c, (mF1 R r o c).2 = o.2 + cE R r c
  | 0 => rfl
  | c + 1 => by
    have := mF1_c (R := R) (r := r) (o := o) c
    unfold mF1 cE
    split
    · show (mF1 R r o c).2 + 1 = _
      omega
    · omega
theorem mF_c {R : Nat → Int32} {O : Nat → Int32} : ∀ r, (mF R (O, 0) r).2 = cS R 4032 r
  | 0 => rfl
  | r + 1 => by
    unfold mF cS
    rw [mF1_c, mF_c r]
theorem cE_mono {R : Nat → Int32} {r : Nat} {i j : Nat} (h : i ≤ j) : cE R r i ≤ cE R r j := by
  induction j with
  | zero => rw [show i = 0 by omega]; exact Nat.le_refl _
  | succ j ih =>
    by_cases e : i = j + 1
    · rw [e]; exact Nat.le_refl _
    · have := ih (by omega)
      have e1 : cE R r (j + 1) = cE R r j + (if R j = nI r then 1 else 0) := rfl
      omega
theorem cS_add {R : Nat → Int32} {N : Nat} : ∀ r, r ≤ 2 ^ 31 → cS R (N + 1) r ≤ cS R N r + 1 ∧ ((∀ r', r' < r → R N ≠ nI r') → cS R (N + 1) r = cS R N r)
  | 0, _ => ⟨Nat.le_succ _, fun _ => rfl⟩
  | r + 1, hr => by
    obtain ⟨h1, h2⟩ := cS_add (R := R) (N := N) r (by omega)
    by_cases e : R N = nI r
    · have h3 : cS R (N + 1) r = cS R N r := h2 (fun r' hr' q => by
        have := (nI_eq (by omega) (by omega)).mp (q.symm.trans e)
        omega)
      have e1 : cS R (N + 1) (r + 1) = cS R (N + 1) r + (cE R r N + (if R N = nI r then 1 else 0)) := rfl
      have e2 : cS R N (r + 1) = cS R N r + cE R r N := rfl
      rw [if_pos e] at e1
      exact ⟨by omega, fun h => absurd e (h r (by omega))⟩
    · have e1 : cS R (N + 1) (r + 1) = cS R (N + 1) r + (cE R r N + (if R N = nI r then 1 else 0)) := rfl
      have e2 : cS R N (r + 1) = cS R N r + cE R r N := rfl
      rw [if_neg e] at e1
      exact ⟨by omega, fun h => by have := h2 (fun r' hr' => h r' (by omega)); omega⟩
theorem cS_le {R : Nat → Int32} {r : Nat} (hr : r ≤ 2 ^ 31) : ∀ N, cS R N r ≤ N
  | 0 => by
    have : ∀ r, cS R 0 r = 0 := by
      intro r
      induction r with
      | zero => rfl
      | succ r ih => unfold cS; rw [ih]; rfl
    rw [this r]
    exact Nat.le_refl 0
  | N + 1 => by
    have := (cS_add (R := R) (N := N) r hr).1
    have := cS_le (R := R) hr N
    omega
theorem mF_room {R : Nat → Int32} {O : Nat → Int32} {r c : Nat} (hr : r + 1 ≤ 2 ^ 31) (hc : c < 4032) (h : R c = nI r) : (mF1 R r (mF R (O, 0) r) c).2 < 4032 := by
  rw [mF1_c, mF_c]
  have h1 := cS_le (R := R) hr 4032
  have h2 : cE R r (c + 1) ≤ cE R r 4032 := cE_mono (by omega)
  have h3 : cE R r (c + 1) = cE R r c + 1 := by
    show cE R r c + (if R c = nI r then 1 else 0) = _
    rw [if_pos h]
  unfold cS at h1
  omega
/-- the whole state that the asking methods see: (arrays, round, (row, found), known) -/
abbrev MSt : Type := MS × Nat × OS × Bool
def mBeg (n cnt : Nat) (Ax : Nat → Int32) (x : MS) : MS := mSx cnt Ax (fun _ => (-1), x.2.1, x.2.2.1, x.2.2.2.1, x.2.2.2.2) n
def mEnd (n cnt : Nat) (Ax : Nat → Int32) (x : MS) : MS × Nat := mLoop n cnt Ax 5000 (((mBeg n cnt Ax x).1, (mBeg n cnt Ax x).2.1, (mBeg n cnt Ax x).2.2.1, (mBeg n cnt Ax x).2.2.2.1, nI 1), 0)
def mReck (n cnt : Nat) (Ax : Nat → Int32) (s : MSt) : MSt := ((mEnd n cnt Ax s.1).1, (mEnd n cnt Ax s.1).2, mF (mEnd n cnt Ax s.1).1.1 (s.2.2.1.1, 0) (mEnd n cnt Ax s.1).2, true)

set_option maxRecDepth 100000 in
set_option maxHeartbeats 4000000 in
theorem c_X4_reckon_u (l : Launch) (D : va_G) (cI cJ cZ : ClassId) (p : Nat → Nat) (n : Nat) (cnt : Nat) (ps : Nat) (th : Int32) (Ax : Nat → Int32) (s : MSt) (hk : s.2.2.2 = false) (hn : n ≤ 24) (hcnt : cnt ≤ 80) (hax : ∀ k, k < cnt → axV n (Ax (4 * k)) (Ax (4 * k + 1)) (Ax (4 * k + 2)) (Ax (4 * k + 3))) (hkd : ∀ k, k < cnt → ∃ j, 1 ≤ j ∧ j ≤ 7 ∧ Ax (4 * k) = nI j) : MV l yX4_reckon wsX4_reckon { frames := 4, cells := 0, slots := 0, locals := 101 } D (tyL cI cJ cZ) [.ref (p 0)] [(p 0, .inr (5, [.int (nI n), .ref (p 1), .int (nI cnt), .int (bI (s.2.2.2)), .ref (p 2), .ref (p 3), .ref (p 4), .ref (p 5), .int (nI (s.2.1)), .int s.1.2.2.2.2, .ref (p 6), .int (nI (s.2.2.1.2)), .ref (p 7), .int (nI ps), .int th, .ref (p 8)])), (p 1, .inl (cI, 320, .inl Ax)), (p 2, .inl (cI, 4032, .inl s.1.1)), (p 3, .inl (cI, 4032, .inl s.1.2.1)), (p 4, .inl (cI, 4032, .inl s.1.2.2.1)), (p 5, .inl (cI, 4032, .inl s.1.2.2.2.1)), (p 6, .inl (cI, 4032, .inl s.2.2.1.1))] [(p 0, .inr (5, [.int (nI n), .ref (p 1), .int (nI cnt), .int (bI ((mReck n cnt Ax s).2.2.2)), .ref (p 2), .ref (p 3), .ref (p 4), .ref (p 5), .int (nI ((mReck n cnt Ax s).2.1)), .int ((mReck n cnt Ax s).1.2.2.2.2), .ref (p 6), .int (nI ((mReck n cnt Ax s).2.2.1.2)), .ref (p 7), .int (nI ps), .int th, .ref (p 8)])), (p 1, .inl (cI, 320, .inl Ax)), (p 2, .inl (cI, 4032, .inl ((mReck n cnt Ax s).1.1))), (p 3, .inl (cI, 4032, .inl ((mReck n cnt Ax s).1.2.1))), (p 4, .inl (cI, 4032, .inl ((mReck n cnt Ax s).1.2.2.1))), (p 5, .inl (cI, 4032, .inl ((mReck n cnt Ax s).1.2.2.2.1))), (p 6, .inl (cI, 4032, .inl ((mReck n cnt Ax s).2.2.1.1)))] := by
  refine metV_of (cc := cX4_reckon) (maxL := 4) (ret := none) (by decide +kernel) rfl (Nat.le_of_ble_eq_true rfl) ?_
  intro K hC hRm hNL hDis hLis hRT hIni hQ
  have hinX4 : ∀ w ∈ wsX40, w ∈ wsX4_reckon := by decide +kernel
  refine z_aload_n (pc := 0) hC 0 dX4_reckon_0 rfl ?_
  refine z_get (pc := 1) (C := RX4) (T := TX4) (N := 16) hC hinX4 0 rfl rfl 3 (by decide) (by decide +kernel) rfl dX4_reckon_1 ?_
  refine z_bif_eq (pc := 4) (tgt := 8) hC dX4_reckon_4 (by decide) (fun h4 => ?_) (fun h4 => absurd h4 (by rw [hk]; decide))
  refine z_iconst (pc := 8) (v := (nI 0)) hC dX4_reckon_8 (by decide +kernel) ?_
  refine z_istore_n (pc := 9) hC hNL [(1, .int (nI 0)), (0, .ref (p 0))] dX4_reckon_9 (by decide) rfl ?_
  have L10 : ∀ (fu : Nat) (i : Nat) (f : Nat → Int32) (hi : i ≤ 4032) (hf : 4033 ≤ i + fu) (hv : ∀ j, j < i → f j = (-1)), Z K 0 0 [(p 0, .inr (5, [.int (nI n), .ref (p 1), .int (nI cnt), .int (bI (s.2.2.2)), .ref (p 2), .ref (p 3), .ref (p 4), .ref (p 5), .int (nI (s.2.1)), .int s.1.2.2.2.2, .ref (p 6), .int (nI (s.2.2.1.2)), .ref (p 7), .int (nI ps), .int th, .ref (p 8)])), (p 1, .inl (cI, 320, .inl Ax)), (p 2, .inl (cI, 4032, .inl f)), (p 3, .inl (cI, 4032, .inl s.1.2.1)), (p 4, .inl (cI, 4032, .inl s.1.2.2.1)), (p 5, .inl (cI, 4032, .inl s.1.2.2.2.1)), (p 6, .inl (cI, 4032, .inl s.2.2.1.1))] [(1, .int (nI i)), (0, .ref (p 0))] 10 [] := by
    intro fu
    induction fu with
    | zero =>
      intro i f hi hf hv
      exact absurd trivial (by omega)
    | succ fu ih10 =>
      intro i f hi hf hv
      refine z_iload_n (pc := 10) hC 0 dX4_reckon_10 rfl ?_
      refine z_sipush (pc := 11) (v := (nI 4032)) hC dX4_reckon_11 (by decide +kernel) ?_
      refine z_ncmp_ge (pc := 14) (tgt := 30) hC dX4_reckon_14 (by decide) (by omega) (by omega) (fun h14 => ?_) (fun h14 => ?_)
      · refine z_arrI (f' := fun _ => (-1)) 2 rfl (fun j hj => hv j (by omega)) [(p 0, .inr (5, [.int (nI n), .ref (p 1), .int (nI cnt), .int (bI (s.2.2.2)), .ref (p 2), .ref (p 3), .ref (p 4), .ref (p 5), .int (nI (s.2.1)), .int s.1.2.2.2.2, .ref (p 6), .int (nI (s.2.2.1.2)), .ref (p 7), .int (nI ps), .int th, .ref (p 8)])), (p 1, .inl (cI, 320, .inl Ax)), (p 2, .inl (cI, 4032, .inl (fun _ => (-1)))), (p 3, .inl (cI, 4032, .inl s.1.2.1)), (p 4, .inl (cI, 4032, .inl s.1.2.2.1)), (p 5, .inl (cI, 4032, .inl s.1.2.2.2.1)), (p 6, .inl (cI, 4032, .inl s.2.2.1.1))] rfl ?_
        refine z_iconst (pc := 30) (v := (nI 0)) hC dX4_reckon_30 (by decide +kernel) ?_
        refine z_istore_n (pc := 31) hC hNL [(1, .int (nI 0)), (0, .ref (p 0))] dX4_reckon_31 (by decide) rfl ?_
        have L32 : ∀ (fu : Nat) (i : Nat) (w : MS) (hi : i ≤ n) (hf : n + 1 ≤ i + fu) (hw : w = mSx cnt Ax (fun _ => (-1), s.1.2.1, s.1.2.2.1, s.1.2.2.2.1, s.1.2.2.2.2) i), Z K 0 0 [(p 0, .inr (5, [.int (nI n), .ref (p 1), .int (nI cnt), .int (bI (s.2.2.2)), .ref (p 2), .ref (p 3), .ref (p 4), .ref (p 5), .int (nI (s.2.1)), .int w.2.2.2.2, .ref (p 6), .int (nI (s.2.2.1.2)), .ref (p 7), .int (nI ps), .int th, .ref (p 8)])), (p 1, .inl (cI, 320, .inl Ax)), (p 2, .inl (cI, 4032, .inl w.1)), (p 3, .inl (cI, 4032, .inl w.2.1)), (p 4, .inl (cI, 4032, .inl w.2.2.1)), (p 5, .inl (cI, 4032, .inl w.2.2.2.1)), (p 6, .inl (cI, 4032, .inl s.2.2.1.1))] [(1, .int (nI i)), (0, .ref (p 0))] 32 [] := by
          intro fu
          induction fu with
          | zero =>
            intro i w hi hf hw
            exact absurd trivial (by omega)
          | succ fu ih32 =>
            intro i w hi hf hw
            refine z_iload_n (pc := 32) hC 0 dX4_reckon_32 rfl ?_
            refine z_aload_n (pc := 33) hC 1 dX4_reckon_33 rfl ?_
            refine z_get (pc := 34) (C := RX4) (T := TX4) (N := 16) hC hinX4 0 rfl rfl 0 (by decide) (by decide +kernel) rfl dX4_reckon_34 ?_
            refine z_ncmp_ge (pc := 37) (tgt := 112) hC dX4_reckon_37 (by decide) (by omega) (by omega) (fun h37 => ?_) (fun h37 => ?_)
            · have ew : w = mBeg n cnt Ax s.1 := by rw [hw, show i = n by omega]; rfl
              subst ew
              refine z_aload_n (pc := 112) hC 1 dX4_reckon_112 rfl ?_
              refine z_iconst (pc := 113) (v := (nI 0)) hC dX4_reckon_113 (by decide +kernel) ?_
              refine z_put (pc := 114) (C := RX4) (T := TX4) (N := 16) hC hinX4 0 rfl rfl 8 (by decide) tyX4 tyX4_ok nmX4 (by decide +kernel) rfl (rfl) (rfl) (Nat.le_of_ble_eq_true rfl) [(p 0, .inr (5, [.int (nI n), .ref (p 1), .int (nI cnt), .int (bI (s.2.2.2)), .ref (p 2), .ref (p 3), .ref (p 4), .ref (p 5), .int (nI 0), .int ((mBeg n cnt Ax s.1).2.2.2.2), .ref (p 6), .int (nI (s.2.2.1.2)), .ref (p 7), .int (nI ps), .int th, .ref (p 8)])), (p 1, .inl (cI, 320, .inl Ax)), (p 2, .inl (cI, 4032, .inl ((mBeg n cnt Ax s.1).1))), (p 3, .inl (cI, 4032, .inl ((mBeg n cnt Ax s.1).2.1))), (p 4, .inl (cI, 4032, .inl ((mBeg n cnt Ax s.1).2.2.1))), (p 5, .inl (cI, 4032, .inl ((mBeg n cnt Ax s.1).2.2.2.1))), (p 6, .inl (cI, 4032, .inl s.2.2.1.1))] rfl dX4_reckon_114 ?_
              refine z_aload_n (pc := 117) hC 1 dX4_reckon_117 rfl ?_
              refine z_iconst (pc := 118) (v := (nI 1)) hC dX4_reckon_118 (by decide +kernel) ?_
              refine z_put (pc := 119) (C := RX4) (T := TX4) (N := 16) hC hinX4 0 rfl rfl 9 (by decide) tyX4 tyX4_ok nmX4 (by decide +kernel) rfl (rfl) (rfl) (Nat.le_of_ble_eq_true rfl) [(p 0, .inr (5, [.int (nI n), .ref (p 1), .int (nI cnt), .int (bI (s.2.2.2)), .ref (p 2), .ref (p 3), .ref (p 4), .ref (p 5), .int (nI 0), .int (nI 1), .ref (p 6), .int (nI (s.2.2.1.2)), .ref (p 7), .int (nI ps), .int th, .ref (p 8)])), (p 1, .inl (cI, 320, .inl Ax)), (p 2, .inl (cI, 4032, .inl ((mBeg n cnt Ax s.1).1))), (p 3, .inl (cI, 4032, .inl ((mBeg n cnt Ax s.1).2.1))), (p 4, .inl (cI, 4032, .inl ((mBeg n cnt Ax s.1).2.2.1))), (p 5, .inl (cI, 4032, .inl ((mBeg n cnt Ax s.1).2.2.2.1))), (p 6, .inl (cI, 4032, .inl s.2.2.1.1))] rfl dX4_reckon_119 ?_
              have L122 : ∀ (fu : Nat) (y : MS × Nat) (hrd : y.2 + fu = 5000) (h1f : 1 ≤ fu) (h2f : ¬ y.1.2.2.2.2 ≤ 0 → cU y.1.1 4032 + 2 ≤ fu) (hX : mEnd n cnt Ax s.1 = mLoop n cnt Ax fu y), Z K 0 0 [(p 0, .inr (5, [.int (nI n), .ref (p 1), .int (nI cnt), .int (bI (s.2.2.2)), .ref (p 2), .ref (p 3), .ref (p 4), .ref (p 5), .int (nI (y.2)), .int y.1.2.2.2.2, .ref (p 6), .int (nI (s.2.2.1.2)), .ref (p 7), .int (nI ps), .int th, .ref (p 8)])), (p 1, .inl (cI, 320, .inl Ax)), (p 2, .inl (cI, 4032, .inl y.1.1)), (p 3, .inl (cI, 4032, .inl y.1.2.1)), (p 4, .inl (cI, 4032, .inl y.1.2.2.1)), (p 5, .inl (cI, 4032, .inl y.1.2.2.2.1)), (p 6, .inl (cI, 4032, .inl s.2.2.1.1))] [(0, .ref (p 0))] 122 [] := by
                intro fu
                induction fu with
                | zero =>
                  intro y hrd h1f h2f hX
                  exact absurd trivial (by omega)
                | succ fu ih122 =>
                  intro y hrd h1f h2f hX
                  refine z_aload_n (pc := 122) hC 0 dX4_reckon_122 rfl ?_
                  refine z_get (pc := 123) (C := RX4) (T := TX4) (N := 16) hC hinX4 0 rfl rfl 9 (by decide) (by decide +kernel) rfl dX4_reckon_123 ?_
                  refine z_if_le (pc := 126) (tgt := 237) hC dX4_reckon_126 (by decide) (fun h126 => ?_) (fun h126 => ?_)
                  · have ey : mEnd n cnt Ax s.1 = y := by rw [show mEnd n cnt Ax s.1 = mLoop n cnt Ax (fu + 1) y from hX, mLoop_e h126]
                    refine z_weq [(p 0, .inr (5, [.int (nI n), .ref (p 1), .int (nI cnt), .int (bI (s.2.2.2)), .ref (p 2), .ref (p 3), .ref (p 4), .ref (p 5), .int (nI ((mEnd n cnt Ax s.1).2)), .int ((mEnd n cnt Ax s.1).1.2.2.2.2), .ref (p 6), .int (nI (s.2.2.1.2)), .ref (p 7), .int (nI ps), .int th, .ref (p 8)])), (p 1, .inl (cI, 320, .inl Ax)), (p 2, .inl (cI, 4032, .inl ((mEnd n cnt Ax s.1).1.1))), (p 3, .inl (cI, 4032, .inl ((mEnd n cnt Ax s.1).1.2.1))), (p 4, .inl (cI, 4032, .inl ((mEnd n cnt Ax s.1).1.2.2.1))), (p 5, .inl (cI, 4032, .inl ((mEnd n cnt Ax s.1).1.2.2.2.1))), (p 6, .inl (cI, 4032, .inl s.2.2.1.1))] (by rw [ey]) ?_
                    have hr9 : (mEnd n cnt Ax s.1).2 ≤ 5000 := by rw [ey]; omega
                    refine z_aload_n (pc := 237) hC 0 dX4_reckon_237 rfl ?_
                    refine z_iconst (pc := 238) (v := (nI 0)) hC dX4_reckon_238 (by decide +kernel) ?_
                    refine z_put (pc := 239) (C := RX4) (T := TX4) (N := 16) hC hinX4 0 rfl rfl 11 (by decide) tyX4 tyX4_ok nmX4 (by decide +kernel) rfl (rfl) (rfl) (Nat.le_of_ble_eq_true rfl) [(p 0, .inr (5, [.int (nI n), .ref (p 1), .int (nI cnt), .int (bI (s.2.2.2)), .ref (p 2), .ref (p 3), .ref (p 4), .ref (p 5), .int (nI ((mEnd n cnt Ax s.1).2)), .int ((mEnd n cnt Ax s.1).1.2.2.2.2), .ref (p 6), .int (nI 0), .ref (p 7), .int (nI ps), .int th, .ref (p 8)])), (p 1, .inl (cI, 320, .inl Ax)), (p 2, .inl (cI, 4032, .inl ((mEnd n cnt Ax s.1).1.1))), (p 3, .inl (cI, 4032, .inl ((mEnd n cnt Ax s.1).1.2.1))), (p 4, .inl (cI, 4032, .inl ((mEnd n cnt Ax s.1).1.2.2.1))), (p 5, .inl (cI, 4032, .inl ((mEnd n cnt Ax s.1).1.2.2.2.1))), (p 6, .inl (cI, 4032, .inl s.2.2.1.1))] rfl dX4_reckon_239 ?_
                    refine z_iconst (pc := 242) (v := (nI 0)) hC dX4_reckon_242 (by decide +kernel) ?_
                    refine z_istore_n (pc := 243) hC hNL [(1, .int (nI 0)), (0, .ref (p 0))] dX4_reckon_243 (by decide) rfl ?_
                    have L244 : ∀ (fu : Nat) (r : Nat) (g : OS) (hi : r ≤ (mEnd n cnt Ax s.1).2) (hf : (mEnd n cnt Ax s.1).2 + 1 ≤ r + fu) (hg : g = mF (mEnd n cnt Ax s.1).1.1 (s.2.2.1.1, 0) r), Z K 0 0 [(p 0, .inr (5, [.int (nI n), .ref (p 1), .int (nI cnt), .int (bI (s.2.2.2)), .ref (p 2), .ref (p 3), .ref (p 4), .ref (p 5), .int (nI ((mEnd n cnt Ax s.1).2)), .int ((mEnd n cnt Ax s.1).1.2.2.2.2), .ref (p 6), .int (nI (g.2)), .ref (p 7), .int (nI ps), .int th, .ref (p 8)])), (p 1, .inl (cI, 320, .inl Ax)), (p 2, .inl (cI, 4032, .inl ((mEnd n cnt Ax s.1).1.1))), (p 3, .inl (cI, 4032, .inl ((mEnd n cnt Ax s.1).1.2.1))), (p 4, .inl (cI, 4032, .inl ((mEnd n cnt Ax s.1).1.2.2.1))), (p 5, .inl (cI, 4032, .inl ((mEnd n cnt Ax s.1).1.2.2.2.1))), (p 6, .inl (cI, 4032, .inl g.1))] [(1, .int (nI r)), (0, .ref (p 0))] 244 [] := by
                      intro fu
                      induction fu with
                      | zero =>
                        intro r g hi hf hg
                        exact absurd trivial (by omega)
                      | succ fu ih244 =>
                        intro r g hi hf hg
                        refine z_iload_n (pc := 244) hC 0 dX4_reckon_244 rfl ?_
                        refine z_aload_n (pc := 245) hC 1 dX4_reckon_245 rfl ?_
                        refine z_get (pc := 246) (C := RX4) (T := TX4) (N := 16) hC hinX4 0 rfl rfl 8 (by decide) (by decide +kernel) rfl dX4_reckon_246 ?_
                        refine z_ncmp_ge (pc := 249) (tgt := 306) hC dX4_reckon_249 (by decide) (by omega) (by omega) (fun h249 => ?_) (fun h249 => ?_)
                        · refine z_aload_n (pc := 306) hC 1 dX4_reckon_306 rfl ?_
                          refine z_iconst (pc := 307) (v := (nI 1)) hC dX4_reckon_307 (by decide +kernel) ?_
                          refine z_topi (bI (true)) rfl ?_
                          refine z_put (pc := 308) (C := RX4) (T := TX4) (N := 16) hC hinX4 0 rfl rfl 3 (by decide) tyX4 tyX4_ok nmX4 (by decide +kernel) rfl (by decide +kernel) (by decide +kernel) (Nat.le_of_ble_eq_true rfl) [(p 0, .inr (5, [.int (nI n), .ref (p 1), .int (nI cnt), .int (bI (true)), .ref (p 2), .ref (p 3), .ref (p 4), .ref (p 5), .int (nI ((mEnd n cnt Ax s.1).2)), .int ((mEnd n cnt Ax s.1).1.2.2.2.2), .ref (p 6), .int (nI (g.2)), .ref (p 7), .int (nI ps), .int th, .ref (p 8)])), (p 1, .inl (cI, 320, .inl Ax)), (p 2, .inl (cI, 4032, .inl ((mEnd n cnt Ax s.1).1.1))), (p 3, .inl (cI, 4032, .inl ((mEnd n cnt Ax s.1).1.2.1))), (p 4, .inl (cI, 4032, .inl ((mEnd n cnt Ax s.1).1.2.2.1))), (p 5, .inl (cI, 4032, .inl ((mEnd n cnt Ax s.1).1.2.2.2.1))), (p 6, .inl (cI, 4032, .inl g.1))] rfl dX4_reckon_308 ?_
                          exact z_vret (pc := 311) hC hQ hRT (by rw [hg, show r = (mEnd n cnt Ax s.1).2 by omega]; rfl) dX4_reckon_311
                        · refine z_iconst (pc := 252) (v := (nI 0)) hC dX4_reckon_252 (by decide +kernel) ?_
                          refine z_istore_n (pc := 253) hC hNL [(2, .int (nI 0)), (1, .int (nI r)), (0, .ref (p 0))] dX4_reckon_253 (by decide) rfl ?_
                          have L254 : ∀ (fu : Nat) (c2 : Nat) (g2 : OS) (hi2 : c2 ≤ 4032) (hf2 : 4033 ≤ c2 + fu) (hg2 : g2 = mF1 (mEnd n cnt Ax s.1).1.1 r (mF (mEnd n cnt Ax s.1).1.1 (s.2.2.1.1, 0) r) c2), Z K 0 0 [(p 0, .inr (5, [.int (nI n), .ref (p 1), .int (nI cnt), .int (bI (s.2.2.2)), .ref (p 2), .ref (p 3), .ref (p 4), .ref (p 5), .int (nI ((mEnd n cnt Ax s.1).2)), .int ((mEnd n cnt Ax s.1).1.2.2.2.2), .ref (p 6), .int (nI (g2.2)), .ref (p 7), .int (nI ps), .int th, .ref (p 8)])), (p 1, .inl (cI, 320, .inl Ax)), (p 2, .inl (cI, 4032, .inl ((mEnd n cnt Ax s.1).1.1))), (p 3, .inl (cI, 4032, .inl ((mEnd n cnt Ax s.1).1.2.1))), (p 4, .inl (cI, 4032, .inl ((mEnd n cnt Ax s.1).1.2.2.1))), (p 5, .inl (cI, 4032, .inl ((mEnd n cnt Ax s.1).1.2.2.2.1))), (p 6, .inl (cI, 4032, .inl g2.1))] [(2, .int (nI c2)), (1, .int (nI r)), (0, .ref (p 0))] 254 [] := by
                            intro fu
                            induction fu with
                            | zero =>
                              intro c2 g2 hi2 hf2 hg2
                              exact absurd trivial (by omega)
                            | succ fu ih254 =>
                              intro c2 g2 hi2 hf2 hg2
                              refine z_iload_n (pc := 254) hC 0 dX4_reckon_254 rfl ?_
                              refine z_sipush (pc := 255) (v := (nI 4032)) hC dX4_reckon_255 (by decide +kernel) ?_
                              refine z_ncmp_ge (pc := 258) (tgt := 300) hC dX4_reckon_258 (by decide) (by omega) (by omega) (fun h258 => ?_) (fun h258 => ?_)
                              · refine z_iinc (pc := 300) (q := 1) (x := (nI r)) (v := (nI (r + 1))) hC hNL [(1, .int (nI (r + 1))), (2, .int (nI c2)), (0, .ref (p 0))] dX4_reckon_300 rfl (nI_add _ _) (by decide) rfl ?_
                                refine z_goto (pc := 303) (tgt := 244) hC dX4_reckon_303 (by decide) ?_
                                refine z_lv [0, 2] rfl ?_
                                exact ih244 (r + 1) (g2) (by omega) (by omega) (by rw [hg2, show c2 = 4032 by omega]; rfl)
                              · refine z_aload_n (pc := 261) hC 2 dX4_reckon_261 rfl ?_
                                refine z_get (pc := 262) (C := RX4) (T := TX4) (N := 16) hC hinX4 0 rfl rfl 4 (by decide) (by decide +kernel) rfl dX4_reckon_262 ?_
                                refine z_iload_n (pc := 265) hC 0 dX4_reckon_265 rfl ?_
                                refine z_iald (pc := 266) (v := (((mEnd n cnt Ax s.1).1.1) c2)) hC 2 0 rfl rfl (by omega) (by decide) (rfl) dX4_reckon_266 ?_
                                refine z_iload_n (pc := 267) hC 1 dX4_reckon_267 rfl ?_
                                refine z_icmp_eq (pc := 268) (tgt := 274) hC dX4_reckon_268 (by decide) (fun h268 => ?_) (fun h268 => ?_)
                                · refine z_aload_n (pc := 274) hC 2 dX4_reckon_274 rfl ?_
                                  refine z_get (pc := 275) (C := RX4) (T := TX4) (N := 16) hC hinX4 0 rfl rfl 10 (by decide) (by decide +kernel) rfl dX4_reckon_275 ?_
                                  refine z_aload_n (pc := 278) hC 2 dX4_reckon_278 rfl ?_
                                  refine z_get (pc := 279) (C := RX4) (T := TX4) (N := 16) hC hinX4 0 rfl rfl 11 (by decide) (by decide +kernel) rfl dX4_reckon_279 ?_
                                  refine z_iload_n (pc := 282) hC 0 dX4_reckon_282 rfl ?_
                                  refine z_iast (pc := 283) hC 6 0 rfl rfl (by rw [hg2]; exact mF_room (by omega) (by omega) h268) (by decide) [(p 0, .inr (5, [.int (nI n), .ref (p 1), .int (nI cnt), .int (bI (s.2.2.2)), .ref (p 2), .ref (p 3), .ref (p 4), .ref (p 5), .int (nI ((mEnd n cnt Ax s.1).2)), .int ((mEnd n cnt Ax s.1).1.2.2.2.2), .ref (p 6), .int (nI (g2.2)), .ref (p 7), .int (nI ps), .int th, .ref (p 8)])), (p 1, .inl (cI, 320, .inl Ax)), (p 2, .inl (cI, 4032, .inl ((mEnd n cnt Ax s.1).1.1))), (p 3, .inl (cI, 4032, .inl ((mEnd n cnt Ax s.1).1.2.1))), (p 4, .inl (cI, 4032, .inl ((mEnd n cnt Ax s.1).1.2.2.1))), (p 5, .inl (cI, 4032, .inl ((mEnd n cnt Ax s.1).1.2.2.2.1))), (p 6, .inl (cI, 4032, .inl (upd g2.1 g2.2 (nI c2))))] rfl dX4_reckon_283 ?_
                                  refine z_aload_n (pc := 284) hC 2 dX4_reckon_284 rfl ?_
                                  refine z_dup (pc := 285) hC dX4_reckon_285 rfl ?_
                                  refine z_get (pc := 286) (C := RX4) (T := TX4) (N := 16) hC hinX4 0 rfl rfl 11 (by decide) (by decide +kernel) rfl dX4_reckon_286 ?_
                                  refine z_iconst (pc := 289) (v := (nI 1)) hC dX4_reckon_289 (by decide +kernel) ?_
                                  refine z_iadd (pc := 290) (v := (nI (g2.2 + 1))) hC dX4_reckon_290 (nI_add _ _) ?_
                                  refine z_put (pc := 291) (C := RX4) (T := TX4) (N := 16) hC hinX4 0 rfl rfl 11 (by decide) tyX4 tyX4_ok nmX4 (by decide +kernel) rfl (rfl) (rfl) (Nat.le_of_ble_eq_true rfl) [(p 0, .inr (5, [.int (nI n), .ref (p 1), .int (nI cnt), .int (bI (s.2.2.2)), .ref (p 2), .ref (p 3), .ref (p 4), .ref (p 5), .int (nI ((mEnd n cnt Ax s.1).2)), .int ((mEnd n cnt Ax s.1).1.2.2.2.2), .ref (p 6), .int (nI (g2.2 + 1)), .ref (p 7), .int (nI ps), .int th, .ref (p 8)])), (p 1, .inl (cI, 320, .inl Ax)), (p 2, .inl (cI, 4032, .inl ((mEnd n cnt Ax s.1).1.1))), (p 3, .inl (cI, 4032, .inl ((mEnd n cnt Ax s.1).1.2.1))), (p 4, .inl (cI, 4032, .inl ((mEnd n cnt Ax s.1).1.2.2.1))), (p 5, .inl (cI, 4032, .inl ((mEnd n cnt Ax s.1).1.2.2.2.1))), (p 6, .inl (cI, 4032, .inl (upd g2.1 g2.2 (nI c2))))] rfl dX4_reckon_291 ?_
                                  refine z_iinc (pc := 294) (q := 0) (x := (nI c2)) (v := (nI (c2 + 1))) hC hNL [(2, .int (nI (c2 + 1))), (1, .int (nI r)), (0, .ref (p 0))] dX4_reckon_294 rfl (nI_add _ _) (by decide) rfl ?_
                                  refine z_goto (pc := 297) (tgt := 254) hC dX4_reckon_297 (by decide) ?_
                                  exact ih254 (c2 + 1) ((upd g2.1 g2.2 (nI c2), g2.2 + 1)) (by omega) (by omega) (by first | rw [mF1_t h268, hg2] | rw [mF1_f h268, hg2])
                                · refine z_goto (pc := 271) (tgt := 294) hC dX4_reckon_271 (by decide) ?_
                                  refine z_iinc (pc := 294) (q := 0) (x := (nI c2)) (v := (nI (c2 + 1))) hC hNL [(2, .int (nI (c2 + 1))), (1, .int (nI r)), (0, .ref (p 0))] dX4_reckon_294 rfl (nI_add _ _) (by decide) rfl ?_
                                  refine z_goto (pc := 297) (tgt := 254) hC dX4_reckon_297 (by decide) ?_
                                  exact ih254 (c2 + 1) (g2) (by omega) (by omega) (by first | rw [mF1_t h268, hg2] | rw [mF1_f h268, hg2])
                          exact L254 (4033) (0) (g) (by omega) (by omega) (by rw [hg]; rfl)
                    exact L244 ((mEnd n cnt Ax s.1).2 + 1) (0) ((s.2.2.1.1, 0)) (by omega) (by omega) (rfl)
                  · refine z_aload_n (pc := 129) hC 0 dX4_reckon_129 rfl ?_
                    refine z_iconst (pc := 130) (v := (nI 0)) hC dX4_reckon_130 (by decide +kernel) ?_
                    refine z_put (pc := 131) (C := RX4) (T := TX4) (N := 16) hC hinX4 0 rfl rfl 9 (by decide) tyX4 tyX4_ok nmX4 (by decide +kernel) rfl (rfl) (rfl) (Nat.le_of_ble_eq_true rfl) [(p 0, .inr (5, [.int (nI n), .ref (p 1), .int (nI cnt), .int (bI (s.2.2.2)), .ref (p 2), .ref (p 3), .ref (p 4), .ref (p 5), .int (nI (y.2)), .int (nI 0), .ref (p 6), .int (nI (s.2.2.1.2)), .ref (p 7), .int (nI ps), .int th, .ref (p 8)])), (p 1, .inl (cI, 320, .inl Ax)), (p 2, .inl (cI, 4032, .inl y.1.1)), (p 3, .inl (cI, 4032, .inl y.1.2.1)), (p 4, .inl (cI, 4032, .inl y.1.2.2.1)), (p 5, .inl (cI, 4032, .inl y.1.2.2.2.1)), (p 6, .inl (cI, 4032, .inl s.2.2.1.1))] rfl dX4_reckon_131 ?_
                    refine z_aload_n (pc := 134) hC 0 dX4_reckon_134 rfl ?_
                    refine z_dup (pc := 135) hC dX4_reckon_135 rfl ?_
                    refine z_get (pc := 136) (C := RX4) (T := TX4) (N := 16) hC hinX4 0 rfl rfl 8 (by decide) (by decide +kernel) rfl dX4_reckon_136 ?_
                    refine z_iconst (pc := 139) (v := (nI 1)) hC dX4_reckon_139 (by decide +kernel) ?_
                    refine z_iadd (pc := 140) (v := (nI (y.2 + 1))) hC dX4_reckon_140 (nI_add _ _) ?_
                    refine z_put (pc := 141) (C := RX4) (T := TX4) (N := 16) hC hinX4 0 rfl rfl 8 (by decide) tyX4 tyX4_ok nmX4 (by decide +kernel) rfl (rfl) (rfl) (Nat.le_of_ble_eq_true rfl) [(p 0, .inr (5, [.int (nI n), .ref (p 1), .int (nI cnt), .int (bI (s.2.2.2)), .ref (p 2), .ref (p 3), .ref (p 4), .ref (p 5), .int (nI (y.2 + 1)), .int (nI 0), .ref (p 6), .int (nI (s.2.2.1.2)), .ref (p 7), .int (nI ps), .int th, .ref (p 8)])), (p 1, .inl (cI, 320, .inl Ax)), (p 2, .inl (cI, 4032, .inl y.1.1)), (p 3, .inl (cI, 4032, .inl y.1.2.1)), (p 4, .inl (cI, 4032, .inl y.1.2.2.1)), (p 5, .inl (cI, 4032, .inl y.1.2.2.2.1)), (p 6, .inl (cI, 4032, .inl s.2.2.1.1))] rfl dX4_reckon_141 ?_
                    refine z_iconst (pc := 144) (v := (nI 0)) hC dX4_reckon_144 (by decide +kernel) ?_
                    refine z_istore_n (pc := 145) hC hNL [(1, .int (nI 0)), (0, .ref (p 0))] dX4_reckon_145 (by decide) rfl ?_
                    have L146 : ∀ (fu : Nat) (i : Nat) (v : MS) (hi : i ≤ n) (hf : n + 1 ≤ i + fu) (hv : v = mPx n cnt (nI (y.2 + 1)) Ax (y.1.1, y.1.2.1, y.1.2.2.1, y.1.2.2.2.1, nI 0) i), Z K 0 0 [(p 0, .inr (5, [.int (nI n), .ref (p 1), .int (nI cnt), .int (bI (s.2.2.2)), .ref (p 2), .ref (p 3), .ref (p 4), .ref (p 5), .int (nI (y.2 + 1)), .int v.2.2.2.2, .ref (p 6), .int (nI (s.2.2.1.2)), .ref (p 7), .int (nI ps), .int th, .ref (p 8)])), (p 1, .inl (cI, 320, .inl Ax)), (p 2, .inl (cI, 4032, .inl v.1)), (p 3, .inl (cI, 4032, .inl v.2.1)), (p 4, .inl (cI, 4032, .inl v.2.2.1)), (p 5, .inl (cI, 4032, .inl v.2.2.2.1)), (p 6, .inl (cI, 4032, .inl s.2.2.1.1))] [(1, .int (nI i)), (0, .ref (p 0))] 146 [] := by
                      intro fu
                      induction fu with
                      | zero =>
                        intro i v hi hf hv
                        exact absurd trivial (by omega)
                      | succ fu ih146 =>
                        intro i v hi hf hv
                        refine z_iload_n (pc := 146) hC 0 dX4_reckon_146 rfl ?_
                        refine z_aload_n (pc := 147) hC 1 dX4_reckon_147 rfl ?_
                        refine z_get (pc := 148) (C := RX4) (T := TX4) (N := 16) hC hinX4 0 rfl rfl 0 (by decide) (by decide +kernel) rfl dX4_reckon_148 ?_
                        refine z_ncmp_ge (pc := 151) (tgt := 234) hC dX4_reckon_151 (by decide) (by omega) (by omega) (fun h151 => ?_) (fun h151 => ?_)
                        · refine z_weq [(p 0, .inr (5, [.int (nI n), .ref (p 1), .int (nI cnt), .int (bI (s.2.2.2)), .ref (p 2), .ref (p 3), .ref (p 4), .ref (p 5), .int (nI ((mPass n cnt Ax y).2)), .int ((mPass n cnt Ax y).1.2.2.2.2), .ref (p 6), .int (nI (s.2.2.1.2)), .ref (p 7), .int (nI ps), .int th, .ref (p 8)])), (p 1, .inl (cI, 320, .inl Ax)), (p 2, .inl (cI, 4032, .inl ((mPass n cnt Ax y).1.1))), (p 3, .inl (cI, 4032, .inl ((mPass n cnt Ax y).1.2.1))), (p 4, .inl (cI, 4032, .inl ((mPass n cnt Ax y).1.2.2.1))), (p 5, .inl (cI, 4032, .inl ((mPass n cnt Ax y).1.2.2.2.1))), (p 6, .inl (cI, 4032, .inl s.2.2.1.1))] (by have e9 : v = (mPass n cnt Ax y).1 := (by rw [hv, show i = n by omega]; rfl); rw [e9]; rfl) ?_
                          refine z_goto (pc := 234) (tgt := 122) hC dX4_reckon_234 (by decide) ?_
                          refine z_lv [1] rfl ?_
                          exact ih122 (mPass n cnt Ax y) (by have e9 : (mPass n cnt Ax y).2 = y.2 + 1 := rfl; omega) (by have := h2f h126; omega) (fun h9 => by have q1 := mPass_dec hn hax hkd (by omega) h9; have q2 := h2f h126; omega) (by rw [hX, mLoop_n h126])
                        · refine z_iconst (pc := 154) (v := (nI 0)) hC dX4_reckon_154 (by decide +kernel) ?_
                          refine z_istore_n (pc := 155) hC hNL [(2, .int (nI 0)), (1, .int (nI i)), (0, .ref (p 0))] dX4_reckon_155 (by decide) rfl ?_
                          have L156 : ∀ (fu : Nat) (k2 : Nat) (w2 : MS) (hi2 : k2 ≤ cnt) (hf2 : cnt + 1 ≤ k2 + fu) (hw2 : w2 = mOk n (nI (y.2 + 1)) Ax i (mPx n cnt (nI (y.2 + 1)) Ax (y.1.1, y.1.2.1, y.1.2.2.1, y.1.2.2.2.1, nI 0) i) k2), Z K 0 0 [(p 0, .inr (5, [.int (nI n), .ref (p 1), .int (nI cnt), .int (bI (s.2.2.2)), .ref (p 2), .ref (p 3), .ref (p 4), .ref (p 5), .int (nI (y.2 + 1)), .int w2.2.2.2.2, .ref (p 6), .int (nI (s.2.2.1.2)), .ref (p 7), .int (nI ps), .int th, .ref (p 8)])), (p 1, .inl (cI, 320, .inl Ax)), (p 2, .inl (cI, 4032, .inl w2.1)), (p 3, .inl (cI, 4032, .inl w2.2.1)), (p 4, .inl (cI, 4032, .inl w2.2.2.1)), (p 5, .inl (cI, 4032, .inl w2.2.2.2.1)), (p 6, .inl (cI, 4032, .inl s.2.2.1.1))] [(2, .int (nI k2)), (1, .int (nI i)), (0, .ref (p 0))] 156 [] := by
                            intro fu
                            induction fu with
                            | zero =>
                              intro k2 w2 hi2 hf2 hw2
                              exact absurd trivial (by omega)
                            | succ fu ih156 =>
                              intro k2 w2 hi2 hf2 hw2
                              refine z_iload_n (pc := 156) hC 0 dX4_reckon_156 rfl ?_
                              refine z_aload_n (pc := 157) hC 2 dX4_reckon_157 rfl ?_
                              refine z_get (pc := 158) (C := RX4) (T := TX4) (N := 16) hC hinX4 0 rfl rfl 2 (by decide) (by decide +kernel) rfl dX4_reckon_158 ?_
                              refine z_ncmp_ge (pc := 161) (tgt := 176) hC dX4_reckon_161 (by decide) (by omega) (by omega) (fun h161 => ?_) (fun h161 => ?_)
                              · refine z_iconst (pc := 176) (v := (nI 0)) hC dX4_reckon_176 (by decide +kernel) ?_
                                refine z_istore_n (pc := 177) hC hNL [(2, .int (nI 0)), (1, .int (nI i)), (0, .ref (p 0))] dX4_reckon_177 (by decide) rfl ?_
                                have L178 : ∀ (fu : Nat) (r2 : Nat) (b1 : MS) (hi3 : r2 ≤ 6) (hf3 : 7 ≤ r2 + fu) (hb1 : b1 = mBr n (nI (y.2 + 1)) i (mOk n (nI (y.2 + 1)) Ax i (mPx n cnt (nI (y.2 + 1)) Ax (y.1.1, y.1.2.1, y.1.2.2.1, y.1.2.2.2.1, nI 0) i) cnt) r2), Z K 0 0 [(p 0, .inr (5, [.int (nI n), .ref (p 1), .int (nI cnt), .int (bI (s.2.2.2)), .ref (p 2), .ref (p 3), .ref (p 4), .ref (p 5), .int (nI (y.2 + 1)), .int b1.2.2.2.2, .ref (p 6), .int (nI (s.2.2.1.2)), .ref (p 7), .int (nI ps), .int th, .ref (p 8)])), (p 1, .inl (cI, 320, .inl Ax)), (p 2, .inl (cI, 4032, .inl b1.1)), (p 3, .inl (cI, 4032, .inl b1.2.1)), (p 4, .inl (cI, 4032, .inl b1.2.2.1)), (p 5, .inl (cI, 4032, .inl b1.2.2.2.1)), (p 6, .inl (cI, 4032, .inl s.2.2.1.1))] [(2, .int (nI r2)), (1, .int (nI i)), (0, .ref (p 0))] 178 [] := by
                                  intro fu
                                  induction fu with
                                  | zero =>
                                    intro r2 b1 hi3 hf3 hb1
                                    exact absurd trivial (by omega)
                                  | succ fu ih178 =>
                                    intro r2 b1 hi3 hf3 hb1
                                    refine z_iload_n (pc := 178) hC 0 dX4_reckon_178 rfl ?_
                                    refine z_bipush (pc := 179) (v := (nI 6)) hC dX4_reckon_179 (by decide +kernel) ?_
                                    refine z_ncmp_ge (pc := 181) (tgt := 228) hC dX4_reckon_181 (by decide) (by omega) (by omega) (fun h181 => ?_) (fun h181 => ?_)
                                    · refine z_iinc (pc := 228) (q := 1) (x := (nI i)) (v := (nI (i + 1))) hC hNL [(1, .int (nI (i + 1))), (2, .int (nI r2)), (0, .ref (p 0))] dX4_reckon_228 rfl (nI_add _ _) (by decide) rfl ?_
                                      refine z_goto (pc := 231) (tgt := 146) hC dX4_reckon_231 (by decide) ?_
                                      refine z_lv [0, 2] rfl ?_
                                      exact ih146 (i + 1) (b1) (by omega) (by omega) (by rw [hb1, show r2 = 6 by omega]; rfl)
                                    · refine z_iconst (pc := 184) (v := (nI 0)) hC dX4_reckon_184 (by decide +kernel) ?_
                                      refine z_istore_n (pc := 185) hC hNL [(3, .int (nI 0)), (2, .int (nI r2)), (1, .int (nI i)), (0, .ref (p 0))] dX4_reckon_185 (by decide) rfl ?_
                                      have L186 : ∀ (fu : Nat) (y2 : Nat) (b2 : MS) (hi4 : y2 ≤ n) (hf4 : n + 1 ≤ y2 + fu) (hb2 : b2 = mBy (nI (y.2 + 1)) i r2 b1 y2), Z K 0 0 [(p 0, .inr (5, [.int (nI n), .ref (p 1), .int (nI cnt), .int (bI (s.2.2.2)), .ref (p 2), .ref (p 3), .ref (p 4), .ref (p 5), .int (nI (y.2 + 1)), .int b2.2.2.2.2, .ref (p 6), .int (nI (s.2.2.1.2)), .ref (p 7), .int (nI ps), .int th, .ref (p 8)])), (p 1, .inl (cI, 320, .inl Ax)), (p 2, .inl (cI, 4032, .inl b2.1)), (p 3, .inl (cI, 4032, .inl b2.2.1)), (p 4, .inl (cI, 4032, .inl b2.2.2.1)), (p 5, .inl (cI, 4032, .inl b2.2.2.2.1)), (p 6, .inl (cI, 4032, .inl s.2.2.1.1))] [(3, .int (nI y2)), (2, .int (nI r2)), (1, .int (nI i)), (0, .ref (p 0))] 186 [] := by
                                        intro fu
                                        induction fu with
                                        | zero =>
                                          intro y2 b2 hi4 hf4 hb2
                                          exact absurd trivial (by omega)
                                        | succ fu ih186 =>
                                          intro y2 b2 hi4 hf4 hb2
                                          refine z_iload_n (pc := 186) hC 0 dX4_reckon_186 rfl ?_
                                          refine z_aload_n (pc := 187) hC 3 dX4_reckon_187 rfl ?_
                                          refine z_get (pc := 188) (C := RX4) (T := TX4) (N := 16) hC hinX4 0 rfl rfl 0 (by decide) (by decide +kernel) rfl dX4_reckon_188 ?_
                                          refine z_ncmp_ge (pc := 191) (tgt := 222) hC dX4_reckon_191 (by decide) (by omega) (by omega) (fun h191 => ?_) (fun h191 => ?_)
                                          · refine z_iinc (pc := 222) (q := 1) (x := (nI r2)) (v := (nI (r2 + 1))) hC hNL [(2, .int (nI (r2 + 1))), (3, .int (nI y2)), (1, .int (nI i)), (0, .ref (p 0))] dX4_reckon_222 rfl (nI_add _ _) (by decide) rfl ?_
                                            refine z_goto (pc := 225) (tgt := 178) hC dX4_reckon_225 (by decide) ?_
                                            refine z_lv [0, 2, 3] rfl ?_
                                            exact ih178 (r2 + 1) (b2) (by omega) (by omega) (by rw [hb2, show y2 = n by omega, hb1]; rfl)
                                          · refine z_aload_n (pc := 194) hC 3 dX4_reckon_194 rfl ?_
                                            refine z_iload_n (pc := 195) hC 2 dX4_reckon_195 rfl ?_
                                            refine z_iconst (pc := 196) (v := (nI 1)) hC dX4_reckon_196 (by decide +kernel) ?_
                                            refine z_callS_I (pc := 197) (y := yX4_code) (wy := wsX4_code) (rm := { frames := 0, cells := 0, slots := 0, locals := 0 }) (As := [.int (nI i), .int (nI 1)]) (rest := [.ref (p 0)]) (na := 2)  (wc := []) (wc2 := []) hC hRm hDis hLis gX4_reckon_X4_code ⟨by decide +kernel, by decide +kernel⟩ rfl ⟨by decide, by decide⟩ ⟨by decide, by decide⟩ rfl (Nat.le_of_ble_eq_true rfl) (by decide +kernel) (c_X4_code _ _ cI cJ cZ (i) (1) (by decide)) [] [0, 1, 2, 3, 4, 5, 6] [0, 1, 2, 3, 4, 5, 6] [(p 0, .inr (5, [.int (nI n), .ref (p 1), .int (nI cnt), .int (bI (s.2.2.2)), .ref (p 2), .ref (p 3), .ref (p 4), .ref (p 5), .int (nI (y.2 + 1)), .int b2.2.2.2.2, .ref (p 6), .int (nI (s.2.2.1.2)), .ref (p 7), .int (nI ps), .int th, .ref (p 8)])), (p 1, .inl (cI, 320, .inl Ax)), (p 2, .inl (cI, 4032, .inl b2.1)), (p 3, .inl (cI, 4032, .inl b2.2.1)), (p 4, .inl (cI, 4032, .inl b2.2.2.1)), (p 5, .inl (cI, 4032, .inl b2.2.2.2.1)), (p 6, .inl (cI, 4032, .inl s.2.2.1.1))] rfl (by decide) rfl (by decide) (by decide) [(p 0, .inr (5, [.int (nI n), .ref (p 1), .int (nI cnt), .int (bI (s.2.2.2)), .ref (p 2), .ref (p 3), .ref (p 4), .ref (p 5), .int (nI (y.2 + 1)), .int b2.2.2.2.2, .ref (p 6), .int (nI (s.2.2.1.2)), .ref (p 7), .int (nI ps), .int th, .ref (p 8)])), (p 1, .inl (cI, 320, .inl Ax)), (p 2, .inl (cI, 4032, .inl b2.1)), (p 3, .inl (cI, 4032, .inl b2.2.1)), (p 4, .inl (cI, 4032, .inl b2.2.2.1)), (p 5, .inl (cI, 4032, .inl b2.2.2.2.1)), (p 6, .inl (cI, 4032, .inl s.2.2.1.1))] rfl (by decide) rfl dX4_reckon_197 ?_
                                            refine z_bipush (pc := 200) (v := (nI 100)) hC dX4_reckon_200 (by decide +kernel) ?_
                                            refine z_iload_n (pc := 202) hC 2 dX4_reckon_202 rfl ?_
                                            refine z_iload_n (pc := 203) hC 1 dX4_reckon_203 rfl ?_
                                            refine z_iload_n (pc := 204) hC 0 dX4_reckon_204 rfl ?_
                                            refine z_callS_I (pc := 205) (y := yX4_linked) (wy := wsX4_linked) (rm := { frames := 0, cells := 0, slots := 0, locals := 0 }) (As := [.int (nI i), .int (nI r2), .int (nI y2)]) (rest := [.int (nI 100), .int (nI (cod i 1)), .ref (p 0)]) (na := 3)  (wc := []) (wc2 := []) hC hRm hDis hLis gX4_reckon_X4_linked ⟨by decide +kernel, by decide +kernel⟩ rfl ⟨by decide, by decide⟩ ⟨by decide, by decide⟩ rfl (Nat.le_of_ble_eq_true rfl) (by decide +kernel) (c_X4_linked _ _ cI cJ cZ (i) (r2) (y2) ) [] [0, 1, 2, 3, 4, 5, 6] [0, 1, 2, 3, 4, 5, 6] [(p 0, .inr (5, [.int (nI n), .ref (p 1), .int (nI cnt), .int (bI (s.2.2.2)), .ref (p 2), .ref (p 3), .ref (p 4), .ref (p 5), .int (nI (y.2 + 1)), .int b2.2.2.2.2, .ref (p 6), .int (nI (s.2.2.1.2)), .ref (p 7), .int (nI ps), .int th, .ref (p 8)])), (p 1, .inl (cI, 320, .inl Ax)), (p 2, .inl (cI, 4032, .inl b2.1)), (p 3, .inl (cI, 4032, .inl b2.2.1)), (p 4, .inl (cI, 4032, .inl b2.2.2.1)), (p 5, .inl (cI, 4032, .inl b2.2.2.2.1)), (p 6, .inl (cI, 4032, .inl s.2.2.1.1))] rfl (by decide) rfl (by decide) (by decide) [(p 0, .inr (5, [.int (nI n), .ref (p 1), .int (nI cnt), .int (bI (s.2.2.2)), .ref (p 2), .ref (p 3), .ref (p 4), .ref (p 5), .int (nI (y.2 + 1)), .int b2.2.2.2.2, .ref (p 6), .int (nI (s.2.2.1.2)), .ref (p 7), .int (nI ps), .int th, .ref (p 8)])), (p 1, .inl (cI, 320, .inl Ax)), (p 2, .inl (cI, 4032, .inl b2.1)), (p 3, .inl (cI, 4032, .inl b2.2.1)), (p 4, .inl (cI, 4032, .inl b2.2.2.1)), (p 5, .inl (cI, 4032, .inl b2.2.2.2.1)), (p 6, .inl (cI, 4032, .inl s.2.2.1.1))] rfl (by decide) rfl dX4_reckon_205 ?_
                                            refine z_iload_n (pc := 208) hC 0 dX4_reckon_208 rfl ?_
                                            refine z_iconst (pc := 209) (v := (nI 1)) hC dX4_reckon_209 (by decide +kernel) ?_
                                            refine z_callS_I (pc := 210) (y := yX4_code) (wy := wsX4_code) (rm := { frames := 0, cells := 0, slots := 0, locals := 0 }) (As := [.int (nI y2), .int (nI 1)]) (rest := [.int (nI (cod i (lcol r2 y2))), .int (nI 100), .int (nI (cod i 1)), .ref (p 0)]) (na := 2)  (wc := []) (wc2 := []) hC hRm hDis hLis gX4_reckon_X4_code ⟨by decide +kernel, by decide +kernel⟩ rfl ⟨by decide, by decide⟩ ⟨by decide, by decide⟩ rfl (Nat.le_of_ble_eq_true rfl) (by decide +kernel) (c_X4_code _ _ cI cJ cZ (y2) (1) (by decide)) [] [0, 1, 2, 3, 4, 5, 6] [0, 1, 2, 3, 4, 5, 6] [(p 0, .inr (5, [.int (nI n), .ref (p 1), .int (nI cnt), .int (bI (s.2.2.2)), .ref (p 2), .ref (p 3), .ref (p 4), .ref (p 5), .int (nI (y.2 + 1)), .int b2.2.2.2.2, .ref (p 6), .int (nI (s.2.2.1.2)), .ref (p 7), .int (nI ps), .int th, .ref (p 8)])), (p 1, .inl (cI, 320, .inl Ax)), (p 2, .inl (cI, 4032, .inl b2.1)), (p 3, .inl (cI, 4032, .inl b2.2.1)), (p 4, .inl (cI, 4032, .inl b2.2.2.1)), (p 5, .inl (cI, 4032, .inl b2.2.2.2.1)), (p 6, .inl (cI, 4032, .inl s.2.2.1.1))] rfl (by decide) rfl (by decide) (by decide) [(p 0, .inr (5, [.int (nI n), .ref (p 1), .int (nI cnt), .int (bI (s.2.2.2)), .ref (p 2), .ref (p 3), .ref (p 4), .ref (p 5), .int (nI (y.2 + 1)), .int b2.2.2.2.2, .ref (p 6), .int (nI (s.2.2.1.2)), .ref (p 7), .int (nI ps), .int th, .ref (p 8)])), (p 1, .inl (cI, 320, .inl Ax)), (p 2, .inl (cI, 4032, .inl b2.1)), (p 3, .inl (cI, 4032, .inl b2.2.1)), (p 4, .inl (cI, 4032, .inl b2.2.2.1)), (p 5, .inl (cI, 4032, .inl b2.2.2.2.1)), (p 6, .inl (cI, 4032, .inl s.2.2.1.1))] rfl (by decide) rfl dX4_reckon_210 ?_
                                            refine z_callV_V (pc := 213) (y := yX4_give) (wy := wsX4_give) (rm := { frames := 1, cells := 0, slots := 0, locals := 21 }) (As := [.int (nI (cod i 1)), .int (nI 100), .int (nI (cod i (lcol r2 y2))), .int (nI (cod y2 1))]) (rest := []) (na := 4) (C := RX4) (T := TX4) (NF := 16) (ci := 5) (wc := [(p 0, .inr (5, [.int (nI n), .ref (p 1), .int (nI cnt), .int (bI (s.2.2.2)), .ref (p 2), .ref (p 3), .ref (p 4), .ref (p 5), .int (nI (y.2 + 1)), .int b2.2.2.2.2, .ref (p 6), .int (nI (s.2.2.1.2)), .ref (p 7), .int (nI ps), .int th, .ref (p 8)])), (p 2, .inl (cI, 4032, .inl b2.1)), (p 3, .inl (cI, 4032, .inl b2.2.1)), (p 4, .inl (cI, 4032, .inl b2.2.2.1)), (p 5, .inl (cI, 4032, .inl b2.2.2.2.1))]) (wc2 := [(p 0, .inr (5, [.int (nI n), .ref (p 1), .int (nI cnt), .int (bI (s.2.2.2)), .ref (p 2), .ref (p 3), .ref (p 4), .ref (p 5), .int (nI ((y.2 + 1))), .int ((mG (nI (y.2 + 1)) (cod i 1) (nI 100) (cod i (lcol r2 y2)) (nI (cod y2 1)) b2).2.2.2.2), .ref (p 6), .int (nI (s.2.2.1.2)), .ref (p 7), .int (nI ps), .int th, .ref (p 8)])), (p 2, .inl (cI, 4032, .inl ((mG (nI (y.2 + 1)) (cod i 1) (nI 100) (cod i (lcol r2 y2)) (nI (cod y2 1)) b2).1))), (p 3, .inl (cI, 4032, .inl ((mG (nI (y.2 + 1)) (cod i 1) (nI 100) (cod i (lcol r2 y2)) (nI (cod y2 1)) b2).2.1))), (p 4, .inl (cI, 4032, .inl ((mG (nI (y.2 + 1)) (cod i 1) (nI 100) (cod i (lcol r2 y2)) (nI (cod y2 1)) b2).2.2.1))), (p 5, .inl (cI, 4032, .inl ((mG (nI (y.2 + 1)) (cod i 1) (nI 100) (cod i (lcol r2 y2)) (nI (cod y2 1)) b2).2.2.2.1)))]) hC hRm hDis hLis 0 rfl rfl gX4_reckon_X4_give ⟨rfl, by decide +kernel, by decide +kernel⟩ rfl ⟨by decide, by decide⟩ ⟨by decide, by decide⟩ rfl (Nat.le_of_ble_eq_true rfl) (by decide +kernel) (c_X4_give _ _ cI cJ cZ (p) (n) (cnt) (s.2.2.2) (y.2 + 1) (s.2.2.1.2) (ps) (th) (b2) (cod i 1) (nI 100) (cod i (lcol r2 y2)) (nI (cod y2 1)) (cod_lt (by omega) (by decide)) (cod_lt (by omega) (lcol_lt (by omega) (by omega))) (seCod (by omega) (by decide))) [0, 2, 3, 4, 5] [1, 6] [2, 0, 3, 4, 5, 6, 1] [(p 1, .inl (cI, 320, .inl Ax)), (p 6, .inl (cI, 4032, .inl s.2.2.1.1))] rfl (by decide) rfl (by decide) (by decide) [(p 0, .inr (5, [.int (nI n), .ref (p 1), .int (nI cnt), .int (bI (s.2.2.2)), .ref (p 2), .ref (p 3), .ref (p 4), .ref (p 5), .int (nI ((y.2 + 1))), .int ((mG (nI (y.2 + 1)) (cod i 1) (nI 100) (cod i (lcol r2 y2)) (nI (cod y2 1)) b2).2.2.2.2), .ref (p 6), .int (nI (s.2.2.1.2)), .ref (p 7), .int (nI ps), .int th, .ref (p 8)])), (p 1, .inl (cI, 320, .inl Ax)), (p 2, .inl (cI, 4032, .inl ((mG (nI (y.2 + 1)) (cod i 1) (nI 100) (cod i (lcol r2 y2)) (nI (cod y2 1)) b2).1))), (p 3, .inl (cI, 4032, .inl ((mG (nI (y.2 + 1)) (cod i 1) (nI 100) (cod i (lcol r2 y2)) (nI (cod y2 1)) b2).2.1))), (p 4, .inl (cI, 4032, .inl ((mG (nI (y.2 + 1)) (cod i 1) (nI 100) (cod i (lcol r2 y2)) (nI (cod y2 1)) b2).2.2.1))), (p 5, .inl (cI, 4032, .inl ((mG (nI (y.2 + 1)) (cod i 1) (nI 100) (cod i (lcol r2 y2)) (nI (cod y2 1)) b2).2.2.2.1))), (p 6, .inl (cI, 4032, .inl s.2.2.1.1))] rfl (by decide) rfl dX4_reckon_213 ?_
                                            refine z_iinc (pc := 216) (q := 0) (x := (nI y2)) (v := (nI (y2 + 1))) hC hNL [(3, .int (nI (y2 + 1))), (2, .int (nI r2)), (1, .int (nI i)), (0, .ref (p 0))] dX4_reckon_216 rfl (nI_add _ _) (by decide) rfl ?_
                                            refine z_goto (pc := 219) (tgt := 186) hC dX4_reckon_219 (by decide) ?_
                                            exact ih186 (y2 + 1) (mG (nI (y.2 + 1)) (cod i 1) (nI 100) (cod i (lcol r2 y2)) (nI (cod y2 1)) b2) (by omega) (by omega) (by rw [hb2]; rfl)
                                      exact L186 (n + 1) (0) (b1) (by omega) (by omega) (rfl)
                                exact L178 (7) (0) (w2) (by omega) (by omega) (by rw [hw2, show k2 = cnt by omega]; rfl)
                              · refine z_aload_n (pc := 164) hC 2 dX4_reckon_164 rfl ?_
                                refine z_iload_n (pc := 165) hC 0 dX4_reckon_165 rfl ?_
                                refine z_iload_n (pc := 166) hC 1 dX4_reckon_166 rfl ?_
                                refine z_callV_V (pc := 167) (y := yX4_one) (wy := wsX4_one) (rm := { frames := 3, cells := 0, slots := 0, locals := 75 }) (As := [.int (nI k2), .int (nI i)]) (rest := []) (na := 2) (C := RX4) (T := TX4) (NF := 16) (ci := 5) (wc := [(p 0, .inr (5, [.int (nI n), .ref (p 1), .int (nI cnt), .int (bI (s.2.2.2)), .ref (p 2), .ref (p 3), .ref (p 4), .ref (p 5), .int (nI (y.2 + 1)), .int w2.2.2.2.2, .ref (p 6), .int (nI (s.2.2.1.2)), .ref (p 7), .int (nI ps), .int th, .ref (p 8)])), (p 1, .inl (cI, 320, .inl Ax)), (p 2, .inl (cI, 4032, .inl w2.1)), (p 3, .inl (cI, 4032, .inl w2.2.1)), (p 4, .inl (cI, 4032, .inl w2.2.2.1)), (p 5, .inl (cI, 4032, .inl w2.2.2.2.1))]) (wc2 := [(p 0, .inr (5, [.int (nI n), .ref (p 1), .int (nI cnt), .int (bI (s.2.2.2)), .ref (p 2), .ref (p 3), .ref (p 4), .ref (p 5), .int (nI ((y.2 + 1))), .int ((mOne n (nI (y.2 + 1)) k2 (Ax (4 * k2)) (tn (Ax (4 * k2 + 1))) (tn (Ax (4 * k2 + 2))) (tn (Ax (4 * k2 + 3))) i w2).2.2.2.2), .ref (p 6), .int (nI (s.2.2.1.2)), .ref (p 7), .int (nI ps), .int th, .ref (p 8)])), (p 1, .inl (cI, 320, .inl Ax)), (p 2, .inl (cI, 4032, .inl ((mOne n (nI (y.2 + 1)) k2 (Ax (4 * k2)) (tn (Ax (4 * k2 + 1))) (tn (Ax (4 * k2 + 2))) (tn (Ax (4 * k2 + 3))) i w2).1))), (p 3, .inl (cI, 4032, .inl ((mOne n (nI (y.2 + 1)) k2 (Ax (4 * k2)) (tn (Ax (4 * k2 + 1))) (tn (Ax (4 * k2 + 2))) (tn (Ax (4 * k2 + 3))) i w2).2.1))), (p 4, .inl (cI, 4032, .inl ((mOne n (nI (y.2 + 1)) k2 (Ax (4 * k2)) (tn (Ax (4 * k2 + 1))) (tn (Ax (4 * k2 + 2))) (tn (Ax (4 * k2 + 3))) i w2).2.2.1))), (p 5, .inl (cI, 4032, .inl ((mOne n (nI (y.2 + 1)) k2 (Ax (4 * k2)) (tn (Ax (4 * k2 + 1))) (tn (Ax (4 * k2 + 2))) (tn (Ax (4 * k2 + 3))) i w2).2.2.2.1)))]) hC hRm hDis hLis 0 rfl rfl gX4_reckon_X4_one ⟨rfl, by decide +kernel, by decide +kernel⟩ rfl ⟨by decide, by decide⟩ ⟨by decide, by decide⟩ rfl (Nat.le_of_ble_eq_true rfl) (by decide +kernel) (c_X4_one _ _ cI cJ cZ (p) (n) (cnt) (s.2.2.2) (y.2 + 1) (s.2.2.1.2) (ps) (th) (w2) (Ax) (k2) (i) (hn) (by omega) (by omega) (hax k2 (by omega)) (hkd k2 (by omega))) [0, 1, 2, 3, 4, 5] [6] [1, 2, 3, 4, 5, 6, 0] [(p 6, .inl (cI, 4032, .inl s.2.2.1.1))] rfl (by decide) rfl (by decide) (by decide) [(p 0, .inr (5, [.int (nI n), .ref (p 1), .int (nI cnt), .int (bI (s.2.2.2)), .ref (p 2), .ref (p 3), .ref (p 4), .ref (p 5), .int (nI ((y.2 + 1))), .int ((mOne n (nI (y.2 + 1)) k2 (Ax (4 * k2)) (tn (Ax (4 * k2 + 1))) (tn (Ax (4 * k2 + 2))) (tn (Ax (4 * k2 + 3))) i w2).2.2.2.2), .ref (p 6), .int (nI (s.2.2.1.2)), .ref (p 7), .int (nI ps), .int th, .ref (p 8)])), (p 1, .inl (cI, 320, .inl Ax)), (p 2, .inl (cI, 4032, .inl ((mOne n (nI (y.2 + 1)) k2 (Ax (4 * k2)) (tn (Ax (4 * k2 + 1))) (tn (Ax (4 * k2 + 2))) (tn (Ax (4 * k2 + 3))) i w2).1))), (p 3, .inl (cI, 4032, .inl ((mOne n (nI (y.2 + 1)) k2 (Ax (4 * k2)) (tn (Ax (4 * k2 + 1))) (tn (Ax (4 * k2 + 2))) (tn (Ax (4 * k2 + 3))) i w2).2.1))), (p 4, .inl (cI, 4032, .inl ((mOne n (nI (y.2 + 1)) k2 (Ax (4 * k2)) (tn (Ax (4 * k2 + 1))) (tn (Ax (4 * k2 + 2))) (tn (Ax (4 * k2 + 3))) i w2).2.2.1))), (p 5, .inl (cI, 4032, .inl ((mOne n (nI (y.2 + 1)) k2 (Ax (4 * k2)) (tn (Ax (4 * k2 + 1))) (tn (Ax (4 * k2 + 2))) (tn (Ax (4 * k2 + 3))) i w2).2.2.2.1))), (p 6, .inl (cI, 4032, .inl s.2.2.1.1))] rfl (by decide) rfl dX4_reckon_167 ?_
                                refine z_iinc (pc := 170) (q := 0) (x := (nI k2)) (v := (nI (k2 + 1))) hC hNL [(2, .int (nI (k2 + 1))), (1, .int (nI i)), (0, .ref (p 0))] dX4_reckon_170 rfl (nI_add _ _) (by decide) rfl ?_
                                refine z_goto (pc := 173) (tgt := 156) hC dX4_reckon_173 (by decide) ?_
                                exact ih156 (k2 + 1) (mOne n (nI (y.2 + 1)) k2 (Ax (4 * k2)) (tn (Ax (4 * k2 + 1))) (tn (Ax (4 * k2 + 2))) (tn (Ax (4 * k2 + 3))) i w2) (by omega) (by omega) (by rw [hw2]; rfl)
                          exact L156 (cnt + 1) (0) (v) (by omega) (by omega) (by rw [hv]; rfl)
                    exact L146 (n + 1) (0) ((y.1.1, y.1.2.1, y.1.2.2.1, y.1.2.2.2.1, nI 0)) (by omega) (by omega) (rfl)
              refine z_lv [1] rfl ?_
              exact L122 (5000) ((((mBeg n cnt Ax s.1).1, (mBeg n cnt Ax s.1).2.1, (mBeg n cnt Ax s.1).2.2.1, (mBeg n cnt Ax s.1).2.2.2.1, nI 1), 0)) (rfl) (by decide) (fun _ => by have := cU_le (mBeg n cnt Ax s.1).1 4032; show cU (mBeg n cnt Ax s.1).1 4032 + 2 ≤ 5000; omega) (rfl)
            · refine z_aload_n (pc := 40) hC 1 dX4_reckon_40 rfl ?_
              refine z_iload_n (pc := 41) hC 0 dX4_reckon_41 rfl ?_
              refine z_iload_n (pc := 42) hC 0 dX4_reckon_42 rfl ?_
              refine z_callS_I (pc := 43) (y := yX4_code) (wy := wsX4_code) (rm := { frames := 0, cells := 0, slots := 0, locals := 0 }) (As := [.int (nI i), .int (nI i)]) (rest := [.ref (p 0)]) (na := 2)  (wc := []) (wc2 := []) hC hRm hDis hLis gX4_reckon_X4_code ⟨by decide +kernel, by decide +kernel⟩ rfl ⟨by decide, by decide⟩ ⟨by decide, by decide⟩ rfl (Nat.le_of_ble_eq_true rfl) (by decide +kernel) (c_X4_code _ _ cI cJ cZ (i) (i) (by omega)) [] [0, 1, 2, 3, 4, 5, 6] [0, 1, 2, 3, 4, 5, 6] [(p 0, .inr (5, [.int (nI n), .ref (p 1), .int (nI cnt), .int (bI (s.2.2.2)), .ref (p 2), .ref (p 3), .ref (p 4), .ref (p 5), .int (nI (s.2.1)), .int w.2.2.2.2, .ref (p 6), .int (nI (s.2.2.1.2)), .ref (p 7), .int (nI ps), .int th, .ref (p 8)])), (p 1, .inl (cI, 320, .inl Ax)), (p 2, .inl (cI, 4032, .inl w.1)), (p 3, .inl (cI, 4032, .inl w.2.1)), (p 4, .inl (cI, 4032, .inl w.2.2.1)), (p 5, .inl (cI, 4032, .inl w.2.2.2.1)), (p 6, .inl (cI, 4032, .inl s.2.2.1.1))] rfl (by decide) rfl (by decide) (by decide) [(p 0, .inr (5, [.int (nI n), .ref (p 1), .int (nI cnt), .int (bI (s.2.2.2)), .ref (p 2), .ref (p 3), .ref (p 4), .ref (p 5), .int (nI (s.2.1)), .int w.2.2.2.2, .ref (p 6), .int (nI (s.2.2.1.2)), .ref (p 7), .int (nI ps), .int th, .ref (p 8)])), (p 1, .inl (cI, 320, .inl Ax)), (p 2, .inl (cI, 4032, .inl w.1)), (p 3, .inl (cI, 4032, .inl w.2.1)), (p 4, .inl (cI, 4032, .inl w.2.2.1)), (p 5, .inl (cI, 4032, .inl w.2.2.2.1)), (p 6, .inl (cI, 4032, .inl s.2.2.1.1))] rfl (by decide) rfl dX4_reckon_43 ?_
              refine z_callV_V (pc := 46) (y := yX4_start) (wy := wsX4_start) (rm := { frames := 0, cells := 0, slots := 0, locals := 0 }) (As := [.int (nI (cod i i))]) (rest := []) (na := 1) (C := RX4) (T := TX4) (NF := 16) (ci := 5) (wc := [(p 0, .inr (5, [.int (nI n), .ref (p 1), .int (nI cnt), .int (bI (s.2.2.2)), .ref (p 2), .ref (p 3), .ref (p 4), .ref (p 5), .int (nI (s.2.1)), .int w.2.2.2.2, .ref (p 6), .int (nI (s.2.2.1.2)), .ref (p 7), .int (nI ps), .int th, .ref (p 8)])), (p 2, .inl (cI, 4032, .inl w.1)), (p 3, .inl (cI, 4032, .inl w.2.1)), (p 4, .inl (cI, 4032, .inl w.2.2.1)), (p 5, .inl (cI, 4032, .inl w.2.2.2.1))]) (wc2 := [(p 0, .inr (5, [.int (nI n), .ref (p 1), .int (nI cnt), .int (bI (s.2.2.2)), .ref (p 2), .ref (p 3), .ref (p 4), .ref (p 5), .int (nI (s.2.1)), .int ((mStart (cod i i) w).2.2.2.2), .ref (p 6), .int (nI (s.2.2.1.2)), .ref (p 7), .int (nI ps), .int th, .ref (p 8)])), (p 2, .inl (cI, 4032, .inl ((mStart (cod i i) w).1))), (p 3, .inl (cI, 4032, .inl ((mStart (cod i i) w).2.1))), (p 4, .inl (cI, 4032, .inl ((mStart (cod i i) w).2.2.1))), (p 5, .inl (cI, 4032, .inl ((mStart (cod i i) w).2.2.2.1)))]) hC hRm hDis hLis 0 rfl rfl gX4_reckon_X4_start ⟨rfl, by decide +kernel, by decide +kernel⟩ rfl ⟨by decide, by decide⟩ ⟨by decide, by decide⟩ rfl (Nat.le_of_ble_eq_true rfl) (by decide +kernel) (c_X4_start _ _ cI cJ cZ (p) (n) (cnt) (s.2.2.2) (s.2.1) (s.2.2.1.2) (ps) (th) (w) (cod i i) (cod_lt (by omega) (by omega))) [0, 2, 3, 4, 5] [1, 6] [2, 0, 3, 4, 5, 6, 1] [(p 1, .inl (cI, 320, .inl Ax)), (p 6, .inl (cI, 4032, .inl s.2.2.1.1))] rfl (by decide) rfl (by decide) (by decide) [(p 0, .inr (5, [.int (nI n), .ref (p 1), .int (nI cnt), .int (bI (s.2.2.2)), .ref (p 2), .ref (p 3), .ref (p 4), .ref (p 5), .int (nI (s.2.1)), .int ((mStart (cod i i) w).2.2.2.2), .ref (p 6), .int (nI (s.2.2.1.2)), .ref (p 7), .int (nI ps), .int th, .ref (p 8)])), (p 1, .inl (cI, 320, .inl Ax)), (p 2, .inl (cI, 4032, .inl ((mStart (cod i i) w).1))), (p 3, .inl (cI, 4032, .inl ((mStart (cod i i) w).2.1))), (p 4, .inl (cI, 4032, .inl ((mStart (cod i i) w).2.2.1))), (p 5, .inl (cI, 4032, .inl ((mStart (cod i i) w).2.2.2.1))), (p 6, .inl (cI, 4032, .inl s.2.2.1.1))] rfl (by decide) rfl dX4_reckon_46 ?_
              refine z_aload_n (pc := 49) hC 1 dX4_reckon_49 rfl ?_
              refine z_iload_n (pc := 50) hC 0 dX4_reckon_50 rfl ?_
              refine z_iconst (pc := 51) (v := (nI 0)) hC dX4_reckon_51 (by decide +kernel) ?_
              refine z_callS_I (pc := 52) (y := yX4_code) (wy := wsX4_code) (rm := { frames := 0, cells := 0, slots := 0, locals := 0 }) (As := [.int (nI i), .int (nI 0)]) (rest := [.ref (p 0)]) (na := 2)  (wc := []) (wc2 := []) hC hRm hDis hLis gX4_reckon_X4_code ⟨by decide +kernel, by decide +kernel⟩ rfl ⟨by decide, by decide⟩ ⟨by decide, by decide⟩ rfl (Nat.le_of_ble_eq_true rfl) (by decide +kernel) (c_X4_code _ _ cI cJ cZ (i) (0) (by decide)) [] [0, 1, 2, 3, 4, 5, 6] [0, 1, 2, 3, 4, 5, 6] [(p 0, .inr (5, [.int (nI n), .ref (p 1), .int (nI cnt), .int (bI (s.2.2.2)), .ref (p 2), .ref (p 3), .ref (p 4), .ref (p 5), .int (nI (s.2.1)), .int ((mStart (cod i i) w).2.2.2.2), .ref (p 6), .int (nI (s.2.2.1.2)), .ref (p 7), .int (nI ps), .int th, .ref (p 8)])), (p 1, .inl (cI, 320, .inl Ax)), (p 2, .inl (cI, 4032, .inl ((mStart (cod i i) w).1))), (p 3, .inl (cI, 4032, .inl ((mStart (cod i i) w).2.1))), (p 4, .inl (cI, 4032, .inl ((mStart (cod i i) w).2.2.1))), (p 5, .inl (cI, 4032, .inl ((mStart (cod i i) w).2.2.2.1))), (p 6, .inl (cI, 4032, .inl s.2.2.1.1))] rfl (by decide) rfl (by decide) (by decide) [(p 0, .inr (5, [.int (nI n), .ref (p 1), .int (nI cnt), .int (bI (s.2.2.2)), .ref (p 2), .ref (p 3), .ref (p 4), .ref (p 5), .int (nI (s.2.1)), .int ((mStart (cod i i) w).2.2.2.2), .ref (p 6), .int (nI (s.2.2.1.2)), .ref (p 7), .int (nI ps), .int th, .ref (p 8)])), (p 1, .inl (cI, 320, .inl Ax)), (p 2, .inl (cI, 4032, .inl ((mStart (cod i i) w).1))), (p 3, .inl (cI, 4032, .inl ((mStart (cod i i) w).2.1))), (p 4, .inl (cI, 4032, .inl ((mStart (cod i i) w).2.2.1))), (p 5, .inl (cI, 4032, .inl ((mStart (cod i i) w).2.2.2.1))), (p 6, .inl (cI, 4032, .inl s.2.2.1.1))] rfl (by decide) rfl dX4_reckon_52 ?_
              refine z_callV_V (pc := 55) (y := yX4_start) (wy := wsX4_start) (rm := { frames := 0, cells := 0, slots := 0, locals := 0 }) (As := [.int (nI (cod i 0))]) (rest := []) (na := 1) (C := RX4) (T := TX4) (NF := 16) (ci := 5) (wc := [(p 0, .inr (5, [.int (nI n), .ref (p 1), .int (nI cnt), .int (bI (s.2.2.2)), .ref (p 2), .ref (p 3), .ref (p 4), .ref (p 5), .int (nI (s.2.1)), .int ((mStart (cod i i) w).2.2.2.2), .ref (p 6), .int (nI (s.2.2.1.2)), .ref (p 7), .int (nI ps), .int th, .ref (p 8)])), (p 2, .inl (cI, 4032, .inl ((mStart (cod i i) w).1))), (p 3, .inl (cI, 4032, .inl ((mStart (cod i i) w).2.1))), (p 4, .inl (cI, 4032, .inl ((mStart (cod i i) w).2.2.1))), (p 5, .inl (cI, 4032, .inl ((mStart (cod i i) w).2.2.2.1)))]) (wc2 := [(p 0, .inr (5, [.int (nI n), .ref (p 1), .int (nI cnt), .int (bI (s.2.2.2)), .ref (p 2), .ref (p 3), .ref (p 4), .ref (p 5), .int (nI (s.2.1)), .int ((mStart (cod i 0) (mStart (cod i i) w)).2.2.2.2), .ref (p 6), .int (nI (s.2.2.1.2)), .ref (p 7), .int (nI ps), .int th, .ref (p 8)])), (p 2, .inl (cI, 4032, .inl ((mStart (cod i 0) (mStart (cod i i) w)).1))), (p 3, .inl (cI, 4032, .inl ((mStart (cod i 0) (mStart (cod i i) w)).2.1))), (p 4, .inl (cI, 4032, .inl ((mStart (cod i 0) (mStart (cod i i) w)).2.2.1))), (p 5, .inl (cI, 4032, .inl ((mStart (cod i 0) (mStart (cod i i) w)).2.2.2.1)))]) hC hRm hDis hLis 0 rfl rfl gX4_reckon_X4_start ⟨rfl, by decide +kernel, by decide +kernel⟩ rfl ⟨by decide, by decide⟩ ⟨by decide, by decide⟩ rfl (Nat.le_of_ble_eq_true rfl) (by decide +kernel) (c_X4_start _ _ cI cJ cZ (p) (n) (cnt) (s.2.2.2) (s.2.1) (s.2.2.1.2) (ps) (th) (mStart (cod i i) w) (cod i 0) (cod_lt (by omega) (by decide))) [0, 2, 3, 4, 5] [1, 6] [2, 0, 3, 4, 5, 6, 1] [(p 1, .inl (cI, 320, .inl Ax)), (p 6, .inl (cI, 4032, .inl s.2.2.1.1))] rfl (by decide) rfl (by decide) (by decide) [(p 0, .inr (5, [.int (nI n), .ref (p 1), .int (nI cnt), .int (bI (s.2.2.2)), .ref (p 2), .ref (p 3), .ref (p 4), .ref (p 5), .int (nI (s.2.1)), .int ((mStart (cod i 0) (mStart (cod i i) w)).2.2.2.2), .ref (p 6), .int (nI (s.2.2.1.2)), .ref (p 7), .int (nI ps), .int th, .ref (p 8)])), (p 1, .inl (cI, 320, .inl Ax)), (p 2, .inl (cI, 4032, .inl ((mStart (cod i 0) (mStart (cod i i) w)).1))), (p 3, .inl (cI, 4032, .inl ((mStart (cod i 0) (mStart (cod i i) w)).2.1))), (p 4, .inl (cI, 4032, .inl ((mStart (cod i 0) (mStart (cod i i) w)).2.2.1))), (p 5, .inl (cI, 4032, .inl ((mStart (cod i 0) (mStart (cod i i) w)).2.2.2.1))), (p 6, .inl (cI, 4032, .inl s.2.2.1.1))] rfl (by decide) rfl dX4_reckon_55 ?_
              refine z_iconst (pc := 58) (v := (nI 0)) hC dX4_reckon_58 (by decide +kernel) ?_
              refine z_istore_n (pc := 59) hC hNL [(2, .int (nI 0)), (1, .int (nI i)), (0, .ref (p 0))] dX4_reckon_59 (by decide) rfl ?_
              have L60 : ∀ (fu : Nat) (k2 : Nat) (w2 : MS) (hi2 : k2 ≤ cnt) (hf2 : cnt + 1 ≤ k2 + fu) (hw2 : w2 = mSk Ax i (mStart (cod i 0) (mStart (cod i i) w)) k2), Z K 0 0 [(p 0, .inr (5, [.int (nI n), .ref (p 1), .int (nI cnt), .int (bI (s.2.2.2)), .ref (p 2), .ref (p 3), .ref (p 4), .ref (p 5), .int (nI (s.2.1)), .int w2.2.2.2.2, .ref (p 6), .int (nI (s.2.2.1.2)), .ref (p 7), .int (nI ps), .int th, .ref (p 8)])), (p 1, .inl (cI, 320, .inl Ax)), (p 2, .inl (cI, 4032, .inl w2.1)), (p 3, .inl (cI, 4032, .inl w2.2.1)), (p 4, .inl (cI, 4032, .inl w2.2.2.1)), (p 5, .inl (cI, 4032, .inl w2.2.2.2.1)), (p 6, .inl (cI, 4032, .inl s.2.2.1.1))] [(2, .int (nI k2)), (1, .int (nI i)), (0, .ref (p 0))] 60 [] := by
                intro fu
                induction fu with
                | zero =>
                  intro k2 w2 hi2 hf2 hw2
                  exact absurd trivial (by omega)
                | succ fu ih60 =>
                  intro k2 w2 hi2 hf2 hw2
                  refine z_iload_n (pc := 60) hC 0 dX4_reckon_60 rfl ?_
                  refine z_aload_n (pc := 61) hC 2 dX4_reckon_61 rfl ?_
                  refine z_get (pc := 62) (C := RX4) (T := TX4) (N := 16) hC hinX4 0 rfl rfl 2 (by decide) (by decide +kernel) rfl dX4_reckon_62 ?_
                  refine z_ncmp_ge (pc := 65) (tgt := 106) hC dX4_reckon_65 (by decide) (by omega) (by omega) (fun h65 => ?_) (fun h65 => ?_)
                  · refine z_iinc (pc := 106) (q := 1) (x := (nI i)) (v := (nI (i + 1))) hC hNL [(1, .int (nI (i + 1))), (2, .int (nI k2)), (0, .ref (p 0))] dX4_reckon_106 rfl (nI_add _ _) (by decide) rfl ?_
                    refine z_goto (pc := 109) (tgt := 32) hC dX4_reckon_109 (by decide) ?_
                    refine z_lv [0, 2] rfl ?_
                    exact ih32 (i + 1) (w2) (by omega) (by omega) (by rw [hw2, show k2 = cnt by omega, hw]; rfl)
                  · refine z_aload_n (pc := 68) hC 2 dX4_reckon_68 rfl ?_
                    refine z_get (pc := 69) (C := RX4) (T := TX4) (N := 16) hC hinX4 0 rfl rfl 1 (by decide) (by decide +kernel) rfl dX4_reckon_69 ?_
                    refine z_iconst (pc := 72) (v := (nI 4)) hC dX4_reckon_72 (by decide +kernel) ?_
                    refine z_iload_n (pc := 73) hC 0 dX4_reckon_73 rfl ?_
                    refine z_imul (pc := 74) (v := (nI (4 * k2))) hC dX4_reckon_74 (pk_mul _ _) ?_
                    refine z_iald (pc := 75) (v := (Ax (4 * k2))) hC 1 0 rfl rfl (by omega) (by decide) (rfl) dX4_reckon_75 ?_
                    refine z_bipush (pc := 76) (v := (nI 7)) hC dX4_reckon_76 (by decide +kernel) ?_
                    refine z_icmp_ne (pc := 78) (tgt := 100) hC dX4_reckon_78 (by decide) (fun h78 => ?_) (fun h78 => ?_)
                    · refine z_iinc (pc := 100) (q := 0) (x := (nI k2)) (v := (nI (k2 + 1))) hC hNL [(2, .int (nI (k2 + 1))), (1, .int (nI i)), (0, .ref (p 0))] dX4_reckon_100 rfl (nI_add _ _) (by decide) rfl ?_
                      refine z_goto (pc := 103) (tgt := 60) hC dX4_reckon_103 (by decide) ?_
                      exact ih60 (k2 + 1) (w2) (by omega) (by omega) (by first | rw [mSk_t h78, ea, tn_nI (by omega), hw2] | rw [mSk_f h78, hw2])
                    · refine z_aload_n (pc := 81) hC 2 dX4_reckon_81 rfl ?_
                      refine z_iload_n (pc := 82) hC 1 dX4_reckon_82 rfl ?_
                      refine z_aload_n (pc := 83) hC 2 dX4_reckon_83 rfl ?_
                      refine z_get (pc := 84) (C := RX4) (T := TX4) (N := 16) hC hinX4 0 rfl rfl 1 (by decide) (by decide +kernel) rfl dX4_reckon_84 ?_
                      refine z_iconst (pc := 87) (v := (nI 4)) hC dX4_reckon_87 (by decide +kernel) ?_
                      refine z_iload_n (pc := 88) hC 0 dX4_reckon_88 rfl ?_
                      refine z_imul (pc := 89) (v := (nI (4 * k2))) hC dX4_reckon_89 (pk_mul _ _) ?_
                      refine z_iconst (pc := 90) (v := (nI 1)) hC dX4_reckon_90 (by decide +kernel) ?_
                      refine z_iadd (pc := 91) (v := (nI (4 * k2 + 1))) hC dX4_reckon_91 (nI_add _ _) ?_
                      refine z_iald (pc := 92) (v := (Ax (4 * k2 + 1))) hC 1 0 rfl rfl (by omega) (by decide) (rfl) dX4_reckon_92 ?_
                      refine z_iload_n (pc := 93) hC 1 dX4_reckon_93 rfl ?_
                      obtain ⟨ja, hja, ea⟩ := (hax k2 (by omega)).2.2.2.2.2.2 h78
                      refine z_steq [.int (nI i), .int (nI ja), .int (nI i), .ref (p 0)] (by rw [ea]) ?_
                      refine z_callS_I (pc := 94) (y := yX4_linked) (wy := wsX4_linked) (rm := { frames := 0, cells := 0, slots := 0, locals := 0 }) (As := [.int (nI i), .int (nI ja), .int (nI i)]) (rest := [.ref (p 0)]) (na := 3)  (wc := []) (wc2 := []) hC hRm hDis hLis gX4_reckon_X4_linked ⟨by decide +kernel, by decide +kernel⟩ rfl ⟨by decide, by decide⟩ ⟨by decide, by decide⟩ rfl (Nat.le_of_ble_eq_true rfl) (by decide +kernel) (c_X4_linked _ _ cI cJ cZ (i) (ja) (i) ) [] [0, 1, 2, 3, 4, 5, 6] [0, 1, 2, 3, 4, 5, 6] [(p 0, .inr (5, [.int (nI n), .ref (p 1), .int (nI cnt), .int (bI (s.2.2.2)), .ref (p 2), .ref (p 3), .ref (p 4), .ref (p 5), .int (nI (s.2.1)), .int w2.2.2.2.2, .ref (p 6), .int (nI (s.2.2.1.2)), .ref (p 7), .int (nI ps), .int th, .ref (p 8)])), (p 1, .inl (cI, 320, .inl Ax)), (p 2, .inl (cI, 4032, .inl w2.1)), (p 3, .inl (cI, 4032, .inl w2.2.1)), (p 4, .inl (cI, 4032, .inl w2.2.2.1)), (p 5, .inl (cI, 4032, .inl w2.2.2.2.1)), (p 6, .inl (cI, 4032, .inl s.2.2.1.1))] rfl (by decide) rfl (by decide) (by decide) [(p 0, .inr (5, [.int (nI n), .ref (p 1), .int (nI cnt), .int (bI (s.2.2.2)), .ref (p 2), .ref (p 3), .ref (p 4), .ref (p 5), .int (nI (s.2.1)), .int w2.2.2.2.2, .ref (p 6), .int (nI (s.2.2.1.2)), .ref (p 7), .int (nI ps), .int th, .ref (p 8)])), (p 1, .inl (cI, 320, .inl Ax)), (p 2, .inl (cI, 4032, .inl w2.1)), (p 3, .inl (cI, 4032, .inl w2.2.1)), (p 4, .inl (cI, 4032, .inl w2.2.2.1)), (p 5, .inl (cI, 4032, .inl w2.2.2.2.1)), (p 6, .inl (cI, 4032, .inl s.2.2.1.1))] rfl (by decide) rfl dX4_reckon_94 ?_
                      refine z_callV_V (pc := 97) (y := yX4_start) (wy := wsX4_start) (rm := { frames := 0, cells := 0, slots := 0, locals := 0 }) (As := [.int (nI (cod i (lcol ja i)))]) (rest := []) (na := 1) (C := RX4) (T := TX4) (NF := 16) (ci := 5) (wc := [(p 0, .inr (5, [.int (nI n), .ref (p 1), .int (nI cnt), .int (bI (s.2.2.2)), .ref (p 2), .ref (p 3), .ref (p 4), .ref (p 5), .int (nI (s.2.1)), .int w2.2.2.2.2, .ref (p 6), .int (nI (s.2.2.1.2)), .ref (p 7), .int (nI ps), .int th, .ref (p 8)])), (p 2, .inl (cI, 4032, .inl w2.1)), (p 3, .inl (cI, 4032, .inl w2.2.1)), (p 4, .inl (cI, 4032, .inl w2.2.2.1)), (p 5, .inl (cI, 4032, .inl w2.2.2.2.1))]) (wc2 := [(p 0, .inr (5, [.int (nI n), .ref (p 1), .int (nI cnt), .int (bI (s.2.2.2)), .ref (p 2), .ref (p 3), .ref (p 4), .ref (p 5), .int (nI (s.2.1)), .int ((mStart (cod i (lcol ja i)) w2).2.2.2.2), .ref (p 6), .int (nI (s.2.2.1.2)), .ref (p 7), .int (nI ps), .int th, .ref (p 8)])), (p 2, .inl (cI, 4032, .inl ((mStart (cod i (lcol ja i)) w2).1))), (p 3, .inl (cI, 4032, .inl ((mStart (cod i (lcol ja i)) w2).2.1))), (p 4, .inl (cI, 4032, .inl ((mStart (cod i (lcol ja i)) w2).2.2.1))), (p 5, .inl (cI, 4032, .inl ((mStart (cod i (lcol ja i)) w2).2.2.2.1)))]) hC hRm hDis hLis 0 rfl rfl gX4_reckon_X4_start ⟨rfl, by decide +kernel, by decide +kernel⟩ rfl ⟨by decide, by decide⟩ ⟨by decide, by decide⟩ rfl (Nat.le_of_ble_eq_true rfl) (by decide +kernel) (c_X4_start _ _ cI cJ cZ (p) (n) (cnt) (s.2.2.2) (s.2.1) (s.2.2.1.2) (ps) (th) (w2) (cod i (lcol ja i)) (cod_lt (by omega) (lcol_lt hja (by omega)))) [0, 2, 3, 4, 5] [1, 6] [2, 0, 3, 4, 5, 6, 1] [(p 1, .inl (cI, 320, .inl Ax)), (p 6, .inl (cI, 4032, .inl s.2.2.1.1))] rfl (by decide) rfl (by decide) (by decide) [(p 0, .inr (5, [.int (nI n), .ref (p 1), .int (nI cnt), .int (bI (s.2.2.2)), .ref (p 2), .ref (p 3), .ref (p 4), .ref (p 5), .int (nI (s.2.1)), .int ((mStart (cod i (lcol ja i)) w2).2.2.2.2), .ref (p 6), .int (nI (s.2.2.1.2)), .ref (p 7), .int (nI ps), .int th, .ref (p 8)])), (p 1, .inl (cI, 320, .inl Ax)), (p 2, .inl (cI, 4032, .inl ((mStart (cod i (lcol ja i)) w2).1))), (p 3, .inl (cI, 4032, .inl ((mStart (cod i (lcol ja i)) w2).2.1))), (p 4, .inl (cI, 4032, .inl ((mStart (cod i (lcol ja i)) w2).2.2.1))), (p 5, .inl (cI, 4032, .inl ((mStart (cod i (lcol ja i)) w2).2.2.2.1))), (p 6, .inl (cI, 4032, .inl s.2.2.1.1))] rfl (by decide) rfl dX4_reckon_97 ?_
                      refine z_iinc (pc := 100) (q := 0) (x := (nI k2)) (v := (nI (k2 + 1))) hC hNL [(2, .int (nI (k2 + 1))), (1, .int (nI i)), (0, .ref (p 0))] dX4_reckon_100 rfl (nI_add _ _) (by decide) rfl ?_
                      refine z_goto (pc := 103) (tgt := 60) hC dX4_reckon_103 (by decide) ?_
                      exact ih60 (k2 + 1) (mStart (cod i (lcol ja i)) w2) (by omega) (by omega) (by first | rw [mSk_t h78, ea, tn_nI (by omega), hw2] | rw [mSk_f h78, hw2])
              exact L60 (cnt + 1) (0) (mStart (cod i 0) (mStart (cod i i) w)) (by omega) (by omega) (rfl)
        exact L32 (n + 1) (0) ((fun _ => (-1), s.1.2.1, s.1.2.2.1, s.1.2.2.2.1, s.1.2.2.2.2)) (by omega) (by omega) (rfl)
      · refine z_aload_n (pc := 17) hC 1 dX4_reckon_17 rfl ?_
        refine z_get (pc := 18) (C := RX4) (T := TX4) (N := 16) hC hinX4 0 rfl rfl 4 (by decide) (by decide +kernel) rfl dX4_reckon_18 ?_
        refine z_iload_n (pc := 21) hC 0 dX4_reckon_21 rfl ?_
        refine z_iconst (pc := 22) (v := (-1)) hC dX4_reckon_22 (by decide +kernel) ?_
        refine z_iast (pc := 23) hC 2 0 rfl rfl (by omega) (by decide) [(p 0, .inr (5, [.int (nI n), .ref (p 1), .int (nI cnt), .int (bI (s.2.2.2)), .ref (p 2), .ref (p 3), .ref (p 4), .ref (p 5), .int (nI (s.2.1)), .int s.1.2.2.2.2, .ref (p 6), .int (nI (s.2.2.1.2)), .ref (p 7), .int (nI ps), .int th, .ref (p 8)])), (p 1, .inl (cI, 320, .inl Ax)), (p 2, .inl (cI, 4032, .inl (upd f i (-1)))), (p 3, .inl (cI, 4032, .inl s.1.2.1)), (p 4, .inl (cI, 4032, .inl s.1.2.2.1)), (p 5, .inl (cI, 4032, .inl s.1.2.2.2.1)), (p 6, .inl (cI, 4032, .inl s.2.2.1.1))] rfl dX4_reckon_23 ?_
        refine z_iinc (pc := 24) (q := 0) (x := (nI i)) (v := (nI (i + 1))) hC hNL [(1, .int (nI (i + 1))), (0, .ref (p 0))] dX4_reckon_24 rfl (nI_add _ _) (by decide) rfl ?_
        refine z_goto (pc := 27) (tgt := 10) hC dX4_reckon_27 (by decide) ?_
        exact ih10 (i + 1) (upd f i (-1)) (by omega) (by omega) (fun j hj => by
                by_cases e9 : j = i
                · rw [e9, pk_us]
                · rw [pk_un e9]; exact hv j (by omega))
  exact L10 (4033) (0) (s.1.1) (by omega) (by omega) (fun j hj => absurd hj (Nat.not_lt_zero j))

set_option maxRecDepth 100000 in
set_option maxHeartbeats 4000000 in
theorem c_X4_reckon_k (l : Launch) (D : va_G) (cI cJ cZ : ClassId) (p : Nat → Nat) (n : Nat) (cnt : Nat) (ps : Nat) (th : Int32) (Ax : Nat → Int32) (s : MSt) (hk : s.2.2.2 = true) : MV l yX4_reckon wsX4_reckon { frames := 4, cells := 0, slots := 0, locals := 101 } D (tyL cI cJ cZ) [.ref (p 0)] [(p 0, .inr (5, [.int (nI n), .ref (p 1), .int (nI cnt), .int (bI (s.2.2.2)), .ref (p 2), .ref (p 3), .ref (p 4), .ref (p 5), .int (nI (s.2.1)), .int s.1.2.2.2.2, .ref (p 6), .int (nI (s.2.2.1.2)), .ref (p 7), .int (nI ps), .int th, .ref (p 8)])), (p 1, .inl (cI, 320, .inl Ax)), (p 2, .inl (cI, 4032, .inl s.1.1)), (p 3, .inl (cI, 4032, .inl s.1.2.1)), (p 4, .inl (cI, 4032, .inl s.1.2.2.1)), (p 5, .inl (cI, 4032, .inl s.1.2.2.2.1)), (p 6, .inl (cI, 4032, .inl s.2.2.1.1))] [(p 0, .inr (5, [.int (nI n), .ref (p 1), .int (nI cnt), .int (bI (s.2.2.2)), .ref (p 2), .ref (p 3), .ref (p 4), .ref (p 5), .int (nI (s.2.1)), .int s.1.2.2.2.2, .ref (p 6), .int (nI (s.2.2.1.2)), .ref (p 7), .int (nI ps), .int th, .ref (p 8)])), (p 1, .inl (cI, 320, .inl Ax)), (p 2, .inl (cI, 4032, .inl s.1.1)), (p 3, .inl (cI, 4032, .inl s.1.2.1)), (p 4, .inl (cI, 4032, .inl s.1.2.2.1)), (p 5, .inl (cI, 4032, .inl s.1.2.2.2.1)), (p 6, .inl (cI, 4032, .inl s.2.2.1.1))] := by
  refine metV_of (cc := cX4_reckon) (maxL := 4) (ret := none) (by decide +kernel) rfl (Nat.le_of_ble_eq_true rfl) ?_
  intro K hC hRm hNL hDis hLis hRT hIni hQ
  have hinX4 : ∀ w ∈ wsX40, w ∈ wsX4_reckon := by decide +kernel
  refine z_aload_n (pc := 0) hC 0 dX4_reckon_0 rfl ?_
  refine z_get (pc := 1) (C := RX4) (T := TX4) (N := 16) hC hinX4 0 rfl rfl 3 (by decide) (by decide +kernel) rfl dX4_reckon_1 ?_
  refine z_bif_eq (pc := 4) (tgt := 8) hC dX4_reckon_4 (by decide) (fun h4 => absurd h4 (by rw [hk]; decide)) (fun h4 => ?_)
  exact z_vret (pc := 7) hC hQ hRT (rfl) dX4_reckon_7
