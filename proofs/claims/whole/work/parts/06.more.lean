/-! numbers and branches of our own -/
abbrev tyL (cI cJ cZ : ClassId) : List (ClassId × FieldType) := [(cI, .int), (cJ, .long), (cZ, .boolean)]
def bI (b : Bool) : Int32 := if b then 1 else 0
theorem nar_b (b : Bool) : narrow .boolean (.int (bI b)) = .int (bI b) := by cases b <;> rfl
theorem bI_t {b : Bool} (h : b = true) : nI 1 = bI b := by subst h; rfl
theorem bI_f {b : Bool} (h : b = false) : nI 0 = bI b := by subst h; rfl
theorem bI_0 {b : Bool} : bI b = 0 ↔ b = false := by cases b <;> decide
theorem sw_ne {x : Int32} {k : Nat} (h : ¬ x = nI k) (hk : k < 2 ^ 31) : ¬ x.toInt = (k : Int) := fun q => h (Int32.toInt_inj.mp (by rw [nI_toInt hk]; exact q))
theorem pk_dec {a : Nat} (h : 1 ≤ a) : nI a + Int32.ofInt (-1) = nI (a - 1) := by
  obtain ⟨b, rfl⟩ : ∃ b, a = b + 1 := ⟨a - 1, by omega⟩
  exact pk_m1 b
theorem nI_not_neg {x : Int32} {n : Nat} (hn : n < 2 ^ 31) (h0 : ¬ x < 0) (h1 : ¬ nI n ≤ x) : ∃ j : Nat, j < n ∧ x = nI j := by
  obtain ⟨j, hj, rfl⟩ := nI_of h0
  exact ⟨j, Nat.not_le.mp (fun h => h1 (nI_le h hj)), rfl⟩
section ZB
variable {K : KT} {cc : ByteArray} {own : String} {Ts : List Cond} {tys : List (ClassId × FieldType)} {n k : Nat} {ws : va_W} {lv : List (Nat × Value)} {pc : Nat} {rest : List Value} {off : Int} {tgt : Nat} {b : Bool} {a : Nat}
theorem z_bif_eq (hC : Cx K cc own Ts tys) (hd : decode cc pc = .ok (.ifCond .eq off, 3)) (ht : (pc : Int) + off = (tgt : Int)) (kt : b = false → Z K n k ws lv tgt rest) (kf : b = true → Z K n k ws lv (pc + 3) rest) : Z K n k ws lv pc (.int (bI b) :: rest) := z_if_eq hC hd ht (fun h => kt (bI_0.mp h)) (fun h => kf (by cases b with | false => exact absurd rfl h | true => rfl))
theorem z_bif_ne (hC : Cx K cc own Ts tys) (hd : decode cc pc = .ok (.ifCond .ne off, 3)) (ht : (pc : Int) + off = (tgt : Int)) (kt : b = true → Z K n k ws lv tgt rest) (kf : b = false → Z K n k ws lv (pc + 3) rest) : Z K n k ws lv pc (.int (bI b) :: rest) := z_if_ne hC hd ht (fun h => kt (by cases b with | false => exact absurd rfl h | true => rfl)) (fun h => kf (bI_0.mp h))
theorem z_nif_eq (hC : Cx K cc own Ts tys) (hd : decode cc pc = .ok (.ifCond .eq off, 3)) (ht : (pc : Int) + off = (tgt : Int)) (ha : a < 2 ^ 31) (kt : a = 0 → Z K n k ws lv tgt rest) (kf : a ≠ 0 → Z K n k ws lv (pc + 3) rest) : Z K n k ws lv pc (.int (nI a) :: rest) := z_if_eq hC hd ht (fun h => kt ((nI_eq ha (by decide)).mp (h.trans nI_0.symm))) (fun h => kf (fun e => h (by rw [e]; exact nI_0)))
theorem z_nif_ne (hC : Cx K cc own Ts tys) (hd : decode cc pc = .ok (.ifCond .ne off, 3)) (ht : (pc : Int) + off = (tgt : Int)) (ha : a < 2 ^ 31) (kt : a ≠ 0 → Z K n k ws lv tgt rest) (kf : a = 0 → Z K n k ws lv (pc + 3) rest) : Z K n k ws lv pc (.int (nI a) :: rest) := z_if_ne hC hd ht (fun h => kt (fun e => h (by rw [e]; exact nI_0))) (fun h => kf ((nI_eq ha (by decide)).mp (h.trans nI_0.symm)))
theorem z_nif_lt (hC : Cx K cc own Ts tys) (hd : decode cc pc = .ok (.ifCond .lt off, 3)) (ht : (pc : Int) + off = (tgt : Int)) (ha : a < 2 ^ 31) (kt : False → Z K n k ws lv tgt rest) (kf : True → Z K n k ws lv (pc + 3) rest) : Z K n k ws lv pc (.int (nI a) :: rest) := z_if_lt hC hd ht (fun h => kt (nI_pos ha h)) (fun _ => kf trivial)
theorem z_nif_ge (hC : Cx K cc own Ts tys) (hd : decode cc pc = .ok (.ifCond .ge off, 3)) (ht : (pc : Int) + off = (tgt : Int)) (ha : a < 2 ^ 31) (kt : True → Z K n k ws lv tgt rest) (kf : False → Z K n k ws lv (pc + 3) rest) : Z K n k ws lv pc (.int (nI a) :: rest) := z_if_ge hC hd ht (fun _ => kt trivial) (fun h => kf (h (nI_pos' ha)))
theorem z_nif_gt (hC : Cx K cc own Ts tys) (hd : decode cc pc = .ok (.ifCond .gt off, 3)) (ht : (pc : Int) + off = (tgt : Int)) (ha : a < 2 ^ 31) (kt : 0 < a → Z K n k ws lv tgt rest) (kf : a = 0 → Z K n k ws lv (pc + 3) rest) : Z K n k ws lv pc (.int (nI a) :: rest) := z_if_gt hC hd ht (fun h => kt (Nat.pos_of_ne_zero (fun e => by subst e; exact absurd h (by decide)))) (fun h => kf (Nat.eq_zero_of_not_pos (fun e => h (nI_lt e ha))))
theorem z_nif_le (hC : Cx K cc own Ts tys) (hd : decode cc pc = .ok (.ifCond .le off, 3)) (ht : (pc : Int) + off = (tgt : Int)) (ha : a < 2 ^ 31) (kt : a = 0 → Z K n k ws lv tgt rest) (kf : 0 < a → Z K n k ws lv (pc + 3) rest) : Z K n k ws lv pc (.int (nI a) :: rest) := z_if_le hC hd ht (fun h => kt (Nat.eq_zero_of_not_pos (fun e => nI_nle e ha h))) (fun h => kf (Nat.pos_of_ne_zero (fun e => by subst e; exact absurd (by decide) h)))
theorem z_topi (x' : Int32) {x : Int32} {st : List Value} (h : x = x') (kk : Z K n k ws lv pc (.int x' :: st)) : Z K n k ws lv pc (.int x :: st) := h ▸ kk
theorem z_topl (x' : Int64) {x : Int64} {st : List Value} (h : x = x') (kk : Z K n k ws lv pc (.long x' :: st)) : Z K n k ws lv pc (.long x :: st) := h ▸ kk
theorem z_weq (ws' : va_W) {st : List Value} (h : ws = ws') (kk : Z K n k ws' lv pc st) : Z K n k ws lv pc st := h ▸ kk
theorem z_lveq (lv' : List (Nat × Value)) {st : List Value} (h : lv = lv') (kk : Z K n k ws lv' pc st) : Z K n k ws lv pc st := h ▸ kk
/-- an array's numbers beyond its length are nobody's -/
theorem z_arrI (q0 : Nat) {cA : ClassId} {ad N : Nat} {f f' : Nat → Int32} {st : List Value} (ha : ws[q0]? = some (ad, .inl (cA, N, .inl f))) (hf : ∀ j, j < N → f j = f' j) (ws' : va_W) (hw : ws.set q0 (ad, .inl (cA, N, .inl f')) = ws') (kk : Z K n k ws' lv pc st) : Z K n k ws lv pc st := by
  obtain ⟨p, l, e, R, s, m, args, below, meth, c, nL, D, A, Q⟩ := K
  intro H locs ls hP hD hS hl
  subst hw
  refine kk H locs ls (hP.set hD ha ?_ (fun _ _ => rfl)) (hD.set ha) hS hl
  have h1 := hP q0 _ ha
  show H[ad]? = some (vp_cell cA (N, .inl f'))
  rw [show H[ad]? = some (vp_cell cA (N, .inl f)) from h1, vp_cell_i, vp_cell_i]
  have e9 : (fun j : Fin N => Value.int (f j.val)) = (fun j : Fin N => Value.int (f' j.val)) := funext (fun j => by rw [hf j.val j.isLt])
  unfold arrV
  rw [e9]
theorem z_arrJ (q0 : Nat) {cA : ClassId} {ad N : Nat} {f f' : Nat → Int64} {st : List Value} (ha : ws[q0]? = some (ad, .inl (cA, N, .inr (.inl f)))) (hf : ∀ j, j < N → f j = f' j) (ws' : va_W) (hw : ws.set q0 (ad, .inl (cA, N, .inr (.inl f'))) = ws') (kk : Z K n k ws' lv pc st) : Z K n k ws lv pc st := by
  obtain ⟨p, l, e, R, s, m, args, below, meth, c, nL, D, A, Q⟩ := K
  intro H locs ls hP hD hS hl
  subst hw
  refine kk H locs ls (hP.set hD ha ?_ (fun _ _ => rfl)) (hD.set ha) hS hl
  have h1 := hP q0 _ ha
  show H[ad]? = some (vp_cell cA (N, .inr (.inl f')))
  rw [show H[ad]? = some (vp_cell cA (N, .inr (.inl f))) from h1, vp_cell_l, vp_cell_l]
  have e9 : (fun j : Fin N => Value.long (f j.val)) = (fun j : Fin N => Value.long (f' j.val)) := funext (fun j => by rw [hf j.val j.isLt])
  unfold arrV
  rw [e9]
end ZB
