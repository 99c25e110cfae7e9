/-! ElCompletionModel: drop, code, linked, has, start, give, two, one -/

def drpF (Ax : Nat → Int32) (k i : Nat) : Nat → Int32 := fun j => if 4 * k ≤ j ∧ j < i then Ax (j + 4) else Ax j
theorem drpF_0 (Ax : Nat → Int32) (k : Nat) : drpF Ax k (4 * k) = Ax := by
  funext j
  unfold drpF
  rw [if_neg (by omega)]
theorem drpF_s {Ax : Nat → Int32} {k i : Nat} (h : 4 * k ≤ i) : upd (drpF Ax k i) i (drpF Ax k i (i + 4)) = drpF Ax k (i + 1) := by
  funext j
  by_cases e : j = i
  · subst e
    rw [pk_us]
    unfold drpF
    rw [if_neg (by omega), if_pos (by omega)]
  · rw [pk_un e]
    unfold drpF
    by_cases h2 : 4 * k ≤ j ∧ j < i
    · rw [if_pos h2, if_pos (by omega)]
    · rw [if_neg h2, if_neg (by omega)]

set_option maxRecDepth 100000 in
set_option maxHeartbeats 4000000 in
theorem c_X4_drop_bad (l : Launch) (D : va_G) (cI cJ cZ : ClassId) (p : Nat → Nat) (n : Nat) (cnt : Nat) (kn : Bool) (rd : Nat) (md : Int32) (fo : Nat) (ps : Nat) (th : Int32) (Ax : Nat → Int32) (k0 : Int32) (hi : isCl k0 (nI cnt) = false) : MI l yX4_drop wsX4_drop { frames := 0, cells := 0, slots := 0, locals := 0 } D (tyL cI cJ cZ) [.ref (p 0), .int k0] [(p 0, .inr (5, [.int (nI n), .ref (p 1), .int (nI cnt), .int (bI (kn)), .ref (p 2), .ref (p 3), .ref (p 4), .ref (p 5), .int (nI rd), .int md, .ref (p 6), .int (nI fo), .ref (p 7), .int (nI ps), .int th, .ref (p 8)])), (p 1, .inl (cI, 320, .inl Ax))] [(p 0, .inr (5, [.int (nI n), .ref (p 1), .int (nI cnt), .int (bI (kn)), .ref (p 2), .ref (p 3), .ref (p 4), .ref (p 5), .int (nI rd), .int md, .ref (p 6), .int (nI fo), .ref (p 7), .int (nI ps), .int (nI 0), .ref (p 8)])), (p 1, .inl (cI, 320, .inl Ax))] (-1) := by
  refine metI_of (cc := cX4_drop) (maxL := 3) (ret := (some .int)) (by decide +kernel) rfl (Nat.le_of_ble_eq_true rfl) ?_
  intro K hC hRm hNL hDis hLis hRT hIni hQ
  have hinX4 : ∀ w ∈ wsX40, w ∈ wsX4_drop := by decide +kernel
  refine z_aload_n (pc := 0) hC 0 dX4_drop_0 rfl ?_
  refine z_iconst (pc := 1) (v := (nI 0)) hC dX4_drop_1 (by decide +kernel) ?_
  refine z_put (pc := 2) (C := RX4) (T := TX4) (N := 16) hC hinX4 0 rfl rfl 14 (by decide) tyX4 tyX4_ok nmX4 (by decide +kernel) rfl (rfl) (rfl) (Nat.le_of_ble_eq_true rfl) [(p 0, .inr (5, [.int (nI n), .ref (p 1), .int (nI cnt), .int (bI (kn)), .ref (p 2), .ref (p 3), .ref (p 4), .ref (p 5), .int (nI rd), .int md, .ref (p 6), .int (nI fo), .ref (p 7), .int (nI ps), .int (nI 0), .ref (p 8)])), (p 1, .inl (cI, 320, .inl Ax))] rfl dX4_drop_2 ?_
  refine z_iload_n (pc := 5) hC 1 dX4_drop_5 rfl ?_
  refine z_if_lt (pc := 6) (tgt := 17) hC dX4_drop_6 (by decide) (fun h6 => ?_) (fun h6 => ?_)
  · refine z_iconst (pc := 17) (v := (-1)) hC dX4_drop_17 (by decide +kernel) ?_
    exact z_iret (pc := 18) hC hQ hRT (rfl) (rfl) (rfl) dX4_drop_18
  · refine z_iload_n (pc := 9) hC 1 dX4_drop_9 rfl ?_
    refine z_aload_n (pc := 10) hC 0 dX4_drop_10 rfl ?_
    refine z_get (pc := 11) (C := RX4) (T := TX4) (N := 16) hC hinX4 0 rfl rfl 2 (by decide) (by decide +kernel) rfl dX4_drop_11 ?_
    refine z_icmp_lt (pc := 14) (tgt := 19) hC dX4_drop_14 (by decide) (fun h14 => absurd (isCl_t h6 (Int32.not_le.mpr h14)) (by rw [hi]; decide)) (fun h14 => ?_)
    refine z_iconst (pc := 17) (v := (-1)) hC dX4_drop_17 (by decide +kernel) ?_
    exact z_iret (pc := 18) hC hQ hRT (rfl) (rfl) (rfl) dX4_drop_18

set_option maxRecDepth 100000 in
set_option maxHeartbeats 4000000 in
theorem c_X4_drop_ok (l : Launch) (D : va_G) (cI cJ cZ : ClassId) (p : Nat → Nat) (n : Nat) (cnt : Nat) (kn : Bool) (rd : Nat) (md : Int32) (fo : Nat) (ps : Nat) (th : Int32) (Ax : Nat → Int32) (k : Nat) (hk : k < cnt) (hc : cnt ≤ 80) : MI l yX4_drop wsX4_drop { frames := 0, cells := 0, slots := 0, locals := 0 } D (tyL cI cJ cZ) [.ref (p 0), .int (nI k)] [(p 0, .inr (5, [.int (nI n), .ref (p 1), .int (nI cnt), .int (bI (kn)), .ref (p 2), .ref (p 3), .ref (p 4), .ref (p 5), .int (nI rd), .int md, .ref (p 6), .int (nI fo), .ref (p 7), .int (nI ps), .int th, .ref (p 8)])), (p 1, .inl (cI, 320, .inl Ax))] [(p 0, .inr (5, [.int (nI n), .ref (p 1), .int (nI (cnt - 1)), .int (bI (false)), .ref (p 2), .ref (p 3), .ref (p 4), .ref (p 5), .int (nI rd), .int md, .ref (p 6), .int (nI fo), .ref (p 7), .int (nI ps), .int (nI 0), .ref (p 8)])), (p 1, .inl (cI, 320, .inl (drpF Ax k (4 * (cnt - 1)))))] (nI (cnt - 1)) := by
  refine metI_of (cc := cX4_drop) (maxL := 3) (ret := (some .int)) (by decide +kernel) rfl (Nat.le_of_ble_eq_true rfl) ?_
  intro K hC hRm hNL hDis hLis hRT hIni hQ
  have hinX4 : ∀ w ∈ wsX40, w ∈ wsX4_drop := by decide +kernel
  refine z_aload_n (pc := 0) hC 0 dX4_drop_0 rfl ?_
  refine z_iconst (pc := 1) (v := (nI 0)) hC dX4_drop_1 (by decide +kernel) ?_
  refine z_put (pc := 2) (C := RX4) (T := TX4) (N := 16) hC hinX4 0 rfl rfl 14 (by decide) tyX4 tyX4_ok nmX4 (by decide +kernel) rfl (rfl) (rfl) (Nat.le_of_ble_eq_true rfl) [(p 0, .inr (5, [.int (nI n), .ref (p 1), .int (nI cnt), .int (bI (kn)), .ref (p 2), .ref (p 3), .ref (p 4), .ref (p 5), .int (nI rd), .int md, .ref (p 6), .int (nI fo), .ref (p 7), .int (nI ps), .int (nI 0), .ref (p 8)])), (p 1, .inl (cI, 320, .inl Ax))] rfl dX4_drop_2 ?_
  refine z_iload_n (pc := 5) hC 1 dX4_drop_5 rfl ?_
  refine z_nif_lt (pc := 6) (tgt := 17) hC dX4_drop_6 (by decide) (by omega) (fun h6 => absurd h6 (by exact id)) (fun h6 => ?_)
  refine z_iload_n (pc := 9) hC 1 dX4_drop_9 rfl ?_
  refine z_aload_n (pc := 10) hC 0 dX4_drop_10 rfl ?_
  refine z_get (pc := 11) (C := RX4) (T := TX4) (N := 16) hC hinX4 0 rfl rfl 2 (by decide) (by decide +kernel) rfl dX4_drop_11 ?_
  refine z_ncmp_lt (pc := 14) (tgt := 19) hC dX4_drop_14 (by decide) (by omega) (by omega) (fun h14 => ?_) (fun h14 => absurd h14 (by omega))
  refine z_aload_n (pc := 19) hC 0 dX4_drop_19 rfl ?_
  refine z_dup (pc := 20) hC dX4_drop_20 rfl ?_
  refine z_get (pc := 21) (C := RX4) (T := TX4) (N := 16) hC hinX4 0 rfl rfl 2 (by decide) (by decide +kernel) rfl dX4_drop_21 ?_
  refine z_iconst (pc := 24) (v := (nI 1)) hC dX4_drop_24 (by decide +kernel) ?_
  refine z_isub (pc := 25) (v := (nI (cnt - 1))) hC dX4_drop_25 (pk_sub (by omega)) ?_
  refine z_put (pc := 26) (C := RX4) (T := TX4) (N := 16) hC hinX4 0 rfl rfl 2 (by decide) tyX4 tyX4_ok nmX4 (by decide +kernel) rfl (rfl) (rfl) (Nat.le_of_ble_eq_true rfl) [(p 0, .inr (5, [.int (nI n), .ref (p 1), .int (nI (cnt - 1)), .int (bI (kn)), .ref (p 2), .ref (p 3), .ref (p 4), .ref (p 5), .int (nI rd), .int md, .ref (p 6), .int (nI fo), .ref (p 7), .int (nI ps), .int (nI 0), .ref (p 8)])), (p 1, .inl (cI, 320, .inl Ax))] rfl dX4_drop_26 ?_
  refine z_iconst (pc := 29) (v := (nI 4)) hC dX4_drop_29 (by decide +kernel) ?_
  refine z_iload_n (pc := 30) hC 1 dX4_drop_30 rfl ?_
  refine z_imul (pc := 31) (v := (nI (4 * k))) hC dX4_drop_31 (pk_mul _ _) ?_
  refine z_istore_n (pc := 32) hC hNL [(2, .int (nI (4 * k))), (0, .ref (p 0)), (1, .int (nI k))] dX4_drop_32 (by decide) rfl ?_
  have L33 : ∀ (fu : Nat) (i : Nat) (f : Nat → Int32) (hi : 4 * k ≤ i ∧ i ≤ 4 * (cnt - 1)) (hf : 4 * (cnt - 1) + 1 ≤ i + fu) (hv : f = drpF Ax k i), Z K 0 0 [(p 0, .inr (5, [.int (nI n), .ref (p 1), .int (nI (cnt - 1)), .int (bI (kn)), .ref (p 2), .ref (p 3), .ref (p 4), .ref (p 5), .int (nI rd), .int md, .ref (p 6), .int (nI fo), .ref (p 7), .int (nI ps), .int (nI 0), .ref (p 8)])), (p 1, .inl (cI, 320, .inl f))] [(2, .int (nI i)), (0, .ref (p 0)), (1, .int (nI k))] 33 [] := by
    intro fu
    induction fu with
    | zero =>
      intro i f hi hf hv
      exact absurd trivial (by omega)
    | succ fu ih33 =>
      intro i f hi hf hv
      refine z_iload_n (pc := 33) hC 0 dX4_drop_33 rfl ?_
      refine z_iconst (pc := 34) (v := (nI 4)) hC dX4_drop_34 (by decide +kernel) ?_
      refine z_aload_n (pc := 35) hC 1 dX4_drop_35 rfl ?_
      refine z_get (pc := 36) (C := RX4) (T := TX4) (N := 16) hC hinX4 0 rfl rfl 2 (by decide) (by decide +kernel) rfl dX4_drop_36 ?_
      refine z_imul (pc := 39) (v := (nI (4 * (cnt - 1)))) hC dX4_drop_39 (pk_mul _ _) ?_
      refine z_ncmp_ge (pc := 40) (tgt := 63) hC dX4_drop_40 (by decide) (by omega) (by omega) (fun h40 => ?_) (fun h40 => ?_)
      · refine z_aload_n (pc := 63) hC 1 dX4_drop_63 rfl ?_
        refine z_iconst (pc := 64) (v := (nI 0)) hC dX4_drop_64 (by decide +kernel) ?_
        refine z_topi (bI (false)) rfl ?_
        refine z_put (pc := 65) (C := RX4) (T := TX4) (N := 16) hC hinX4 0 rfl rfl 3 (by decide) tyX4 tyX4_ok nmX4 (by decide +kernel) rfl (by decide +kernel) (by decide +kernel) (Nat.le_of_ble_eq_true rfl) [(p 0, .inr (5, [.int (nI n), .ref (p 1), .int (nI (cnt - 1)), .int (bI (false)), .ref (p 2), .ref (p 3), .ref (p 4), .ref (p 5), .int (nI rd), .int md, .ref (p 6), .int (nI fo), .ref (p 7), .int (nI ps), .int (nI 0), .ref (p 8)])), (p 1, .inl (cI, 320, .inl f))] rfl dX4_drop_65 ?_
        refine z_aload_n (pc := 68) hC 1 dX4_drop_68 rfl ?_
        refine z_get (pc := 69) (C := RX4) (T := TX4) (N := 16) hC hinX4 0 rfl rfl 2 (by decide) (by decide +kernel) rfl dX4_drop_69 ?_
        exact z_iret (pc := 72) hC hQ hRT (rfl) (rfl) (by rw [hv, show i = 4 * (cnt - 1) by omega]) dX4_drop_72
      · refine z_aload_n (pc := 43) hC 1 dX4_drop_43 rfl ?_
        refine z_get (pc := 44) (C := RX4) (T := TX4) (N := 16) hC hinX4 0 rfl rfl 1 (by decide) (by decide +kernel) rfl dX4_drop_44 ?_
        refine z_iload_n (pc := 47) hC 0 dX4_drop_47 rfl ?_
        refine z_aload_n (pc := 48) hC 1 dX4_drop_48 rfl ?_
        refine z_get (pc := 49) (C := RX4) (T := TX4) (N := 16) hC hinX4 0 rfl rfl 1 (by decide) (by decide +kernel) rfl dX4_drop_49 ?_
        refine z_iload_n (pc := 52) hC 0 dX4_drop_52 rfl ?_
        refine z_iconst (pc := 53) (v := (nI 4)) hC dX4_drop_53 (by decide +kernel) ?_
        refine z_iadd (pc := 54) (v := (nI (i + 4))) hC dX4_drop_54 (nI_add _ _) ?_
        refine z_iald (pc := 55) (v := (f (i + 4))) hC 1 0 rfl rfl (by omega) (by decide) (rfl) dX4_drop_55 ?_
        refine z_iast (pc := 56) hC 1 0 rfl rfl (by omega) (by decide) [(p 0, .inr (5, [.int (nI n), .ref (p 1), .int (nI (cnt - 1)), .int (bI (kn)), .ref (p 2), .ref (p 3), .ref (p 4), .ref (p 5), .int (nI rd), .int md, .ref (p 6), .int (nI fo), .ref (p 7), .int (nI ps), .int (nI 0), .ref (p 8)])), (p 1, .inl (cI, 320, .inl (upd f i (f (i + 4)))))] rfl dX4_drop_56 ?_
        refine z_iinc (pc := 57) (q := 0) (x := (nI i)) (v := (nI (i + 1))) hC hNL [(2, .int (nI (i + 1))), (0, .ref (p 0)), (1, .int (nI k))] dX4_drop_57 rfl (nI_add _ _) (by decide) rfl ?_
        refine z_goto (pc := 60) (tgt := 33) hC dX4_drop_60 (by decide) ?_
        exact ih33 (i + 1) (upd f i (f (i + 4))) (by omega) (by omega) (by rw [hv, drpF_s hi.1])
  exact L33 (4 * (cnt - 1) + 1) (4 * k) (Ax) (by omega) (by omega) ((drpF_0 Ax k).symm)

theorem cod_sub {a b : Nat} (hb : b < 24) : cod a b = 24 * a + b := if_pos hb
theorem cod_link {a r b : Nat} : cod a (lcol r b) = 576 + 24 * (6 * a + r) + b := by
  unfold cod lcol
  rw [if_neg (by omega)]
  omega

set_option maxRecDepth 100000 in
set_option maxHeartbeats 4000000 in
theorem c_X4_code (l : Launch) (D : va_G) (cI cJ cZ : ClassId) (a : Nat) (b : Nat) (hb : b < 24) : MI l yX4_code wsX4_code { frames := 0, cells := 0, slots := 0, locals := 0 } D (tyL cI cJ cZ) [.int (nI a), .int (nI b)] [] [] (nI (cod a b)) := by
  refine metI_of (cc := cX4_code) (maxL := 2) (ret := (some .int)) (by decide +kernel) rfl (Nat.le_of_ble_eq_true rfl) ?_
  intro K hC hRm hNL hDis hLis hRT hIni hQ
  refine z_bipush (pc := 0) (v := (nI 24)) hC dX4_code_0 (by decide +kernel) ?_
  refine z_iload_n (pc := 2) hC 0 dX4_code_2 rfl ?_
  refine z_imul (pc := 3) (v := (nI (24 * a))) hC dX4_code_3 (pk_mul _ _) ?_
  refine z_iload_n (pc := 4) hC 1 dX4_code_4 rfl ?_
  refine z_iadd (pc := 5) (v := (nI (24 * a + b))) hC dX4_code_5 (nI_add _ _) ?_
  exact z_iret (pc := 6) hC hQ hRT (rfl) (by rw [cod_sub hb]) (rfl) dX4_code_6

set_option maxRecDepth 100000 in
set_option maxHeartbeats 4000000 in
theorem c_X4_linked (l : Launch) (D : va_G) (cI cJ cZ : ClassId) (a : Nat) (r : Nat) (b : Nat) : MI l yX4_linked wsX4_linked { frames := 0, cells := 0, slots := 0, locals := 0 } D (tyL cI cJ cZ) [.int (nI a), .int (nI r), .int (nI b)] [] [] (nI (cod a (lcol r b))) := by
  refine metI_of (cc := cX4_linked) (maxL := 3) (ret := (some .int)) (by decide +kernel) rfl (Nat.le_of_ble_eq_true rfl) ?_
  intro K hC hRm hNL hDis hLis hRT hIni hQ
  refine z_sipush (pc := 0) (v := (nI 576)) hC dX4_linked_0 (by decide +kernel) ?_
  refine z_bipush (pc := 3) (v := (nI 24)) hC dX4_linked_3 (by decide +kernel) ?_
  refine z_bipush (pc := 5) (v := (nI 6)) hC dX4_linked_5 (by decide +kernel) ?_
  refine z_iload_n (pc := 7) hC 0 dX4_linked_7 rfl ?_
  refine z_imul (pc := 8) (v := (nI (6 * a))) hC dX4_linked_8 (pk_mul _ _) ?_
  refine z_iload_n (pc := 9) hC 1 dX4_linked_9 rfl ?_
  refine z_iadd (pc := 10) (v := (nI (6 * a + r))) hC dX4_linked_10 (nI_add _ _) ?_
  refine z_imul (pc := 11) (v := (nI (24 * (6 * a + r)))) hC dX4_linked_11 (pk_mul _ _) ?_
  refine z_iadd (pc := 12) (v := (nI (576 + 24 * (6 * a + r)))) hC dX4_linked_12 (nI_add _ _) ?_
  refine z_iload_n (pc := 13) hC 2 dX4_linked_13 rfl ?_
  refine z_iadd (pc := 14) (v := (nI (576 + 24 * (6 * a + r) + b))) hC dX4_linked_14 (nI_add _ _) ?_
  exact z_iret (pc := 15) hC hQ hRT (rfl) (by rw [cod_link]) (rfl) dX4_linked_15

abbrev MS : Type := (Nat → Int32) × (Nat → Int32) × (Nat → Int32) × (Nat → Int32) × Int32
def mHas (R : Nat → Int32) (rd : Int32) (c : Nat) : Bool := decide (¬ R c < 0 ∧ ¬ rd ≤ R c)
theorem mHas_n {R : Nat → Int32} {rd : Int32} {c : Nat} (h : R c < 0) : mHas R rd c = false := decide_eq_false (fun q => q.1 h)
theorem mHas_g {R : Nat → Int32} {rd : Int32} {c : Nat} (h : rd ≤ R c) : mHas R rd c = false := decide_eq_false (fun q => q.2 h)
theorem mHas_t {R : Nat → Int32} {rd : Int32} {c : Nat} (h : ¬ R c < 0) (h2 : ¬ rd ≤ R c) : mHas R rd c = true := decide_eq_true ⟨h, h2⟩
def mStart (c : Nat) (x : MS) : MS := if x.1 c = 0 then x else (upd x.1 c (nI 0), upd x.2.1 c (-1), upd x.2.2.1 c (-1), upd x.2.2.2.1 c (-1), x.2.2.2.2)
theorem mStart_e {c : Nat} {x : MS} (h : x.1 c = 0) : mStart c x = x := if_pos h
theorem mStart_n {c : Nat} {x : MS} (h : x.1 c ≠ 0) : mStart c x = (upd x.1 c (nI 0), upd x.2.1 c (-1), upd x.2.2.1 c (-1), upd x.2.2.2.1 c (-1), x.2.2.2.2) := if_neg h
def mBet (why fi se wy f2 s2 : Int32) : Bool := decide (why < wy ∨ (why = wy ∧ (fi < f2 ∨ (fi = f2 ∧ se < s2))))
def mOK (R : Nat → Int32) (rd : Int32) (c fi : Nat) (se : Int32) : Bool := mHas R rd fi && (decide (se < 0) || mHas R rd (tn se)) && !mHas R rd c
def mSet (rd : Int32) (c : Nat) (why : Int32) (fi : Nat) (se : Int32) (x : MS) (md : Int32) : MS := (upd x.1 c rd, upd x.2.1 c why, upd x.2.2.1 c (nI fi), upd x.2.2.2.1 c se, md)
def mG (rd : Int32) (c : Nat) (why : Int32) (fi : Nat) (se : Int32) (x : MS) : MS := if mOK x.1 rd c fi se = true then (if x.1 c < 0 then mSet rd c why fi se x (x.2.2.2.2 + nI 1) else if mBet why (nI fi) se (x.2.1 c) (x.2.2.1 c) (x.2.2.2.1 c) = true then mSet rd c why fi se x x.2.2.2.2 else x) else x
section MG
variable {rd : Int32} {c : Nat} {why : Int32} {fi : Nat} {se : Int32} {x : MS}
theorem mG_no (h : mOK x.1 rd c fi se = false) : mG rd c why fi se x = x := if_neg (by rw [h]; decide)
theorem mG_fr (h : mOK x.1 rd c fi se = true) (h2 : x.1 c < 0) : mG rd c why fi se x = mSet rd c why fi se x (x.2.2.2.2 + nI 1) := by unfold mG; rw [if_pos h, if_pos h2]
theorem mG_be (h : mOK x.1 rd c fi se = true) (h2 : ¬ x.1 c < 0) (h3 : mBet why (nI fi) se (x.2.1 c) (x.2.2.1 c) (x.2.2.2.1 c) = true) : mG rd c why fi se x = mSet rd c why fi se x x.2.2.2.2 := by unfold mG; rw [if_pos h, if_neg h2, if_pos h3]
theorem mG_nb (h : mOK x.1 rd c fi se = true) (h2 : ¬ x.1 c < 0) (h3 : mBet why (nI fi) se (x.2.1 c) (x.2.2.1 c) (x.2.2.2.1 c) = false) : mG rd c why fi se x = x := by unfold mG; rw [if_pos h, if_neg h2, if_neg (by rw [h3]; decide)]
theorem mOK_1 {R : Nat → Int32} (h : mHas R rd fi = false) : mOK R rd c fi se = false := by unfold mOK; rw [h]; rfl
theorem mOK_2 {R : Nat → Int32} (h : ¬ se < 0) (h2 : mHas R rd (tn se) = false) : mOK R rd c fi se = false := by unfold mOK; rw [decide_eq_false h, h2]; simp
theorem mOK_3 {R : Nat → Int32} (h : mHas R rd c = true) : mOK R rd c fi se = false := by unfold mOK; rw [h]; simp
theorem mOK_t {R : Nat → Int32} (h1 : mHas R rd fi = true) (h2 : se < 0 ∨ mHas R rd (tn se) = true) (h3 : mHas R rd c = false) : mOK R rd c fi se = true := by
  unfold mOK
  rw [h1, h3]
  rcases h2 with h | h
  · rw [decide_eq_true h]; rfl
  · rw [h]; simp
end MG

set_option maxRecDepth 100000 in
set_option maxHeartbeats 4000000 in
theorem c_X4_has (l : Launch) (D : va_G) (cI cJ cZ : ClassId) (p : Nat → Nat) (n : Nat) (cnt : Nat) (kn : Bool) (rd : Nat) (md : Int32) (fo : Nat) (ps : Nat) (th : Int32) (R : Nat → Int32) (c : Nat) (hc : c < 4032) : MI l yX4_has wsX4_has { frames := 0, cells := 0, slots := 0, locals := 0 } D (tyL cI cJ cZ) [.ref (p 0), .int (nI c)] [(p 0, .inr (5, [.int (nI n), .ref (p 1), .int (nI cnt), .int (bI (kn)), .ref (p 2), .ref (p 3), .ref (p 4), .ref (p 5), .int (nI rd), .int md, .ref (p 6), .int (nI fo), .ref (p 7), .int (nI ps), .int th, .ref (p 8)])), (p 2, .inl (cI, 4032, .inl R))] [(p 0, .inr (5, [.int (nI n), .ref (p 1), .int (nI cnt), .int (bI (kn)), .ref (p 2), .ref (p 3), .ref (p 4), .ref (p 5), .int (nI rd), .int md, .ref (p 6), .int (nI fo), .ref (p 7), .int (nI ps), .int th, .ref (p 8)])), (p 2, .inl (cI, 4032, .inl R))] (bI (mHas R (nI rd) c)) := by
  refine metI_of (cc := cX4_has) (maxL := 2) (ret := (some .boolean)) (by decide +kernel) rfl (Nat.le_of_ble_eq_true rfl) ?_
  intro K hC hRm hNL hDis hLis hRT hIni hQ
  have hinX4 : ∀ w ∈ wsX40, w ∈ wsX4_has := by decide +kernel
  refine z_aload_n (pc := 0) hC 0 dX4_has_0 rfl ?_
  refine z_get (pc := 1) (C := RX4) (T := TX4) (N := 16) hC hinX4 0 rfl rfl 4 (by decide) (by decide +kernel) rfl dX4_has_1 ?_
  refine z_iload_n (pc := 4) hC 1 dX4_has_4 rfl ?_
  refine z_iald (pc := 5) (v := (R c)) hC 1 0 rfl rfl (by omega) (by decide) (rfl) dX4_has_5 ?_
  refine z_if_lt (pc := 6) (tgt := 26) hC dX4_has_6 (by decide) (fun h6 => ?_) (fun h6 => ?_)
  · refine z_iconst (pc := 26) (v := (nI 0)) hC dX4_has_26 (by decide +kernel) ?_
    exact z_iret (pc := 27) hC hQ hRT (by decide +kernel) (by first | exact bI_f (mHas_n h6) | exact bI_f (mHas_g h19) | exact bI_t (mHas_t h6 h19)) (rfl) dX4_has_27
  · refine z_aload_n (pc := 9) hC 0 dX4_has_9 rfl ?_
    refine z_get (pc := 10) (C := RX4) (T := TX4) (N := 16) hC hinX4 0 rfl rfl 4 (by decide) (by decide +kernel) rfl dX4_has_10 ?_
    refine z_iload_n (pc := 13) hC 1 dX4_has_13 rfl ?_
    refine z_iald (pc := 14) (v := (R c)) hC 1 0 rfl rfl (by omega) (by decide) (rfl) dX4_has_14 ?_
    refine z_aload_n (pc := 15) hC 0 dX4_has_15 rfl ?_
    refine z_get (pc := 16) (C := RX4) (T := TX4) (N := 16) hC hinX4 0 rfl rfl 8 (by decide) (by decide +kernel) rfl dX4_has_16 ?_
    refine z_icmp_ge (pc := 19) (tgt := 26) hC dX4_has_19 (by decide) (fun h19 => ?_) (fun h19 => ?_)
    · refine z_iconst (pc := 26) (v := (nI 0)) hC dX4_has_26 (by decide +kernel) ?_
      exact z_iret (pc := 27) hC hQ hRT (by decide +kernel) (by first | exact bI_f (mHas_n h6) | exact bI_f (mHas_g h19) | exact bI_t (mHas_t h6 h19)) (rfl) dX4_has_27
    · refine z_iconst (pc := 22) (v := (nI 1)) hC dX4_has_22 (by decide +kernel) ?_
      refine z_goto (pc := 23) (tgt := 27) hC dX4_has_23 (by decide) ?_
      exact z_iret (pc := 27) hC hQ hRT (by decide +kernel) (by first | exact bI_f (mHas_n h6) | exact bI_f (mHas_g h19) | exact bI_t (mHas_t h6 h19)) (rfl) dX4_has_27

set_option maxRecDepth 100000 in
set_option maxHeartbeats 4000000 in
theorem c_X4_start (l : Launch) (D : va_G) (cI cJ cZ : ClassId) (p : Nat → Nat) (n : Nat) (cnt : Nat) (kn : Bool) (rd : Nat) (fo : Nat) (ps : Nat) (th : Int32) (x : MS) (c : Nat) (hc : c < 4032) : MV l yX4_start wsX4_start { frames := 0, cells := 0, slots := 0, locals := 0 } D (tyL cI cJ cZ) [.ref (p 0), .int (nI c)] [(p 0, .inr (5, [.int (nI n), .ref (p 1), .int (nI cnt), .int (bI (kn)), .ref (p 2), .ref (p 3), .ref (p 4), .ref (p 5), .int (nI rd), .int x.2.2.2.2, .ref (p 6), .int (nI fo), .ref (p 7), .int (nI ps), .int th, .ref (p 8)])), (p 2, .inl (cI, 4032, .inl x.1)), (p 3, .inl (cI, 4032, .inl x.2.1)), (p 4, .inl (cI, 4032, .inl x.2.2.1)), (p 5, .inl (cI, 4032, .inl x.2.2.2.1))] [(p 0, .inr (5, [.int (nI n), .ref (p 1), .int (nI cnt), .int (bI (kn)), .ref (p 2), .ref (p 3), .ref (p 4), .ref (p 5), .int (nI rd), .int ((mStart c x).2.2.2.2), .ref (p 6), .int (nI fo), .ref (p 7), .int (nI ps), .int th, .ref (p 8)])), (p 2, .inl (cI, 4032, .inl ((mStart c x).1))), (p 3, .inl (cI, 4032, .inl ((mStart c x).2.1))), (p 4, .inl (cI, 4032, .inl ((mStart c x).2.2.1))), (p 5, .inl (cI, 4032, .inl ((mStart c x).2.2.2.1)))] := by
  refine metV_of (cc := cX4_start) (maxL := 2) (ret := none) (by decide +kernel) rfl (Nat.le_of_ble_eq_true rfl) ?_
  intro K hC hRm hNL hDis hLis hRT hIni hQ
  have hinX4 : ∀ w ∈ wsX40, w ∈ wsX4_start := by decide +kernel
  refine z_aload_n (pc := 0) hC 0 dX4_start_0 rfl ?_
  refine z_get (pc := 1) (C := RX4) (T := TX4) (N := 16) hC hinX4 0 rfl rfl 4 (by decide) (by decide +kernel) rfl dX4_start_1 ?_
  refine z_iload_n (pc := 4) hC 1 dX4_start_4 rfl ?_
  refine z_iald (pc := 5) (v := (x.1 c)) hC 1 0 rfl rfl (by omega) (by decide) (rfl) dX4_start_5 ?_
  refine z_if_ne (pc := 6) (tgt := 10) hC dX4_start_6 (by decide) (fun h6 => ?_) (fun h6 => ?_)
  · refine z_aload_n (pc := 10) hC 0 dX4_start_10 rfl ?_
    refine z_get (pc := 11) (C := RX4) (T := TX4) (N := 16) hC hinX4 0 rfl rfl 4 (by decide) (by decide +kernel) rfl dX4_start_11 ?_
    refine z_iload_n (pc := 14) hC 1 dX4_start_14 rfl ?_
    refine z_iconst (pc := 15) (v := (nI 0)) hC dX4_start_15 (by decide +kernel) ?_
    refine z_iast (pc := 16) hC 1 0 rfl rfl (by omega) (by decide) [(p 0, .inr (5, [.int (nI n), .ref (p 1), .int (nI cnt), .int (bI (kn)), .ref (p 2), .ref (p 3), .ref (p 4), .ref (p 5), .int (nI rd), .int x.2.2.2.2, .ref (p 6), .int (nI fo), .ref (p 7), .int (nI ps), .int th, .ref (p 8)])), (p 2, .inl (cI, 4032, .inl (upd x.1 c (nI 0)))), (p 3, .inl (cI, 4032, .inl x.2.1)), (p 4, .inl (cI, 4032, .inl x.2.2.1)), (p 5, .inl (cI, 4032, .inl x.2.2.2.1))] rfl dX4_start_16 ?_
    refine z_aload_n (pc := 17) hC 0 dX4_start_17 rfl ?_
    refine z_get (pc := 18) (C := RX4) (T := TX4) (N := 16) hC hinX4 0 rfl rfl 5 (by decide) (by decide +kernel) rfl dX4_start_18 ?_
    refine z_iload_n (pc := 21) hC 1 dX4_start_21 rfl ?_
    refine z_iconst (pc := 22) (v := (-1)) hC dX4_start_22 (by decide +kernel) ?_
    refine z_iast (pc := 23) hC 2 0 rfl rfl (by omega) (by decide) [(p 0, .inr (5, [.int (nI n), .ref (p 1), .int (nI cnt), .int (bI (kn)), .ref (p 2), .ref (p 3), .ref (p 4), .ref (p 5), .int (nI rd), .int x.2.2.2.2, .ref (p 6), .int (nI fo), .ref (p 7), .int (nI ps), .int th, .ref (p 8)])), (p 2, .inl (cI, 4032, .inl (upd x.1 c (nI 0)))), (p 3, .inl (cI, 4032, .inl (upd x.2.1 c (-1)))), (p 4, .inl (cI, 4032, .inl x.2.2.1)), (p 5, .inl (cI, 4032, .inl x.2.2.2.1))] rfl dX4_start_23 ?_
    refine z_aload_n (pc := 24) hC 0 dX4_start_24 rfl ?_
    refine z_get (pc := 25) (C := RX4) (T := TX4) (N := 16) hC hinX4 0 rfl rfl 6 (by decide) (by decide +kernel) rfl dX4_start_25 ?_
    refine z_iload_n (pc := 28) hC 1 dX4_start_28 rfl ?_
    refine z_iconst (pc := 29) (v := (-1)) hC dX4_start_29 (by decide +kernel) ?_
    refine z_iast (pc := 30) hC 3 0 rfl rfl (by omega) (by decide) [(p 0, .inr (5, [.int (nI n), .ref (p 1), .int (nI cnt), .int (bI (kn)), .ref (p 2), .ref (p 3), .ref (p 4), .ref (p 5), .int (nI rd), .int x.2.2.2.2, .ref (p 6), .int (nI fo), .ref (p 7), .int (nI ps), .int th, .ref (p 8)])), (p 2, .inl (cI, 4032, .inl (upd x.1 c (nI 0)))), (p 3, .inl (cI, 4032, .inl (upd x.2.1 c (-1)))), (p 4, .inl (cI, 4032, .inl (upd x.2.2.1 c (-1)))), (p 5, .inl (cI, 4032, .inl x.2.2.2.1))] rfl dX4_start_30 ?_
    refine z_aload_n (pc := 31) hC 0 dX4_start_31 rfl ?_
    refine z_get (pc := 32) (C := RX4) (T := TX4) (N := 16) hC hinX4 0 rfl rfl 7 (by decide) (by decide +kernel) rfl dX4_start_32 ?_
    refine z_iload_n (pc := 35) hC 1 dX4_start_35 rfl ?_
    refine z_iconst (pc := 36) (v := (-1)) hC dX4_start_36 (by decide +kernel) ?_
    refine z_iast (pc := 37) hC 4 0 rfl rfl (by omega) (by decide) [(p 0, .inr (5, [.int (nI n), .ref (p 1), .int (nI cnt), .int (bI (kn)), .ref (p 2), .ref (p 3), .ref (p 4), .ref (p 5), .int (nI rd), .int x.2.2.2.2, .ref (p 6), .int (nI fo), .ref (p 7), .int (nI ps), .int th, .ref (p 8)])), (p 2, .inl (cI, 4032, .inl (upd x.1 c (nI 0)))), (p 3, .inl (cI, 4032, .inl (upd x.2.1 c (-1)))), (p 4, .inl (cI, 4032, .inl (upd x.2.2.1 c (-1)))), (p 5, .inl (cI, 4032, .inl (upd x.2.2.2.1 c (-1))))] rfl dX4_start_37 ?_
    exact z_vret (pc := 38) hC hQ hRT (by rw [mStart_n h6]) dX4_start_38
  · exact z_vret (pc := 9) hC hQ hRT (by rw [mStart_e h6]) dX4_start_9

set_option maxRecDepth 100000 in
set_option maxHeartbeats 4000000 in
theorem c_X4_give (l : Launch) (D : va_G) (cI cJ cZ : ClassId) (p : Nat → Nat) (n : Nat) (cnt : Nat) (kn : Bool) (rd : Nat) (fo : Nat) (ps : Nat) (th : Int32) (x : MS) (c : Nat) (why : Int32) (fi : Nat) (se : Int32) (hc : c < 4032) (hf : fi < 4032) (hs : ¬ se < 0 → clV 4032 se) : MV l yX4_give wsX4_give { frames := 1, cells := 0, slots := 0, locals := 21 } D (tyL cI cJ cZ) [.ref (p 0), .int (nI c), .int why, .int (nI fi), .int se] [(p 0, .inr (5, [.int (nI n), .ref (p 1), .int (nI cnt), .int (bI (kn)), .ref (p 2), .ref (p 3), .ref (p 4), .ref (p 5), .int (nI rd), .int x.2.2.2.2, .ref (p 6), .int (nI fo), .ref (p 7), .int (nI ps), .int th, .ref (p 8)])), (p 2, .inl (cI, 4032, .inl x.1)), (p 3, .inl (cI, 4032, .inl x.2.1)), (p 4, .inl (cI, 4032, .inl x.2.2.1)), (p 5, .inl (cI, 4032, .inl x.2.2.2.1))] [(p 0, .inr (5, [.int (nI n), .ref (p 1), .int (nI cnt), .int (bI (kn)), .ref (p 2), .ref (p 3), .ref (p 4), .ref (p 5), .int (nI rd), .int ((mG (nI rd) c why fi se x).2.2.2.2), .ref (p 6), .int (nI fo), .ref (p 7), .int (nI ps), .int th, .ref (p 8)])), (p 2, .inl (cI, 4032, .inl ((mG (nI rd) c why fi se x).1))), (p 3, .inl (cI, 4032, .inl ((mG (nI rd) c why fi se x).2.1))), (p 4, .inl (cI, 4032, .inl ((mG (nI rd) c why fi se x).2.2.1))), (p 5, .inl (cI, 4032, .inl ((mG (nI rd) c why fi se x).2.2.2.1)))] := by
  refine metV_of (cc := cX4_give) (maxL := 7) (ret := none) (by decide +kernel) rfl (Nat.le_of_ble_eq_true rfl) ?_
  intro K hC hRm hNL hDis hLis hRT hIni hQ
  have hinX4 : ∀ w ∈ wsX40, w ∈ wsX4_give := by decide +kernel
  refine z_aload_n (pc := 0) hC 0 dX4_give_0 rfl ?_
  refine z_iload_n (pc := 1) hC 3 dX4_give_1 rfl ?_
  refine z_callV_I (pc := 2) (y := yX4_has) (wy := wsX4_has) (rm := { frames := 0, cells := 0, slots := 0, locals := 0 }) (As := [.int (nI fi)]) (rest := []) (na := 1) (C := RX4) (T := TX4) (NF := 16) (ci := 5) (wc := [(p 0, .inr (5, [.int (nI n), .ref (p 1), .int (nI cnt), .int (bI (kn)), .ref (p 2), .ref (p 3), .ref (p 4), .ref (p 5), .int (nI rd), .int x.2.2.2.2, .ref (p 6), .int (nI fo), .ref (p 7), .int (nI ps), .int th, .ref (p 8)])), (p 2, .inl (cI, 4032, .inl x.1))]) (wc2 := [(p 0, .inr (5, [.int (nI n), .ref (p 1), .int (nI cnt), .int (bI (kn)), .ref (p 2), .ref (p 3), .ref (p 4), .ref (p 5), .int (nI rd), .int x.2.2.2.2, .ref (p 6), .int (nI fo), .ref (p 7), .int (nI ps), .int th, .ref (p 8)])), (p 2, .inl (cI, 4032, .inl x.1))]) hC hRm hDis hLis 0 rfl rfl gX4_give_X4_has ⟨rfl, by decide +kernel, by decide +kernel⟩ rfl ⟨by decide, by decide⟩ ⟨by decide, by decide⟩ rfl (Nat.le_of_ble_eq_true rfl) (by decide +kernel) (c_X4_has _ _ cI cJ cZ (p) (n) (cnt) (kn) (rd) (x.2.2.2.2) (fo) (ps) (th) (x.1) (fi) (hf)) [0, 1] [2, 3, 4] [3, 4, 0, 1, 2] [(p 3, .inl (cI, 4032, .inl x.2.1)), (p 4, .inl (cI, 4032, .inl x.2.2.1)), (p 5, .inl (cI, 4032, .inl x.2.2.2.1))] rfl (by decide) rfl (by decide) (by decide) [(p 0, .inr (5, [.int (nI n), .ref (p 1), .int (nI cnt), .int (bI (kn)), .ref (p 2), .ref (p 3), .ref (p 4), .ref (p 5), .int (nI rd), .int x.2.2.2.2, .ref (p 6), .int (nI fo), .ref (p 7), .int (nI ps), .int th, .ref (p 8)])), (p 2, .inl (cI, 4032, .inl x.1)), (p 3, .inl (cI, 4032, .inl x.2.1)), (p 4, .inl (cI, 4032, .inl x.2.2.1)), (p 5, .inl (cI, 4032, .inl x.2.2.2.1))] rfl (by decide) rfl dX4_give_2 ?_
  refine z_bif_eq (pc := 5) (tgt := 30) hC dX4_give_5 (by decide) (fun h5 => ?_) (fun h5 => ?_)
  · exact z_vret (pc := 30) hC hQ hRT (by first | rw [mG_no (mOK_1 h5)] | rw [mG_no (mOK_2 h10 (by rw [tn_nI (by omega)]; exact h19))] | rw [mG_no (mOK_3 h27)]) dX4_give_30
  · refine z_iload (pc := 8) hC 4 dX4_give_8 rfl ?_
    refine z_if_lt (pc := 10) (tgt := 22) hC dX4_give_10 (by decide) (fun h10 => ?_) (fun h10 => ?_)
    · refine z_aload_n (pc := 22) hC 0 dX4_give_22 rfl ?_
      refine z_iload_n (pc := 23) hC 1 dX4_give_23 rfl ?_
      refine z_callV_I (pc := 24) (y := yX4_has) (wy := wsX4_has) (rm := { frames := 0, cells := 0, slots := 0, locals := 0 }) (As := [.int (nI c)]) (rest := []) (na := 1) (C := RX4) (T := TX4) (NF := 16) (ci := 5) (wc := [(p 0, .inr (5, [.int (nI n), .ref (p 1), .int (nI cnt), .int (bI (kn)), .ref (p 2), .ref (p 3), .ref (p 4), .ref (p 5), .int (nI rd), .int x.2.2.2.2, .ref (p 6), .int (nI fo), .ref (p 7), .int (nI ps), .int th, .ref (p 8)])), (p 2, .inl (cI, 4032, .inl x.1))]) (wc2 := [(p 0, .inr (5, [.int (nI n), .ref (p 1), .int (nI cnt), .int (bI (kn)), .ref (p 2), .ref (p 3), .ref (p 4), .ref (p 5), .int (nI rd), .int x.2.2.2.2, .ref (p 6), .int (nI fo), .ref (p 7), .int (nI ps), .int th, .ref (p 8)])), (p 2, .inl (cI, 4032, .inl x.1))]) hC hRm hDis hLis 0 rfl rfl gX4_give_X4_has ⟨rfl, by decide +kernel, by decide +kernel⟩ rfl ⟨by decide, by decide⟩ ⟨by decide, by decide⟩ rfl (Nat.le_of_ble_eq_true rfl) (by decide +kernel) (c_X4_has _ _ cI cJ cZ (p) (n) (cnt) (kn) (rd) (x.2.2.2.2) (fo) (ps) (th) (x.1) (c) (hc)) [0, 1] [2, 3, 4] [3, 4, 0, 1, 2] [(p 3, .inl (cI, 4032, .inl x.2.1)), (p 4, .inl (cI, 4032, .inl x.2.2.1)), (p 5, .inl (cI, 4032, .inl x.2.2.2.1))] rfl (by decide) rfl (by decide) (by decide) [(p 0, .inr (5, [.int (nI n), .ref (p 1), .int (nI cnt), .int (bI (kn)), .ref (p 2), .ref (p 3), .ref (p 4), .ref (p 5), .int (nI rd), .int x.2.2.2.2, .ref (p 6), .int (nI fo), .ref (p 7), .int (nI ps), .int th, .ref (p 8)])), (p 2, .inl (cI, 4032, .inl x.1)), (p 3, .inl (cI, 4032, .inl x.2.1)), (p 4, .inl (cI, 4032, .inl x.2.2.1)), (p 5, .inl (cI, 4032, .inl x.2.2.2.1))] rfl (by decide) rfl dX4_give_24 ?_
      refine z_bif_eq (pc := 27) (tgt := 31) hC dX4_give_27 (by decide) (fun h27 => ?_) (fun h27 => ?_)
      · refine z_aload_n (pc := 31) hC 0 dX4_give_31 rfl ?_
        refine z_get (pc := 32) (C := RX4) (T := TX4) (N := 16) hC hinX4 0 rfl rfl 4 (by decide) (by decide +kernel) rfl dX4_give_32 ?_
        refine z_iload_n (pc := 35) hC 1 dX4_give_35 rfl ?_
        refine z_iald (pc := 36) (v := (x.1 c)) hC 1 0 rfl rfl (by omega) (by decide) (rfl) dX4_give_36 ?_
        refine z_if_ge (pc := 37) (tgt := 44) hC dX4_give_37 (by decide) (fun h37 => ?_) (fun h37 => ?_)
        · refine z_iconst (pc := 44) (v := (nI 0)) hC dX4_give_44 (by decide +kernel) ?_
          refine z_istore (pc := 45) hC hNL [(5, .int (nI 0)), (0, .ref (p 0)), (1, .int (nI c)), (2, .int why), (3, .int (nI fi)), (4, .int se)] dX4_give_45 (by decide) rfl ?_
          refine z_iload (pc := 47) hC 0 dX4_give_47 rfl ?_
          refine z_nif_ne (pc := 49) (tgt := 103) hC dX4_give_49 (by decide) (by omega) (fun h49 => absurd h49 (by decide)) (fun h49 => ?_)
          refine z_iload_n (pc := 52) hC 3 dX4_give_52 rfl ?_
          refine z_aload_n (pc := 53) hC 1 dX4_give_53 rfl ?_
          refine z_get (pc := 54) (C := RX4) (T := TX4) (N := 16) hC hinX4 0 rfl rfl 5 (by decide) (by decide +kernel) rfl dX4_give_54 ?_
          refine z_iload_n (pc := 57) hC 2 dX4_give_57 rfl ?_
          refine z_iald (pc := 58) (v := (x.2.1 c)) hC 2 0 rfl rfl (by omega) (by decide) (rfl) dX4_give_58 ?_
          refine z_icmp_lt (pc := 59) (tgt := 103) hC dX4_give_59 (by decide) (fun h59 => ?_) (fun h59 => ?_)
          · refine z_iconst (pc := 103) (v := (nI 1)) hC dX4_give_103 (by decide +kernel) ?_
            refine z_goto (pc := 104) (tgt := 108) hC dX4_give_104 (by decide) ?_
            refine z_istore (pc := 108) hC hNL [(6, .int (nI 1)), (5, .int (nI 0)), (0, .ref (p 0)), (1, .int (nI c)), (2, .int why), (3, .int (nI fi)), (4, .int se)] dX4_give_108 (by decide) rfl ?_
            refine z_iload (pc := 110) hC 1 dX4_give_110 rfl ?_
            refine z_nif_eq (pc := 112) (tgt := 125) hC dX4_give_112 (by decide) (by omega) (fun h112 => ?_) (fun h112 => absurd h112 (by decide))
            refine z_iload (pc := 125) hC 0 dX4_give_125 rfl ?_
            refine z_nif_ne (pc := 127) (tgt := 131) hC dX4_give_127 (by decide) (by omega) (fun h127 => ?_) (fun h127 => absurd h127 (by decide))
            refine z_aload_n (pc := 131) hC 2 dX4_give_131 rfl ?_
            refine z_get (pc := 132) (C := RX4) (T := TX4) (N := 16) hC hinX4 0 rfl rfl 4 (by decide) (by decide +kernel) rfl dX4_give_132 ?_
            refine z_iload_n (pc := 135) hC 3 dX4_give_135 rfl ?_
            refine z_aload_n (pc := 136) hC 2 dX4_give_136 rfl ?_
            refine z_get (pc := 137) (C := RX4) (T := TX4) (N := 16) hC hinX4 0 rfl rfl 8 (by decide) (by decide +kernel) rfl dX4_give_137 ?_
            refine z_iast (pc := 140) hC 1 0 rfl rfl (by omega) (by decide) [(p 0, .inr (5, [.int (nI n), .ref (p 1), .int (nI cnt), .int (bI (kn)), .ref (p 2), .ref (p 3), .ref (p 4), .ref (p 5), .int (nI rd), .int x.2.2.2.2, .ref (p 6), .int (nI fo), .ref (p 7), .int (nI ps), .int th, .ref (p 8)])), (p 2, .inl (cI, 4032, .inl (upd x.1 c (nI rd)))), (p 3, .inl (cI, 4032, .inl x.2.1)), (p 4, .inl (cI, 4032, .inl x.2.2.1)), (p 5, .inl (cI, 4032, .inl x.2.2.2.1))] rfl dX4_give_140 ?_
            refine z_aload_n (pc := 141) hC 2 dX4_give_141 rfl ?_
            refine z_get (pc := 142) (C := RX4) (T := TX4) (N := 16) hC hinX4 0 rfl rfl 5 (by decide) (by decide +kernel) rfl dX4_give_142 ?_
            refine z_iload_n (pc := 145) hC 3 dX4_give_145 rfl ?_
            refine z_iload_n (pc := 146) hC 4 dX4_give_146 rfl ?_
            refine z_iast (pc := 147) hC 2 0 rfl rfl (by omega) (by decide) [(p 0, .inr (5, [.int (nI n), .ref (p 1), .int (nI cnt), .int (bI (kn)), .ref (p 2), .ref (p 3), .ref (p 4), .ref (p 5), .int (nI rd), .int x.2.2.2.2, .ref (p 6), .int (nI fo), .ref (p 7), .int (nI ps), .int th, .ref (p 8)])), (p 2, .inl (cI, 4032, .inl (upd x.1 c (nI rd)))), (p 3, .inl (cI, 4032, .inl (upd x.2.1 c why))), (p 4, .inl (cI, 4032, .inl x.2.2.1)), (p 5, .inl (cI, 4032, .inl x.2.2.2.1))] rfl dX4_give_147 ?_
            refine z_aload_n (pc := 148) hC 2 dX4_give_148 rfl ?_
            refine z_get (pc := 149) (C := RX4) (T := TX4) (N := 16) hC hinX4 0 rfl rfl 6 (by decide) (by decide +kernel) rfl dX4_give_149 ?_
            refine z_iload_n (pc := 152) hC 3 dX4_give_152 rfl ?_
            refine z_iload_n (pc := 153) hC 5 dX4_give_153 rfl ?_
            refine z_iast (pc := 154) hC 3 0 rfl rfl (by omega) (by decide) [(p 0, .inr (5, [.int (nI n), .ref (p 1), .int (nI cnt), .int (bI (kn)), .ref (p 2), .ref (p 3), .ref (p 4), .ref (p 5), .int (nI rd), .int x.2.2.2.2, .ref (p 6), .int (nI fo), .ref (p 7), .int (nI ps), .int th, .ref (p 8)])), (p 2, .inl (cI, 4032, .inl (upd x.1 c (nI rd)))), (p 3, .inl (cI, 4032, .inl (upd x.2.1 c why))), (p 4, .inl (cI, 4032, .inl (upd x.2.2.1 c (nI fi)))), (p 5, .inl (cI, 4032, .inl x.2.2.2.1))] rfl dX4_give_154 ?_
            refine z_aload_n (pc := 155) hC 2 dX4_give_155 rfl ?_
            refine z_get (pc := 156) (C := RX4) (T := TX4) (N := 16) hC hinX4 0 rfl rfl 7 (by decide) (by decide +kernel) rfl dX4_give_156 ?_
            refine z_iload_n (pc := 159) hC 3 dX4_give_159 rfl ?_
            refine z_iload (pc := 160) hC 6 dX4_give_160 rfl ?_
            refine z_iast (pc := 162) hC 4 0 rfl rfl (by omega) (by decide) [(p 0, .inr (5, [.int (nI n), .ref (p 1), .int (nI cnt), .int (bI (kn)), .ref (p 2), .ref (p 3), .ref (p 4), .ref (p 5), .int (nI rd), .int x.2.2.2.2, .ref (p 6), .int (nI fo), .ref (p 7), .int (nI ps), .int th, .ref (p 8)])), (p 2, .inl (cI, 4032, .inl (upd x.1 c (nI rd)))), (p 3, .inl (cI, 4032, .inl (upd x.2.1 c why))), (p 4, .inl (cI, 4032, .inl (upd x.2.2.1 c (nI fi)))), (p 5, .inl (cI, 4032, .inl (upd x.2.2.2.1 c se)))] rfl dX4_give_162 ?_
            exact z_vret (pc := 163) hC hQ hRT (by
    first
    | (rw [mG_fr (mOK_t h5 (by first | exact Or.inl h10 | exact Or.inr (by rw [tn_nI (by omega)]; exact h19)) h27) (Int32.not_le.mp h37)]; rfl)
    | (rw [mG_be (mOK_t h5 (by first | exact Or.inl h10 | exact Or.inr (by rw [tn_nI (by omega)]; exact h19)) h27) (fun q => absurd h37 (Int32.not_le.mpr q)) (decide_eq_true (Or.inl h59))]; rfl)
    | (rw [mG_be (mOK_t h5 (by first | exact Or.inl h10 | exact Or.inr (by rw [tn_nI (by omega)]; exact h19)) h27) (fun q => absurd h37 (Int32.not_le.mpr q)) (decide_eq_true (Or.inr ⟨h69, Or.inl h79⟩))]; rfl)
    | (rw [mG_be (mOK_t h5 (by first | exact Or.inl h10 | exact Or.inr (by rw [tn_nI (by omega)]; exact h19)) h27) (fun q => absurd h37 (Int32.not_le.mpr q)) (decide_eq_true (Or.inr ⟨h69, Or.inr ⟨h89, Int32.not_le.mp h100⟩⟩))]; rfl)) dX4_give_163
          · refine z_iload_n (pc := 62) hC 3 dX4_give_62 rfl ?_
            refine z_aload_n (pc := 63) hC 1 dX4_give_63 rfl ?_
            refine z_get (pc := 64) (C := RX4) (T := TX4) (N := 16) hC hinX4 0 rfl rfl 5 (by decide) (by decide +kernel) rfl dX4_give_64 ?_
            refine z_iload_n (pc := 67) hC 2 dX4_give_67 rfl ?_
            refine z_iald (pc := 68) (v := (x.2.1 c)) hC 2 0 rfl rfl (by omega) (by decide) (rfl) dX4_give_68 ?_
            refine z_icmp_ne (pc := 69) (tgt := 107) hC dX4_give_69 (by decide) (fun h69 => ?_) (fun h69 => ?_)
            · refine z_iconst (pc := 107) (v := (nI 0)) hC dX4_give_107 (by decide +kernel) ?_
              refine z_istore (pc := 108) hC hNL [(6, .int (nI 0)), (5, .int (nI 0)), (0, .ref (p 0)), (1, .int (nI c)), (2, .int why), (3, .int (nI fi)), (4, .int se)] dX4_give_108 (by decide) rfl ?_
              refine z_iload (pc := 110) hC 1 dX4_give_110 rfl ?_
              refine z_nif_eq (pc := 112) (tgt := 125) hC dX4_give_112 (by decide) (by omega) (fun h112 => ?_) (fun h112 => absurd h112 (by decide))
              refine z_iload (pc := 125) hC 0 dX4_give_125 rfl ?_
              refine z_nif_ne (pc := 127) (tgt := 131) hC dX4_give_127 (by decide) (by omega) (fun h127 => absurd h127 (by decide)) (fun h127 => ?_)
              exact z_vret (pc := 130) hC hQ hRT (by
    first
    | rw [mG_nb (mOK_t h5 (by first | exact Or.inl h10 | exact Or.inr (by rw [tn_nI (by omega)]; exact h19)) h27) (fun q => absurd h37 (Int32.not_le.mpr q)) (decide_eq_false (fun q => q.elim h59 (fun q2 => h69 q2.1)))]
    | rw [mG_nb (mOK_t h5 (by first | exact Or.inl h10 | exact Or.inr (by rw [tn_nI (by omega)]; exact h19)) h27) (fun q => absurd h37 (Int32.not_le.mpr q)) (decide_eq_false (fun q => q.elim h59 (fun q2 => q2.2.elim h79 (fun q3 => h89 q3.1))))]
    | rw [mG_nb (mOK_t h5 (by first | exact Or.inl h10 | exact Or.inr (by rw [tn_nI (by omega)]; exact h19)) h27) (fun q => absurd h37 (Int32.not_le.mpr q)) (decide_eq_false (fun q => q.elim h59 (fun q2 => q2.2.elim h79 (fun q3 => absurd h100 (Int32.not_le.mpr q3.2)))))]) dX4_give_130
            · refine z_iload_n (pc := 72) hC 4 dX4_give_72 rfl ?_
              refine z_aload_n (pc := 73) hC 1 dX4_give_73 rfl ?_
              refine z_get (pc := 74) (C := RX4) (T := TX4) (N := 16) hC hinX4 0 rfl rfl 6 (by decide) (by decide +kernel) rfl dX4_give_74 ?_
              refine z_iload_n (pc := 77) hC 2 dX4_give_77 rfl ?_
              refine z_iald (pc := 78) (v := (x.2.2.1 c)) hC 3 0 rfl rfl (by omega) (by decide) (rfl) dX4_give_78 ?_
              refine z_icmp_lt (pc := 79) (tgt := 103) hC dX4_give_79 (by decide) (fun h79 => ?_) (fun h79 => ?_)
              · refine z_iconst (pc := 103) (v := (nI 1)) hC dX4_give_103 (by decide +kernel) ?_
                refine z_goto (pc := 104) (tgt := 108) hC dX4_give_104 (by decide) ?_
                refine z_istore (pc := 108) hC hNL [(6, .int (nI 1)), (5, .int (nI 0)), (0, .ref (p 0)), (1, .int (nI c)), (2, .int why), (3, .int (nI fi)), (4, .int se)] dX4_give_108 (by decide) rfl ?_
                refine z_iload (pc := 110) hC 1 dX4_give_110 rfl ?_
                refine z_nif_eq (pc := 112) (tgt := 125) hC dX4_give_112 (by decide) (by omega) (fun h112 => ?_) (fun h112 => absurd h112 (by decide))
                refine z_iload (pc := 125) hC 0 dX4_give_125 rfl ?_
                refine z_nif_ne (pc := 127) (tgt := 131) hC dX4_give_127 (by decide) (by omega) (fun h127 => ?_) (fun h127 => absurd h127 (by decide))
                refine z_aload_n (pc := 131) hC 2 dX4_give_131 rfl ?_
                refine z_get (pc := 132) (C := RX4) (T := TX4) (N := 16) hC hinX4 0 rfl rfl 4 (by decide) (by decide +kernel) rfl dX4_give_132 ?_
                refine z_iload_n (pc := 135) hC 3 dX4_give_135 rfl ?_
                refine z_aload_n (pc := 136) hC 2 dX4_give_136 rfl ?_
                refine z_get (pc := 137) (C := RX4) (T := TX4) (N := 16) hC hinX4 0 rfl rfl 8 (by decide) (by decide +kernel) rfl dX4_give_137 ?_
                refine z_iast (pc := 140) hC 1 0 rfl rfl (by omega) (by decide) [(p 0, .inr (5, [.int (nI n), .ref (p 1), .int (nI cnt), .int (bI (kn)), .ref (p 2), .ref (p 3), .ref (p 4), .ref (p 5), .int (nI rd), .int x.2.2.2.2, .ref (p 6), .int (nI fo), .ref (p 7), .int (nI ps), .int th, .ref (p 8)])), (p 2, .inl (cI, 4032, .inl (upd x.1 c (nI rd)))), (p 3, .inl (cI, 4032, .inl x.2.1)), (p 4, .inl (cI, 4032, .inl x.2.2.1)), (p 5, .inl (cI, 4032, .inl x.2.2.2.1))] rfl dX4_give_140 ?_
                refine z_aload_n (pc := 141) hC 2 dX4_give_141 rfl ?_
                refine z_get (pc := 142) (C := RX4) (T := TX4) (N := 16) hC hinX4 0 rfl rfl 5 (by decide) (by decide +kernel) rfl dX4_give_142 ?_
                refine z_iload_n (pc := 145) hC 3 dX4_give_145 rfl ?_
                refine z_iload_n (pc := 146) hC 4 dX4_give_146 rfl ?_
                refine z_iast (pc := 147) hC 2 0 rfl rfl (by omega) (by decide) [(p 0, .inr (5, [.int (nI n), .ref (p 1), .int (nI cnt), .int (bI (kn)), .ref (p 2), .ref (p 3), .ref (p 4), .ref (p 5), .int (nI rd), .int x.2.2.2.2, .ref (p 6), .int (nI fo), .ref (p 7), .int (nI ps), .int th, .ref (p 8)])), (p 2, .inl (cI, 4032, .inl (upd x.1 c (nI rd)))), (p 3, .inl (cI, 4032, .inl (upd x.2.1 c why))), (p 4, .inl (cI, 4032, .inl x.2.2.1)), (p 5, .inl (cI, 4032, .inl x.2.2.2.1))] rfl dX4_give_147 ?_
                refine z_aload_n (pc := 148) hC 2 dX4_give_148 rfl ?_
                refine z_get (pc := 149) (C := RX4) (T := TX4) (N := 16) hC hinX4 0 rfl rfl 6 (by decide) (by decide +kernel) rfl dX4_give_149 ?_
                refine z_iload_n (pc := 152) hC 3 dX4_give_152 rfl ?_
                refine z_iload_n (pc := 153) hC 5 dX4_give_153 rfl ?_
                refine z_iast (pc := 154) hC 3 0 rfl rfl (by omega) (by decide) [(p 0, .inr (5, [.int (nI n), .ref (p 1), .int (nI cnt), .int (bI (kn)), .ref (p 2), .ref (p 3), .ref (p 4), .ref (p 5), .int (nI rd), .int x.2.2.2.2, .ref (p 6), .int (nI fo), .ref (p 7), .int (nI ps), .int th, .ref (p 8)])), (p 2, .inl (cI, 4032, .inl (upd x.1 c (nI rd)))), (p 3, .inl (cI, 4032, .inl (upd x.2.1 c why))), (p 4, .inl (cI, 4032, .inl (upd x.2.2.1 c (nI fi)))), (p 5, .inl (cI, 4032, .inl x.2.2.2.1))] rfl dX4_give_154 ?_
                refine z_aload_n (pc := 155) hC 2 dX4_give_155 rfl ?_
                refine z_get (pc := 156) (C := RX4) (T := TX4) (N := 16) hC hinX4 0 rfl rfl 7 (by decide) (by decide +kernel) rfl dX4_give_156 ?_
                refine z_iload_n (pc := 159) hC 3 dX4_give_159 rfl ?_
                refine z_iload (pc := 160) hC 6 dX4_give_160 rfl ?_
                refine z_iast (pc := 162) hC 4 0 rfl rfl (by omega) (by decide) [(p 0, .inr (5, [.int (nI n), .ref (p 1), .int (nI cnt), .int (bI (kn)), .ref (p 2), .ref (p 3), .ref (p 4), .ref (p 5), .int (nI rd), .int x.2.2.2.2, .ref (p 6), .int (nI fo), .ref (p 7), .int (nI ps), .int th, .ref (p 8)])), (p 2, .inl (cI, 4032, .inl (upd x.1 c (nI rd)))), (p 3, .inl (cI, 4032, .inl (upd x.2.1 c why))), (p 4, .inl (cI, 4032, .inl (upd x.2.2.1 c (nI fi)))), (p 5, .inl (cI, 4032, .inl (upd x.2.2.2.1 c se)))] rfl dX4_give_162 ?_
                exact z_vret (pc := 163) hC hQ hRT (by
    first
    | (rw [mG_fr (mOK_t h5 (by first | exact Or.inl h10 | exact Or.inr (by rw [tn_nI (by omega)]; exact h19)) h27) (Int32.not_le.mp h37)]; rfl)
    | (rw [mG_be (mOK_t h5 (by first | exact Or.inl h10 | exact Or.inr (by rw [tn_nI (by omega)]; exact h19)) h27) (fun q => absurd h37 (Int32.not_le.mpr q)) (decide_eq_true (Or.inl h59))]; rfl)
    | (rw [mG_be (mOK_t h5 (by first | exact Or.inl h10 | exact Or.inr (by rw [tn_nI (by omega)]; exact h19)) h27) (fun q => absurd h37 (Int32.not_le.mpr q)) (decide_eq_true (Or.inr ⟨h69, Or.inl h79⟩))]; rfl)
    | (rw [mG_be (mOK_t h5 (by first | exact Or.inl h10 | exact Or.inr (by rw [tn_nI (by omega)]; exact h19)) h27) (fun q => absurd h37 (Int32.not_le.mpr q)) (decide_eq_true (Or.inr ⟨h69, Or.inr ⟨h89, Int32.not_le.mp h100⟩⟩))]; rfl)) dX4_give_163
              · refine z_iload_n (pc := 82) hC 4 dX4_give_82 rfl ?_
                refine z_aload_n (pc := 83) hC 1 dX4_give_83 rfl ?_
                refine z_get (pc := 84) (C := RX4) (T := TX4) (N := 16) hC hinX4 0 rfl rfl 6 (by decide) (by decide +kernel) rfl dX4_give_84 ?_
                refine z_iload_n (pc := 87) hC 2 dX4_give_87 rfl ?_
                refine z_iald (pc := 88) (v := (x.2.2.1 c)) hC 3 0 rfl rfl (by omega) (by decide) (rfl) dX4_give_88 ?_
                refine z_icmp_ne (pc := 89) (tgt := 107) hC dX4_give_89 (by decide) (fun h89 => ?_) (fun h89 => ?_)
                · refine z_iconst (pc := 107) (v := (nI 0)) hC dX4_give_107 (by decide +kernel) ?_
                  refine z_istore (pc := 108) hC hNL [(6, .int (nI 0)), (5, .int (nI 0)), (0, .ref (p 0)), (1, .int (nI c)), (2, .int why), (3, .int (nI fi)), (4, .int se)] dX4_give_108 (by decide) rfl ?_
                  refine z_iload (pc := 110) hC 1 dX4_give_110 rfl ?_
                  refine z_nif_eq (pc := 112) (tgt := 125) hC dX4_give_112 (by decide) (by omega) (fun h112 => ?_) (fun h112 => absurd h112 (by decide))
                  refine z_iload (pc := 125) hC 0 dX4_give_125 rfl ?_
                  refine z_nif_ne (pc := 127) (tgt := 131) hC dX4_give_127 (by decide) (by omega) (fun h127 => absurd h127 (by decide)) (fun h127 => ?_)
                  exact z_vret (pc := 130) hC hQ hRT (by
    first
    | rw [mG_nb (mOK_t h5 (by first | exact Or.inl h10 | exact Or.inr (by rw [tn_nI (by omega)]; exact h19)) h27) (fun q => absurd h37 (Int32.not_le.mpr q)) (decide_eq_false (fun q => q.elim h59 (fun q2 => h69 q2.1)))]
    | rw [mG_nb (mOK_t h5 (by first | exact Or.inl h10 | exact Or.inr (by rw [tn_nI (by omega)]; exact h19)) h27) (fun q => absurd h37 (Int32.not_le.mpr q)) (decide_eq_false (fun q => q.elim h59 (fun q2 => q2.2.elim h79 (fun q3 => h89 q3.1))))]
    | rw [mG_nb (mOK_t h5 (by first | exact Or.inl h10 | exact Or.inr (by rw [tn_nI (by omega)]; exact h19)) h27) (fun q => absurd h37 (Int32.not_le.mpr q)) (decide_eq_false (fun q => q.elim h59 (fun q2 => q2.2.elim h79 (fun q3 => absurd h100 (Int32.not_le.mpr q3.2)))))]) dX4_give_130
                · refine z_iload (pc := 92) hC 5 dX4_give_92 rfl ?_
                  refine z_aload_n (pc := 94) hC 1 dX4_give_94 rfl ?_
                  refine z_get (pc := 95) (C := RX4) (T := TX4) (N := 16) hC hinX4 0 rfl rfl 7 (by decide) (by decide +kernel) rfl dX4_give_95 ?_
                  refine z_iload_n (pc := 98) hC 2 dX4_give_98 rfl ?_
                  refine z_iald (pc := 99) (v := (x.2.2.2.1 c)) hC 4 0 rfl rfl (by omega) (by decide) (rfl) dX4_give_99 ?_
                  refine z_icmp_ge (pc := 100) (tgt := 107) hC dX4_give_100 (by decide) (fun h100 => ?_) (fun h100 => ?_)
                  · refine z_iconst (pc := 107) (v := (nI 0)) hC dX4_give_107 (by decide +kernel) ?_
                    refine z_istore (pc := 108) hC hNL [(6, .int (nI 0)), (5, .int (nI 0)), (0, .ref (p 0)), (1, .int (nI c)), (2, .int why), (3, .int (nI fi)), (4, .int se)] dX4_give_108 (by decide) rfl ?_
                    refine z_iload (pc := 110) hC 1 dX4_give_110 rfl ?_
                    refine z_nif_eq (pc := 112) (tgt := 125) hC dX4_give_112 (by decide) (by omega) (fun h112 => ?_) (fun h112 => absurd h112 (by decide))
                    refine z_iload (pc := 125) hC 0 dX4_give_125 rfl ?_
                    refine z_nif_ne (pc := 127) (tgt := 131) hC dX4_give_127 (by decide) (by omega) (fun h127 => absurd h127 (by decide)) (fun h127 => ?_)
                    exact z_vret (pc := 130) hC hQ hRT (by
    first
    | rw [mG_nb (mOK_t h5 (by first | exact Or.inl h10 | exact Or.inr (by rw [tn_nI (by omega)]; exact h19)) h27) (fun q => absurd h37 (Int32.not_le.mpr q)) (decide_eq_false (fun q => q.elim h59 (fun q2 => h69 q2.1)))]
    | rw [mG_nb (mOK_t h5 (by first | exact Or.inl h10 | exact Or.inr (by rw [tn_nI (by omega)]; exact h19)) h27) (fun q => absurd h37 (Int32.not_le.mpr q)) (decide_eq_false (fun q => q.elim h59 (fun q2 => q2.2.elim h79 (fun q3 => h89 q3.1))))]
    | rw [mG_nb (mOK_t h5 (by first | exact Or.inl h10 | exact Or.inr (by rw [tn_nI (by omega)]; exact h19)) h27) (fun q => absurd h37 (Int32.not_le.mpr q)) (decide_eq_false (fun q => q.elim h59 (fun q2 => q2.2.elim h79 (fun q3 => absurd h100 (Int32.not_le.mpr q3.2)))))]) dX4_give_130
                  · refine z_iconst (pc := 103) (v := (nI 1)) hC dX4_give_103 (by decide +kernel) ?_
                    refine z_goto (pc := 104) (tgt := 108) hC dX4_give_104 (by decide) ?_
                    refine z_istore (pc := 108) hC hNL [(6, .int (nI 1)), (5, .int (nI 0)), (0, .ref (p 0)), (1, .int (nI c)), (2, .int why), (3, .int (nI fi)), (4, .int se)] dX4_give_108 (by decide) rfl ?_
                    refine z_iload (pc := 110) hC 1 dX4_give_110 rfl ?_
                    refine z_nif_eq (pc := 112) (tgt := 125) hC dX4_give_112 (by decide) (by omega) (fun h112 => ?_) (fun h112 => absurd h112 (by decide))
                    refine z_iload (pc := 125) hC 0 dX4_give_125 rfl ?_
                    refine z_nif_ne (pc := 127) (tgt := 131) hC dX4_give_127 (by decide) (by omega) (fun h127 => ?_) (fun h127 => absurd h127 (by decide))
                    refine z_aload_n (pc := 131) hC 2 dX4_give_131 rfl ?_
                    refine z_get (pc := 132) (C := RX4) (T := TX4) (N := 16) hC hinX4 0 rfl rfl 4 (by decide) (by decide +kernel) rfl dX4_give_132 ?_
                    refine z_iload_n (pc := 135) hC 3 dX4_give_135 rfl ?_
                    refine z_aload_n (pc := 136) hC 2 dX4_give_136 rfl ?_
                    refine z_get (pc := 137) (C := RX4) (T := TX4) (N := 16) hC hinX4 0 rfl rfl 8 (by decide) (by decide +kernel) rfl dX4_give_137 ?_
                    refine z_iast (pc := 140) hC 1 0 rfl rfl (by omega) (by decide) [(p 0, .inr (5, [.int (nI n), .ref (p 1), .int (nI cnt), .int (bI (kn)), .ref (p 2), .ref (p 3), .ref (p 4), .ref (p 5), .int (nI rd), .int x.2.2.2.2, .ref (p 6), .int (nI fo), .ref (p 7), .int (nI ps), .int th, .ref (p 8)])), (p 2, .inl (cI, 4032, .inl (upd x.1 c (nI rd)))), (p 3, .inl (cI, 4032, .inl x.2.1)), (p 4, .inl (cI, 4032, .inl x.2.2.1)), (p 5, .inl (cI, 4032, .inl x.2.2.2.1))] rfl dX4_give_140 ?_
                    refine z_aload_n (pc := 141) hC 2 dX4_give_141 rfl ?_
                    refine z_get (pc := 142) (C := RX4) (T := TX4) (N := 16) hC hinX4 0 rfl rfl 5 (by decide) (by decide +kernel) rfl dX4_give_142 ?_
                    refine z_iload_n (pc := 145) hC 3 dX4_give_145 rfl ?_
                    refine z_iload_n (pc := 146) hC 4 dX4_give_146 rfl ?_
                    refine z_iast (pc := 147) hC 2 0 rfl rfl (by omega) (by decide) [(p 0, .inr (5, [.int (nI n), .ref (p 1), .int (nI cnt), .int (bI (kn)), .ref (p 2), .ref (p 3), .ref (p 4), .ref (p 5), .int (nI rd), .int x.2.2.2.2, .ref (p 6), .int (nI fo), .ref (p 7), .int (nI ps), .int th, .ref (p 8)])), (p 2, .inl (cI, 4032, .inl (upd x.1 c (nI rd)))), (p 3, .inl (cI, 4032, .inl (upd x.2.1 c why))), (p 4, .inl (cI, 4032, .inl x.2.2.1)), (p 5, .inl (cI, 4032, .inl x.2.2.2.1))] rfl dX4_give_147 ?_
                    refine z_aload_n (pc := 148) hC 2 dX4_give_148 rfl ?_
                    refine z_get (pc := 149) (C := RX4) (T := TX4) (N := 16) hC hinX4 0 rfl rfl 6 (by decide) (by decide +kernel) rfl dX4_give_149 ?_
                    refine z_iload_n (pc := 152) hC 3 dX4_give_152 rfl ?_
                    refine z_iload_n (pc := 153) hC 5 dX4_give_153 rfl ?_
                    refine z_iast (pc := 154) hC 3 0 rfl rfl (by omega) (by decide) [(p 0, .inr (5, [.int (nI n), .ref (p 1), .int (nI cnt), .int (bI (kn)), .ref (p 2), .ref (p 3), .ref (p 4), .ref (p 5), .int (nI rd), .int x.2.2.2.2, .ref (p 6), .int (nI fo), .ref (p 7), .int (nI ps), .int th, .ref (p 8)])), (p 2, .inl (cI, 4032, .inl (upd x.1 c (nI rd)))), (p 3, .inl (cI, 4032, .inl (upd x.2.1 c why))), (p 4, .inl (cI, 4032, .inl (upd x.2.2.1 c (nI fi)))), (p 5, .inl (cI, 4032, .inl x.2.2.2.1))] rfl dX4_give_154 ?_
                    refine z_aload_n (pc := 155) hC 2 dX4_give_155 rfl ?_
                    refine z_get (pc := 156) (C := RX4) (T := TX4) (N := 16) hC hinX4 0 rfl rfl 7 (by decide) (by decide +kernel) rfl dX4_give_156 ?_
                    refine z_iload_n (pc := 159) hC 3 dX4_give_159 rfl ?_
                    refine z_iload (pc := 160) hC 6 dX4_give_160 rfl ?_
                    refine z_iast (pc := 162) hC 4 0 rfl rfl (by omega) (by decide) [(p 0, .inr (5, [.int (nI n), .ref (p 1), .int (nI cnt), .int (bI (kn)), .ref (p 2), .ref (p 3), .ref (p 4), .ref (p 5), .int (nI rd), .int x.2.2.2.2, .ref (p 6), .int (nI fo), .ref (p 7), .int (nI ps), .int th, .ref (p 8)])), (p 2, .inl (cI, 4032, .inl (upd x.1 c (nI rd)))), (p 3, .inl (cI, 4032, .inl (upd x.2.1 c why))), (p 4, .inl (cI, 4032, .inl (upd x.2.2.1 c (nI fi)))), (p 5, .inl (cI, 4032, .inl (upd x.2.2.2.1 c se)))] rfl dX4_give_162 ?_
                    exact z_vret (pc := 163) hC hQ hRT (by
    first
    | (rw [mG_fr (mOK_t h5 (by first | exact Or.inl h10 | exact Or.inr (by rw [tn_nI (by omega)]; exact h19)) h27) (Int32.not_le.mp h37)]; rfl)
    | (rw [mG_be (mOK_t h5 (by first | exact Or.inl h10 | exact Or.inr (by rw [tn_nI (by omega)]; exact h19)) h27) (fun q => absurd h37 (Int32.not_le.mpr q)) (decide_eq_true (Or.inl h59))]; rfl)
    | (rw [mG_be (mOK_t h5 (by first | exact Or.inl h10 | exact Or.inr (by rw [tn_nI (by omega)]; exact h19)) h27) (fun q => absurd h37 (Int32.not_le.mpr q)) (decide_eq_true (Or.inr ⟨h69, Or.inl h79⟩))]; rfl)
    | (rw [mG_be (mOK_t h5 (by first | exact Or.inl h10 | exact Or.inr (by rw [tn_nI (by omega)]; exact h19)) h27) (fun q => absurd h37 (Int32.not_le.mpr q)) (decide_eq_true (Or.inr ⟨h69, Or.inr ⟨h89, Int32.not_le.mp h100⟩⟩))]; rfl)) dX4_give_163
        · refine z_iconst (pc := 40) (v := (nI 1)) hC dX4_give_40 (by decide +kernel) ?_
          refine z_goto (pc := 41) (tgt := 45) hC dX4_give_41 (by decide) ?_
          refine z_istore (pc := 45) hC hNL [(5, .int (nI 1)), (0, .ref (p 0)), (1, .int (nI c)), (2, .int why), (3, .int (nI fi)), (4, .int se)] dX4_give_45 (by decide) rfl ?_
          refine z_iload (pc := 47) hC 0 dX4_give_47 rfl ?_
          refine z_nif_ne (pc := 49) (tgt := 103) hC dX4_give_49 (by decide) (by omega) (fun h49 => ?_) (fun h49 => absurd h49 (by decide))
          refine z_iconst (pc := 103) (v := (nI 1)) hC dX4_give_103 (by decide +kernel) ?_
          refine z_goto (pc := 104) (tgt := 108) hC dX4_give_104 (by decide) ?_
          refine z_istore (pc := 108) hC hNL [(6, .int (nI 1)), (5, .int (nI 1)), (0, .ref (p 0)), (1, .int (nI c)), (2, .int why), (3, .int (nI fi)), (4, .int se)] dX4_give_108 (by decide) rfl ?_
          refine z_iload (pc := 110) hC 1 dX4_give_110 rfl ?_
          refine z_nif_eq (pc := 112) (tgt := 125) hC dX4_give_112 (by decide) (by omega) (fun h112 => absurd h112 (by decide)) (fun h112 => ?_)
          refine z_aload_n (pc := 115) hC 2 dX4_give_115 rfl ?_
          refine z_dup (pc := 116) hC dX4_give_116 rfl ?_
          refine z_get (pc := 117) (C := RX4) (T := TX4) (N := 16) hC hinX4 0 rfl rfl 9 (by decide) (by decide +kernel) rfl dX4_give_117 ?_
          refine z_iconst (pc := 120) (v := (nI 1)) hC dX4_give_120 (by decide +kernel) ?_
          refine z_iadd (pc := 121) (v := (x.2.2.2.2 + (nI 1))) hC dX4_give_121 (rfl) ?_
          refine z_put (pc := 122) (C := RX4) (T := TX4) (N := 16) hC hinX4 0 rfl rfl 9 (by decide) tyX4 tyX4_ok nmX4 (by decide +kernel) rfl (rfl) (rfl) (Nat.le_of_ble_eq_true rfl) [(p 0, .inr (5, [.int (nI n), .ref (p 1), .int (nI cnt), .int (bI (kn)), .ref (p 2), .ref (p 3), .ref (p 4), .ref (p 5), .int (nI rd), .int (x.2.2.2.2 + (nI 1)), .ref (p 6), .int (nI fo), .ref (p 7), .int (nI ps), .int th, .ref (p 8)])), (p 2, .inl (cI, 4032, .inl x.1)), (p 3, .inl (cI, 4032, .inl x.2.1)), (p 4, .inl (cI, 4032, .inl x.2.2.1)), (p 5, .inl (cI, 4032, .inl x.2.2.2.1))] rfl dX4_give_122 ?_
          refine z_iload (pc := 125) hC 0 dX4_give_125 rfl ?_
          refine z_nif_ne (pc := 127) (tgt := 131) hC dX4_give_127 (by decide) (by omega) (fun h127 => ?_) (fun h127 => absurd h127 (by decide))
          refine z_aload_n (pc := 131) hC 2 dX4_give_131 rfl ?_
          refine z_get (pc := 132) (C := RX4) (T := TX4) (N := 16) hC hinX4 0 rfl rfl 4 (by decide) (by decide +kernel) rfl dX4_give_132 ?_
          refine z_iload_n (pc := 135) hC 3 dX4_give_135 rfl ?_
          refine z_aload_n (pc := 136) hC 2 dX4_give_136 rfl ?_
          refine z_get (pc := 137) (C := RX4) (T := TX4) (N := 16) hC hinX4 0 rfl rfl 8 (by decide) (by decide +kernel) rfl dX4_give_137 ?_
          refine z_iast (pc := 140) hC 1 0 rfl rfl (by omega) (by decide) [(p 0, .inr (5, [.int (nI n), .ref (p 1), .int (nI cnt), .int (bI (kn)), .ref (p 2), .ref (p 3), .ref (p 4), .ref (p 5), .int (nI rd), .int (x.2.2.2.2 + (nI 1)), .ref (p 6), .int (nI fo), .ref (p 7), .int (nI ps), .int th, .ref (p 8)])), (p 2, .inl (cI, 4032, .inl (upd x.1 c (nI rd)))), (p 3, .inl (cI, 4032, .inl x.2.1)), (p 4, .inl (cI, 4032, .inl x.2.2.1)), (p 5, .inl (cI, 4032, .inl x.2.2.2.1))] rfl dX4_give_140 ?_
          refine z_aload_n (pc := 141) hC 2 dX4_give_141 rfl ?_
          refine z_get (pc := 142) (C := RX4) (T := TX4) (N := 16) hC hinX4 0 rfl rfl 5 (by decide) (by decide +kernel) rfl dX4_give_142 ?_
          refine z_iload_n (pc := 145) hC 3 dX4_give_145 rfl ?_
          refine z_iload_n (pc := 146) hC 4 dX4_give_146 rfl ?_
          refine z_iast (pc := 147) hC 2 0 rfl rfl (by omega) (by decide) [(p 0, .inr (5, [.int (nI n), .ref (p 1), .int (nI cnt), .int (bI (kn)), .ref (p 2), .ref (p 3), .ref (p 4), .ref (p 5), .int (nI rd), .int (x.2.2.2.2 + (nI 1)), .ref (p 6), .int (nI fo), .ref (p 7), .int (nI ps), .int th, .ref (p 8)])), (p 2, .inl (cI, 4032, .inl (upd x.1 c (nI rd)))), (p 3, .inl (cI, 4032, .inl (upd x.2.1 c why))), (p 4, .inl (cI, 4032, .inl x.2.2.1)), (p 5, .inl (cI, 4032, .inl x.2.2.2.1))] rfl dX4_give_147 ?_
          refine z_aload_n (pc := 148) hC 2 dX4_give_148 rfl ?_
          refine z_get (pc := 149) (C := RX4) (T := TX4) (N := 16) hC hinX4 0 rfl rfl 6 (by decide) (by decide +kernel) rfl dX4_give_149 ?_
          refine z_iload_n (pc := 152) hC 3 dX4_give_152 rfl ?_
          refine z_iload_n (pc := 153) hC 5 dX4_give_153 rfl ?_
          refine z_iast (pc := 154) hC 3 0 rfl rfl (by omega) (by decide) [(p 0, .inr (5, [.int (nI n), .ref (p 1), .int (nI cnt), .int (bI (kn)), .ref (p 2), .ref (p 3), .ref (p 4), .ref (p 5), .int (nI rd), .int (x.2.2.2.2 + (nI 1)), .ref (p 6), .int (nI fo), .ref (p 7), .int (nI ps), .int th, .ref (p 8)])), (p 2, .inl (cI, 4032, .inl (upd x.1 c (nI rd)))), (p 3, .inl (cI, 4032, .inl (upd x.2.1 c why))), (p 4, .inl (cI, 4032, .inl (upd x.2.2.1 c (nI fi)))), (p 5, .inl (cI, 4032, .inl x.2.2.2.1))] rfl dX4_give_154 ?_
          refine z_aload_n (pc := 155) hC 2 dX4_give_155 rfl ?_
          refine z_get (pc := 156) (C := RX4) (T := TX4) (N := 16) hC hinX4 0 rfl rfl 7 (by decide) (by decide +kernel) rfl dX4_give_156 ?_
          refine z_iload_n (pc := 159) hC 3 dX4_give_159 rfl ?_
          refine z_iload (pc := 160) hC 6 dX4_give_160 rfl ?_
          refine z_iast (pc := 162) hC 4 0 rfl rfl (by omega) (by decide) [(p 0, .inr (5, [.int (nI n), .ref (p 1), .int (nI cnt), .int (bI (kn)), .ref (p 2), .ref (p 3), .ref (p 4), .ref (p 5), .int (nI rd), .int (x.2.2.2.2 + (nI 1)), .ref (p 6), .int (nI fo), .ref (p 7), .int (nI ps), .int th, .ref (p 8)])), (p 2, .inl (cI, 4032, .inl (upd x.1 c (nI rd)))), (p 3, .inl (cI, 4032, .inl (upd x.2.1 c why))), (p 4, .inl (cI, 4032, .inl (upd x.2.2.1 c (nI fi)))), (p 5, .inl (cI, 4032, .inl (upd x.2.2.2.1 c se)))] rfl dX4_give_162 ?_
          exact z_vret (pc := 163) hC hQ hRT (by
    first
    | (rw [mG_fr (mOK_t h5 (by first | exact Or.inl h10 | exact Or.inr (by rw [tn_nI (by omega)]; exact h19)) h27) (Int32.not_le.mp h37)]; rfl)
    | (rw [mG_be (mOK_t h5 (by first | exact Or.inl h10 | exact Or.inr (by rw [tn_nI (by omega)]; exact h19)) h27) (fun q => absurd h37 (Int32.not_le.mpr q)) (decide_eq_true (Or.inl h59))]; rfl)
    | (rw [mG_be (mOK_t h5 (by first | exact Or.inl h10 | exact Or.inr (by rw [tn_nI (by omega)]; exact h19)) h27) (fun q => absurd h37 (Int32.not_le.mpr q)) (decide_eq_true (Or.inr ⟨h69, Or.inl h79⟩))]; rfl)
    | (rw [mG_be (mOK_t h5 (by first | exact Or.inl h10 | exact Or.inr (by rw [tn_nI (by omega)]; exact h19)) h27) (fun q => absurd h37 (Int32.not_le.mpr q)) (decide_eq_true (Or.inr ⟨h69, Or.inr ⟨h89, Int32.not_le.mp h100⟩⟩))]; rfl)) dX4_give_163
      · exact z_vret (pc := 30) hC hQ hRT (by first | rw [mG_no (mOK_1 h5)] | rw [mG_no (mOK_2 h10 (by rw [tn_nI (by omega)]; exact h19))] | rw [mG_no (mOK_3 h27)]) dX4_give_30
    · obtain ⟨js, hjs, ejs⟩ := hs h10
      subst ejs
      refine z_aload_n (pc := 13) hC 0 dX4_give_13 rfl ?_
      refine z_iload (pc := 14) hC 4 dX4_give_14 rfl ?_
      refine z_callV_I (pc := 16) (y := yX4_has) (wy := wsX4_has) (rm := { frames := 0, cells := 0, slots := 0, locals := 0 }) (As := [.int (nI js)]) (rest := []) (na := 1) (C := RX4) (T := TX4) (NF := 16) (ci := 5) (wc := [(p 0, .inr (5, [.int (nI n), .ref (p 1), .int (nI cnt), .int (bI (kn)), .ref (p 2), .ref (p 3), .ref (p 4), .ref (p 5), .int (nI rd), .int x.2.2.2.2, .ref (p 6), .int (nI fo), .ref (p 7), .int (nI ps), .int th, .ref (p 8)])), (p 2, .inl (cI, 4032, .inl x.1))]) (wc2 := [(p 0, .inr (5, [.int (nI n), .ref (p 1), .int (nI cnt), .int (bI (kn)), .ref (p 2), .ref (p 3), .ref (p 4), .ref (p 5), .int (nI rd), .int x.2.2.2.2, .ref (p 6), .int (nI fo), .ref (p 7), .int (nI ps), .int th, .ref (p 8)])), (p 2, .inl (cI, 4032, .inl x.1))]) hC hRm hDis hLis 0 rfl rfl gX4_give_X4_has ⟨rfl, by decide +kernel, by decide +kernel⟩ rfl ⟨by decide, by decide⟩ ⟨by decide, by decide⟩ rfl (Nat.le_of_ble_eq_true rfl) (by decide +kernel) (c_X4_has _ _ cI cJ cZ (p) (n) (cnt) (kn) (rd) (x.2.2.2.2) (fo) (ps) (th) (x.1) (js) (hjs)) [0, 1] [2, 3, 4] [3, 4, 0, 1, 2] [(p 3, .inl (cI, 4032, .inl x.2.1)), (p 4, .inl (cI, 4032, .inl x.2.2.1)), (p 5, .inl (cI, 4032, .inl x.2.2.2.1))] rfl (by decide) rfl (by decide) (by decide) [(p 0, .inr (5, [.int (nI n), .ref (p 1), .int (nI cnt), .int (bI (kn)), .ref (p 2), .ref (p 3), .ref (p 4), .ref (p 5), .int (nI rd), .int x.2.2.2.2, .ref (p 6), .int (nI fo), .ref (p 7), .int (nI ps), .int th, .ref (p 8)])), (p 2, .inl (cI, 4032, .inl x.1)), (p 3, .inl (cI, 4032, .inl x.2.1)), (p 4, .inl (cI, 4032, .inl x.2.2.1)), (p 5, .inl (cI, 4032, .inl x.2.2.2.1))] rfl (by decide) rfl dX4_give_16 ?_
      refine z_bif_eq (pc := 19) (tgt := 30) hC dX4_give_19 (by decide) (fun h19 => ?_) (fun h19 => ?_)
      · exact z_vret (pc := 30) hC hQ hRT (by first | rw [mG_no (mOK_1 h5)] | rw [mG_no (mOK_2 h10 (by rw [tn_nI (by omega)]; exact h19))] | rw [mG_no (mOK_3 h27)]) dX4_give_30
      · refine z_aload_n (pc := 22) hC 0 dX4_give_22 rfl ?_
        refine z_iload_n (pc := 23) hC 1 dX4_give_23 rfl ?_
        refine z_callV_I (pc := 24) (y := yX4_has) (wy := wsX4_has) (rm := { frames := 0, cells := 0, slots := 0, locals := 0 }) (As := [.int (nI c)]) (rest := []) (na := 1) (C := RX4) (T := TX4) (NF := 16) (ci := 5) (wc := [(p 0, .inr (5, [.int (nI n), .ref (p 1), .int (nI cnt), .int (bI (kn)), .ref (p 2), .ref (p 3), .ref (p 4), .ref (p 5), .int (nI rd), .int x.2.2.2.2, .ref (p 6), .int (nI fo), .ref (p 7), .int (nI ps), .int th, .ref (p 8)])), (p 2, .inl (cI, 4032, .inl x.1))]) (wc2 := [(p 0, .inr (5, [.int (nI n), .ref (p 1), .int (nI cnt), .int (bI (kn)), .ref (p 2), .ref (p 3), .ref (p 4), .ref (p 5), .int (nI rd), .int x.2.2.2.2, .ref (p 6), .int (nI fo), .ref (p 7), .int (nI ps), .int th, .ref (p 8)])), (p 2, .inl (cI, 4032, .inl x.1))]) hC hRm hDis hLis 0 rfl rfl gX4_give_X4_has ⟨rfl, by decide +kernel, by decide +kernel⟩ rfl ⟨by decide, by decide⟩ ⟨by decide, by decide⟩ rfl (Nat.le_of_ble_eq_true rfl) (by decide +kernel) (c_X4_has _ _ cI cJ cZ (p) (n) (cnt) (kn) (rd) (x.2.2.2.2) (fo) (ps) (th) (x.1) (c) (hc)) [0, 1] [2, 3, 4] [3, 4, 0, 1, 2] [(p 3, .inl (cI, 4032, .inl x.2.1)), (p 4, .inl (cI, 4032, .inl x.2.2.1)), (p 5, .inl (cI, 4032, .inl x.2.2.2.1))] rfl (by decide) rfl (by decide) (by decide) [(p 0, .inr (5, [.int (nI n), .ref (p 1), .int (nI cnt), .int (bI (kn)), .ref (p 2), .ref (p 3), .ref (p 4), .ref (p 5), .int (nI rd), .int x.2.2.2.2, .ref (p 6), .int (nI fo), .ref (p 7), .int (nI ps), .int th, .ref (p 8)])), (p 2, .inl (cI, 4032, .inl x.1)), (p 3, .inl (cI, 4032, .inl x.2.1)), (p 4, .inl (cI, 4032, .inl x.2.2.1)), (p 5, .inl (cI, 4032, .inl x.2.2.2.1))] rfl (by decide) rfl dX4_give_24 ?_
        refine z_bif_eq (pc := 27) (tgt := 31) hC dX4_give_27 (by decide) (fun h27 => ?_) (fun h27 => ?_)
        · refine z_aload_n (pc := 31) hC 0 dX4_give_31 rfl ?_
          refine z_get (pc := 32) (C := RX4) (T := TX4) (N := 16) hC hinX4 0 rfl rfl 4 (by decide) (by decide +kernel) rfl dX4_give_32 ?_
          refine z_iload_n (pc := 35) hC 1 dX4_give_35 rfl ?_
          refine z_iald (pc := 36) (v := (x.1 c)) hC 1 0 rfl rfl (by omega) (by decide) (rfl) dX4_give_36 ?_
          refine z_if_ge (pc := 37) (tgt := 44) hC dX4_give_37 (by decide) (fun h37 => ?_) (fun h37 => ?_)
          · refine z_iconst (pc := 44) (v := (nI 0)) hC dX4_give_44 (by decide +kernel) ?_
            refine z_istore (pc := 45) hC hNL [(5, .int (nI 0)), (0, .ref (p 0)), (1, .int (nI c)), (2, .int why), (3, .int (nI fi)), (4, .int (nI js))] dX4_give_45 (by decide) rfl ?_
            refine z_iload (pc := 47) hC 0 dX4_give_47 rfl ?_
            refine z_nif_ne (pc := 49) (tgt := 103) hC dX4_give_49 (by decide) (by omega) (fun h49 => absurd h49 (by decide)) (fun h49 => ?_)
            refine z_iload_n (pc := 52) hC 3 dX4_give_52 rfl ?_
            refine z_aload_n (pc := 53) hC 1 dX4_give_53 rfl ?_
            refine z_get (pc := 54) (C := RX4) (T := TX4) (N := 16) hC hinX4 0 rfl rfl 5 (by decide) (by decide +kernel) rfl dX4_give_54 ?_
            refine z_iload_n (pc := 57) hC 2 dX4_give_57 rfl ?_
            refine z_iald (pc := 58) (v := (x.2.1 c)) hC 2 0 rfl rfl (by omega) (by decide) (rfl) dX4_give_58 ?_
            refine z_icmp_lt (pc := 59) (tgt := 103) hC dX4_give_59 (by decide) (fun h59 => ?_) (fun h59 => ?_)
            · refine z_iconst (pc := 103) (v := (nI 1)) hC dX4_give_103 (by decide +kernel) ?_
              refine z_goto (pc := 104) (tgt := 108) hC dX4_give_104 (by decide) ?_
              refine z_istore (pc := 108) hC hNL [(6, .int (nI 1)), (5, .int (nI 0)), (0, .ref (p 0)), (1, .int (nI c)), (2, .int why), (3, .int (nI fi)), (4, .int (nI js))] dX4_give_108 (by decide) rfl ?_
              refine z_iload (pc := 110) hC 1 dX4_give_110 rfl ?_
              refine z_nif_eq (pc := 112) (tgt := 125) hC dX4_give_112 (by decide) (by omega) (fun h112 => ?_) (fun h112 => absurd h112 (by decide))
              refine z_iload (pc := 125) hC 0 dX4_give_125 rfl ?_
              refine z_nif_ne (pc := 127) (tgt := 131) hC dX4_give_127 (by decide) (by omega) (fun h127 => ?_) (fun h127 => absurd h127 (by decide))
              refine z_aload_n (pc := 131) hC 2 dX4_give_131 rfl ?_
              refine z_get (pc := 132) (C := RX4) (T := TX4) (N := 16) hC hinX4 0 rfl rfl 4 (by decide) (by decide +kernel) rfl dX4_give_132 ?_
              refine z_iload_n (pc := 135) hC 3 dX4_give_135 rfl ?_
              refine z_aload_n (pc := 136) hC 2 dX4_give_136 rfl ?_
              refine z_get (pc := 137) (C := RX4) (T := TX4) (N := 16) hC hinX4 0 rfl rfl 8 (by decide) (by decide +kernel) rfl dX4_give_137 ?_
              refine z_iast (pc := 140) hC 1 0 rfl rfl (by omega) (by decide) [(p 0, .inr (5, [.int (nI n), .ref (p 1), .int (nI cnt), .int (bI (kn)), .ref (p 2), .ref (p 3), .ref (p 4), .ref (p 5), .int (nI rd), .int x.2.2.2.2, .ref (p 6), .int (nI fo), .ref (p 7), .int (nI ps), .int th, .ref (p 8)])), (p 2, .inl (cI, 4032, .inl (upd x.1 c (nI rd)))), (p 3, .inl (cI, 4032, .inl x.2.1)), (p 4, .inl (cI, 4032, .inl x.2.2.1)), (p 5, .inl (cI, 4032, .inl x.2.2.2.1))] rfl dX4_give_140 ?_
              refine z_aload_n (pc := 141) hC 2 dX4_give_141 rfl ?_
              refine z_get (pc := 142) (C := RX4) (T := TX4) (N := 16) hC hinX4 0 rfl rfl 5 (by decide) (by decide +kernel) rfl dX4_give_142 ?_
              refine z_iload_n (pc := 145) hC 3 dX4_give_145 rfl ?_
              refine z_iload_n (pc := 146) hC 4 dX4_give_146 rfl ?_
              refine z_iast (pc := 147) hC 2 0 rfl rfl (by omega) (by decide) [(p 0, .inr (5, [.int (nI n), .ref (p 1), .int (nI cnt), .int (bI (kn)), .ref (p 2), .ref (p 3), .ref (p 4), .ref (p 5), .int (nI rd), .int x.2.2.2.2, .ref (p 6), .int (nI fo), .ref (p 7), .int (nI ps), .int th, .ref (p 8)])), (p 2, .inl (cI, 4032, .inl (upd x.1 c (nI rd)))), (p 3, .inl (cI, 4032, .inl (upd x.2.1 c why))), (p 4, .inl (cI, 4032, .inl x.2.2.1)), (p 5, .inl (cI, 4032, .inl x.2.2.2.1))] rfl dX4_give_147 ?_
              refine z_aload_n (pc := 148) hC 2 dX4_give_148 rfl ?_
              refine z_get (pc := 149) (C := RX4) (T := TX4) (N := 16) hC hinX4 0 rfl rfl 6 (by decide) (by decide +kernel) rfl dX4_give_149 ?_
              refine z_iload_n (pc := 152) hC 3 dX4_give_152 rfl ?_
              refine z_iload_n (pc := 153) hC 5 dX4_give_153 rfl ?_
              refine z_iast (pc := 154) hC 3 0 rfl rfl (by omega) (by decide) [(p 0, .inr (5, [.int (nI n), .ref (p 1), .int (nI cnt), .int (bI (kn)), .ref (p 2), .ref (p 3), .ref (p 4), .ref (p 5), .int (nI rd), .int x.2.2.2.2, .ref (p 6), .int (nI fo), .ref (p 7), .int (nI ps), .int th, .ref (p 8)])), (p 2, .inl (cI, 4032, .inl (upd x.1 c (nI rd)))), (p 3, .inl (cI, 4032, .inl (upd x.2.1 c why))), (p 4, .inl (cI, 4032, .inl (upd x.2.2.1 c (nI fi)))), (p 5, .inl (cI, 4032, .inl x.2.2.2.1))] rfl dX4_give_154 ?_
              refine z_aload_n (pc := 155) hC 2 dX4_give_155 rfl ?_
              refine z_get (pc := 156) (C := RX4) (T := TX4) (N := 16) hC hinX4 0 rfl rfl 7 (by decide) (by decide +kernel) rfl dX4_give_156 ?_
              refine z_iload_n (pc := 159) hC 3 dX4_give_159 rfl ?_
              refine z_iload (pc := 160) hC 6 dX4_give_160 rfl ?_
              refine z_iast (pc := 162) hC 4 0 rfl rfl (by omega) (by decide) [(p 0, .inr (5, [.int (nI n), .ref (p 1), .int (nI cnt), .int (bI (kn)), .ref (p 2), .ref (p 3), .ref (p 4), .ref (p 5), .int (nI rd), .int x.2.2.2.2, .ref (p 6), .int (nI fo), .ref (p 7), .int (nI ps), .int th, .ref (p 8)])), (p 2, .inl (cI, 4032, .inl (upd x.1 c (nI rd)))), (p 3, .inl (cI, 4032, .inl (upd x.2.1 c why))), (p 4, .inl (cI, 4032, .inl (upd x.2.2.1 c (nI fi)))), (p 5, .inl (cI, 4032, .inl (upd x.2.2.2.1 c (nI js))))] rfl dX4_give_162 ?_
              exact z_vret (pc := 163) hC hQ hRT (by
    first
    | (rw [mG_fr (mOK_t h5 (by first | exact Or.inl h10 | exact Or.inr (by rw [tn_nI (by omega)]; exact h19)) h27) (Int32.not_le.mp h37)]; rfl)
    | (rw [mG_be (mOK_t h5 (by first | exact Or.inl h10 | exact Or.inr (by rw [tn_nI (by omega)]; exact h19)) h27) (fun q => absurd h37 (Int32.not_le.mpr q)) (decide_eq_true (Or.inl h59))]; rfl)
    | (rw [mG_be (mOK_t h5 (by first | exact Or.inl h10 | exact Or.inr (by rw [tn_nI (by omega)]; exact h19)) h27) (fun q => absurd h37 (Int32.not_le.mpr q)) (decide_eq_true (Or.inr ⟨h69, Or.inl h79⟩))]; rfl)
    | (rw [mG_be (mOK_t h5 (by first | exact Or.inl h10 | exact Or.inr (by rw [tn_nI (by omega)]; exact h19)) h27) (fun q => absurd h37 (Int32.not_le.mpr q)) (decide_eq_true (Or.inr ⟨h69, Or.inr ⟨h89, Int32.not_le.mp h100⟩⟩))]; rfl)) dX4_give_163
            · refine z_iload_n (pc := 62) hC 3 dX4_give_62 rfl ?_
              refine z_aload_n (pc := 63) hC 1 dX4_give_63 rfl ?_
              refine z_get (pc := 64) (C := RX4) (T := TX4) (N := 16) hC hinX4 0 rfl rfl 5 (by decide) (by decide +kernel) rfl dX4_give_64 ?_
              refine z_iload_n (pc := 67) hC 2 dX4_give_67 rfl ?_
              refine z_iald (pc := 68) (v := (x.2.1 c)) hC 2 0 rfl rfl (by omega) (by decide) (rfl) dX4_give_68 ?_
              refine z_icmp_ne (pc := 69) (tgt := 107) hC dX4_give_69 (by decide) (fun h69 => ?_) (fun h69 => ?_)
              · refine z_iconst (pc := 107) (v := (nI 0)) hC dX4_give_107 (by decide +kernel) ?_
                refine z_istore (pc := 108) hC hNL [(6, .int (nI 0)), (5, .int (nI 0)), (0, .ref (p 0)), (1, .int (nI c)), (2, .int why), (3, .int (nI fi)), (4, .int (nI js))] dX4_give_108 (by decide) rfl ?_
                refine z_iload (pc := 110) hC 1 dX4_give_110 rfl ?_
                refine z_nif_eq (pc := 112) (tgt := 125) hC dX4_give_112 (by decide) (by omega) (fun h112 => ?_) (fun h112 => absurd h112 (by decide))
                refine z_iload (pc := 125) hC 0 dX4_give_125 rfl ?_
                refine z_nif_ne (pc := 127) (tgt := 131) hC dX4_give_127 (by decide) (by omega) (fun h127 => absurd h127 (by decide)) (fun h127 => ?_)
                exact z_vret (pc := 130) hC hQ hRT (by
    first
    | rw [mG_nb (mOK_t h5 (by first | exact Or.inl h10 | exact Or.inr (by rw [tn_nI (by omega)]; exact h19)) h27) (fun q => absurd h37 (Int32.not_le.mpr q)) (decide_eq_false (fun q => q.elim h59 (fun q2 => h69 q2.1)))]
    | rw [mG_nb (mOK_t h5 (by first | exact Or.inl h10 | exact Or.inr (by rw [tn_nI (by omega)]; exact h19)) h27) (fun q => absurd h37 (Int32.not_le.mpr q)) (decide_eq_false (fun q => q.elim h59 (fun q2 => q2.2.elim h79 (fun q3 => h89 q3.1))))]
    | rw [mG_nb (mOK_t h5 (by first | exact Or.inl h10 | exact Or.inr (by rw [tn_nI (by omega)]; exact h19)) h27) (fun q => absurd h37 (Int32.not_le.mpr q)) (decide_eq_false (fun q => q.elim h59 (fun q2 => q2.2.elim h79 (fun q3 => absurd h100 (Int32.not_le.mpr q3.2)))))]) dX4_give_130
              · refine z_iload_n (pc := 72) hC 4 dX4_give_72 rfl ?_
                refine z_aload_n (pc := 73) hC 1 dX4_give_73 rfl ?_
                refine z_get (pc := 74) (C := RX4) (T := TX4) (N := 16) hC hinX4 0 rfl rfl 6 (by decide) (by decide +kernel) rfl dX4_give_74 ?_
                refine z_iload_n (pc := 77) hC 2 dX4_give_77 rfl ?_
                refine z_iald (pc := 78) (v := (x.2.2.1 c)) hC 3 0 rfl rfl (by omega) (by decide) (rfl) dX4_give_78 ?_
                refine z_icmp_lt (pc := 79) (tgt := 103) hC dX4_give_79 (by decide) (fun h79 => ?_) (fun h79 => ?_)
                · refine z_iconst (pc := 103) (v := (nI 1)) hC dX4_give_103 (by decide +kernel) ?_
                  refine z_goto (pc := 104) (tgt := 108) hC dX4_give_104 (by decide) ?_
                  refine z_istore (pc := 108) hC hNL [(6, .int (nI 1)), (5, .int (nI 0)), (0, .ref (p 0)), (1, .int (nI c)), (2, .int why), (3, .int (nI fi)), (4, .int (nI js))] dX4_give_108 (by decide) rfl ?_
                  refine z_iload (pc := 110) hC 1 dX4_give_110 rfl ?_
                  refine z_nif_eq (pc := 112) (tgt := 125) hC dX4_give_112 (by decide) (by omega) (fun h112 => ?_) (fun h112 => absurd h112 (by decide))
                  refine z_iload (pc := 125) hC 0 dX4_give_125 rfl ?_
                  refine z_nif_ne (pc := 127) (tgt := 131) hC dX4_give_127 (by decide) (by omega) (fun h127 => ?_) (fun h127 => absurd h127 (by decide))
                  refine z_aload_n (pc := 131) hC 2 dX4_give_131 rfl ?_
                  refine z_get (pc := 132) (C := RX4) (T := TX4) (N := 16) hC hinX4 0 rfl rfl 4 (by decide) (by decide +kernel) rfl dX4_give_132 ?_
                  refine z_iload_n (pc := 135) hC 3 dX4_give_135 rfl ?_
                  refine z_aload_n (pc := 136) hC 2 dX4_give_136 rfl ?_
                  refine z_get (pc := 137) (C := RX4) (T := TX4) (N := 16) hC hinX4 0 rfl rfl 8 (by decide) (by decide +kernel) rfl dX4_give_137 ?_
                  refine z_iast (pc := 140) hC 1 0 rfl rfl (by omega) (by decide) [(p 0, .inr (5, [.int (nI n), .ref (p 1), .int (nI cnt), .int (bI (kn)), .ref (p 2), .ref (p 3), .ref (p 4), .ref (p 5), .int (nI rd), .int x.2.2.2.2, .ref (p 6), .int (nI fo), .ref (p 7), .int (nI ps), .int th, .ref (p 8)])), (p 2, .inl (cI, 4032, .inl (upd x.1 c (nI rd)))), (p 3, .inl (cI, 4032, .inl x.2.1)), (p 4, .inl (cI, 4032, .inl x.2.2.1)), (p 5, .inl (cI, 4032, .inl x.2.2.2.1))] rfl dX4_give_140 ?_
                  refine z_aload_n (pc := 141) hC 2 dX4_give_141 rfl ?_
                  refine z_get (pc := 142) (C := RX4) (T := TX4) (N := 16) hC hinX4 0 rfl rfl 5 (by decide) (by decide +kernel) rfl dX4_give_142 ?_
                  refine z_iload_n (pc := 145) hC 3 dX4_give_145 rfl ?_
                  refine z_iload_n (pc := 146) hC 4 dX4_give_146 rfl ?_
                  refine z_iast (pc := 147) hC 2 0 rfl rfl (by omega) (by decide) [(p 0, .inr (5, [.int (nI n), .ref (p 1), .int (nI cnt), .int (bI (kn)), .ref (p 2), .ref (p 3), .ref (p 4), .ref (p 5), .int (nI rd), .int x.2.2.2.2, .ref (p 6), .int (nI fo), .ref (p 7), .int (nI ps), .int th, .ref (p 8)])), (p 2, .inl (cI, 4032, .inl (upd x.1 c (nI rd)))), (p 3, .inl (cI, 4032, .inl (upd x.2.1 c why))), (p 4, .inl (cI, 4032, .inl x.2.2.1)), (p 5, .inl (cI, 4032, .inl x.2.2.2.1))] rfl dX4_give_147 ?_
                  refine z_aload_n (pc := 148) hC 2 dX4_give_148 rfl ?_
                  refine z_get (pc := 149) (C := RX4) (T := TX4) (N := 16) hC hinX4 0 rfl rfl 6 (by decide) (by decide +kernel) rfl dX4_give_149 ?_
                  refine z_iload_n (pc := 152) hC 3 dX4_give_152 rfl ?_
                  refine z_iload_n (pc := 153) hC 5 dX4_give_153 rfl ?_
                  refine z_iast (pc := 154) hC 3 0 rfl rfl (by omega) (by decide) [(p 0, .inr (5, [.int (nI n), .ref (p 1), .int (nI cnt), .int (bI (kn)), .ref (p 2), .ref (p 3), .ref (p 4), .ref (p 5), .int (nI rd), .int x.2.2.2.2, .ref (p 6), .int (nI fo), .ref (p 7), .int (nI ps), .int th, .ref (p 8)])), (p 2, .inl (cI, 4032, .inl (upd x.1 c (nI rd)))), (p 3, .inl (cI, 4032, .inl (upd x.2.1 c why))), (p 4, .inl (cI, 4032, .inl (upd x.2.2.1 c (nI fi)))), (p 5, .inl (cI, 4032, .inl x.2.2.2.1))] rfl dX4_give_154 ?_
                  refine z_aload_n (pc := 155) hC 2 dX4_give_155 rfl ?_
                  refine z_get (pc := 156) (C := RX4) (T := TX4) (N := 16) hC hinX4 0 rfl rfl 7 (by decide) (by decide +kernel) rfl dX4_give_156 ?_
                  refine z_iload_n (pc := 159) hC 3 dX4_give_159 rfl ?_
                  refine z_iload (pc := 160) hC 6 dX4_give_160 rfl ?_
                  refine z_iast (pc := 162) hC 4 0 rfl rfl (by omega) (by decide) [(p 0, .inr (5, [.int (nI n), .ref (p 1), .int (nI cnt), .int (bI (kn)), .ref (p 2), .ref (p 3), .ref (p 4), .ref (p 5), .int (nI rd), .int x.2.2.2.2, .ref (p 6), .int (nI fo), .ref (p 7), .int (nI ps), .int th, .ref (p 8)])), (p 2, .inl (cI, 4032, .inl (upd x.1 c (nI rd)))), (p 3, .inl (cI, 4032, .inl (upd x.2.1 c why))), (p 4, .inl (cI, 4032, .inl (upd x.2.2.1 c (nI fi)))), (p 5, .inl (cI, 4032, .inl (upd x.2.2.2.1 c (nI js))))] rfl dX4_give_162 ?_
                  exact z_vret (pc := 163) hC hQ hRT (by
    first
    | (rw [mG_fr (mOK_t h5 (by first | exact Or.inl h10 | exact Or.inr (by rw [tn_nI (by omega)]; exact h19)) h27) (Int32.not_le.mp h37)]; rfl)
    | (rw [mG_be (mOK_t h5 (by first | exact Or.inl h10 | exact Or.inr (by rw [tn_nI (by omega)]; exact h19)) h27) (fun q => absurd h37 (Int32.not_le.mpr q)) (decide_eq_true (Or.inl h59))]; rfl)
    | (rw [mG_be (mOK_t h5 (by first | exact Or.inl h10 | exact Or.inr (by rw [tn_nI (by omega)]; exact h19)) h27) (fun q => absurd h37 (Int32.not_le.mpr q)) (decide_eq_true (Or.inr ⟨h69, Or.inl h79⟩))]; rfl)
    | (rw [mG_be (mOK_t h5 (by first | exact Or.inl h10 | exact Or.inr (by rw [tn_nI (by omega)]; exact h19)) h27) (fun q => absurd h37 (Int32.not_le.mpr q)) (decide_eq_true (Or.inr ⟨h69, Or.inr ⟨h89, Int32.not_le.mp h100⟩⟩))]; rfl)) dX4_give_163
                · refine z_iload_n (pc := 82) hC 4 dX4_give_82 rfl ?_
                  refine z_aload_n (pc := 83) hC 1 dX4_give_83 rfl ?_
                  refine z_get (pc := 84) (C := RX4) (T := TX4) (N := 16) hC hinX4 0 rfl rfl 6 (by decide) (by decide +kernel) rfl dX4_give_84 ?_
                  refine z_iload_n (pc := 87) hC 2 dX4_give_87 rfl ?_
                  refine z_iald (pc := 88) (v := (x.2.2.1 c)) hC 3 0 rfl rfl (by omega) (by decide) (rfl) dX4_give_88 ?_
                  refine z_icmp_ne (pc := 89) (tgt := 107) hC dX4_give_89 (by decide) (fun h89 => ?_) (fun h89 => ?_)
                  · refine z_iconst (pc := 107) (v := (nI 0)) hC dX4_give_107 (by decide +kernel) ?_
                    refine z_istore (pc := 108) hC hNL [(6, .int (nI 0)), (5, .int (nI 0)), (0, .ref (p 0)), (1, .int (nI c)), (2, .int why), (3, .int (nI fi)), (4, .int (nI js))] dX4_give_108 (by decide) rfl ?_
                    refine z_iload (pc := 110) hC 1 dX4_give_110 rfl ?_
                    refine z_nif_eq (pc := 112) (tgt := 125) hC dX4_give_112 (by decide) (by omega) (fun h112 => ?_) (fun h112 => absurd h112 (by decide))
                    refine z_iload (pc := 125) hC 0 dX4_give_125 rfl ?_
                    refine z_nif_ne (pc := 127) (tgt := 131) hC dX4_give_127 (by decide) (by omega) (fun h127 => absurd h127 (by decide)) (fun h127 => ?_)
                    exact z_vret (pc := 130) hC hQ hRT (by
    first
    | rw [mG_nb (mOK_t h5 (by first | exact Or.inl h10 | exact Or.inr (by rw [tn_nI (by omega)]; exact h19)) h27) (fun q => absurd h37 (Int32.not_le.mpr q)) (decide_eq_false (fun q => q.elim h59 (fun q2 => h69 q2.1)))]
    | rw [mG_nb (mOK_t h5 (by first | exact Or.inl h10 | exact Or.inr (by rw [tn_nI (by omega)]; exact h19)) h27) (fun q => absurd h37 (Int32.not_le.mpr q)) (decide_eq_false (fun q => q.elim h59 (fun q2 => q2.2.elim h79 (fun q3 => h89 q3.1))))]
    | rw [mG_nb (mOK_t h5 (by first | exact Or.inl h10 | exact Or.inr (by rw [tn_nI (by omega)]; exact h19)) h27) (fun q => absurd h37 (Int32.not_le.mpr q)) (decide_eq_false (fun q => q.elim h59 (fun q2 => q2.2.elim h79 (fun q3 => absurd h100 (Int32.not_le.mpr q3.2)))))]) dX4_give_130
                  · refine z_iload (pc := 92) hC 5 dX4_give_92 rfl ?_
                    refine z_aload_n (pc := 94) hC 1 dX4_give_94 rfl ?_
                    refine z_get (pc := 95) (C := RX4) (T := TX4) (N := 16) hC hinX4 0 rfl rfl 7 (by decide) (by decide +kernel) rfl dX4_give_95 ?_
                    refine z_iload_n (pc := 98) hC 2 dX4_give_98 rfl ?_
                    refine z_iald (pc := 99) (v := (x.2.2.2.1 c)) hC 4 0 rfl rfl (by omega) (by decide) (rfl) dX4_give_99 ?_
                    refine z_icmp_ge (pc := 100) (tgt := 107) hC dX4_give_100 (by decide) (fun h100 => ?_) (fun h100 => ?_)
                    · refine z_iconst (pc := 107) (v := (nI 0)) hC dX4_give_107 (by decide +kernel) ?_
                      refine z_istore (pc := 108) hC hNL [(6, .int (nI 0)), (5, .int (nI 0)), (0, .ref (p 0)), (1, .int (nI c)), (2, .int why), (3, .int (nI fi)), (4, .int (nI js))] dX4_give_108 (by decide) rfl ?_
                      refine z_iload (pc := 110) hC 1 dX4_give_110 rfl ?_
                      refine z_nif_eq (pc := 112) (tgt := 125) hC dX4_give_112 (by decide) (by omega) (fun h112 => ?_) (fun h112 => absurd h112 (by decide))
                      refine z_iload (pc := 125) hC 0 dX4_give_125 rfl ?_
                      refine z_nif_ne (pc := 127) (tgt := 131) hC dX4_give_127 (by decide) (by omega) (fun h127 => absurd h127 (by decide)) (fun h127 => ?_)
                      exact z_vret (pc := 130) hC hQ hRT (by
    first
    | rw [mG_nb (mOK_t h5 (by first | exact Or.inl h10 | exact Or.inr (by rw [tn_nI (by omega)]; exact h19)) h27) (fun q => absurd h37 (Int32.not_le.mpr q)) (decide_eq_false (fun q => q.elim h59 (fun q2 => h69 q2.1)))]
    | rw [mG_nb (mOK_t h5 (by first | exact Or.inl h10 | exact Or.inr (by rw [tn_nI (by omega)]; exact h19)) h27) (fun q => absurd h37 (Int32.not_le.mpr q)) (decide_eq_false (fun q => q.elim h59 (fun q2 => q2.2.elim h79 (fun q3 => h89 q3.1))))]
    | rw [mG_nb (mOK_t h5 (by first | exact Or.inl h10 | exact Or.inr (by rw [tn_nI (by omega)]; exact h19)) h27) (fun q => absurd h37 (Int32.not_le.mpr q)) (decide_eq_false (fun q => q.elim h59 (fun q2 => q2.2.elim h79 (fun q3 => absurd h100 (Int32.not_le.mpr q3.2)))))]) dX4_give_130
                    · refine z_iconst (pc := 103) (v := (nI 1)) hC dX4_give_103 (by decide +kernel) ?_
                      refine z_goto (pc := 104) (tgt := 108) hC dX4_give_104 (by decide) ?_
                      refine z_istore (pc := 108) hC hNL [(6, .int (nI 1)), (5, .int (nI 0)), (0, .ref (p 0)), (1, .int (nI c)), (2, .int why), (3, .int (nI fi)), (4, .int (nI js))] dX4_give_108 (by decide) rfl ?_
                      refine z_iload (pc := 110) hC 1 dX4_give_110 rfl ?_
                      refine z_nif_eq (pc := 112) (tgt := 125) hC dX4_give_112 (by decide) (by omega) (fun h112 => ?_) (fun h112 => absurd h112 (by decide))
                      refine z_iload (pc := 125) hC 0 dX4_give_125 rfl ?_
                      refine z_nif_ne (pc := 127) (tgt := 131) hC dX4_give_127 (by decide) (by omega) (fun h127 => ?_) (fun h127 => absurd h127 (by decide))
                      refine z_aload_n (pc := 131) hC 2 dX4_give_131 rfl ?_
                      refine z_get (pc := 132) (C := RX4) (T := TX4) (N := 16) hC hinX4 0 rfl rfl 4 (by decide) (by decide +kernel) rfl dX4_give_132 ?_
                      refine z_iload_n (pc := 135) hC 3 dX4_give_135 rfl ?_
                      refine z_aload_n (pc := 136) hC 2 dX4_give_136 rfl ?_
                      refine z_get (pc := 137) (C := RX4) (T := TX4) (N := 16) hC hinX4 0 rfl rfl 8 (by decide) (by decide +kernel) rfl dX4_give_137 ?_
                      refine z_iast (pc := 140) hC 1 0 rfl rfl (by omega) (by decide) [(p 0, .inr (5, [.int (nI n), .ref (p 1), .int (nI cnt), .int (bI (kn)), .ref (p 2), .ref (p 3), .ref (p 4), .ref (p 5), .int (nI rd), .int x.2.2.2.2, .ref (p 6), .int (nI fo), .ref (p 7), .int (nI ps), .int th, .ref (p 8)])), (p 2, .inl (cI, 4032, .inl (upd x.1 c (nI rd)))), (p 3, .inl (cI, 4032, .inl x.2.1)), (p 4, .inl (cI, 4032, .inl x.2.2.1)), (p 5, .inl (cI, 4032, .inl x.2.2.2.1))] rfl dX4_give_140 ?_
                      refine z_aload_n (pc := 141) hC 2 dX4_give_141 rfl ?_
                      refine z_get (pc := 142) (C := RX4) (T := TX4) (N := 16) hC hinX4 0 rfl rfl 5 (by decide) (by decide +kernel) rfl dX4_give_142 ?_
                      refine z_iload_n (pc := 145) hC 3 dX4_give_145 rfl ?_
                      refine z_iload_n (pc := 146) hC 4 dX4_give_146 rfl ?_
                      refine z_iast (pc := 147) hC 2 0 rfl rfl (by omega) (by decide) [(p 0, .inr (5, [.int (nI n), .ref (p 1), .int (nI cnt), .int (bI (kn)), .ref (p 2), .ref (p 3), .ref (p 4), .ref (p 5), .int (nI rd), .int x.2.2.2.2, .ref (p 6), .int (nI fo), .ref (p 7), .int (nI ps), .int th, .ref (p 8)])), (p 2, .inl (cI, 4032, .inl (upd x.1 c (nI rd)))), (p 3, .inl (cI, 4032, .inl (upd x.2.1 c why))), (p 4, .inl (cI, 4032, .inl x.2.2.1)), (p 5, .inl (cI, 4032, .inl x.2.2.2.1))] rfl dX4_give_147 ?_
                      refine z_aload_n (pc := 148) hC 2 dX4_give_148 rfl ?_
                      refine z_get (pc := 149) (C := RX4) (T := TX4) (N := 16) hC hinX4 0 rfl rfl 6 (by decide) (by decide +kernel) rfl dX4_give_149 ?_
                      refine z_iload_n (pc := 152) hC 3 dX4_give_152 rfl ?_
                      refine z_iload_n (pc := 153) hC 5 dX4_give_153 rfl ?_
                      refine z_iast (pc := 154) hC 3 0 rfl rfl (by omega) (by decide) [(p 0, .inr (5, [.int (nI n), .ref (p 1), .int (nI cnt), .int (bI (kn)), .ref (p 2), .ref (p 3), .ref (p 4), .ref (p 5), .int (nI rd), .int x.2.2.2.2, .ref (p 6), .int (nI fo), .ref (p 7), .int (nI ps), .int th, .ref (p 8)])), (p 2, .inl (cI, 4032, .inl (upd x.1 c (nI rd)))), (p 3, .inl (cI, 4032, .inl (upd x.2.1 c why))), (p 4, .inl (cI, 4032, .inl (upd x.2.2.1 c (nI fi)))), (p 5, .inl (cI, 4032, .inl x.2.2.2.1))] rfl dX4_give_154 ?_
                      refine z_aload_n (pc := 155) hC 2 dX4_give_155 rfl ?_
                      refine z_get (pc := 156) (C := RX4) (T := TX4) (N := 16) hC hinX4 0 rfl rfl 7 (by decide) (by decide +kernel) rfl dX4_give_156 ?_
                      refine z_iload_n (pc := 159) hC 3 dX4_give_159 rfl ?_
                      refine z_iload (pc := 160) hC 6 dX4_give_160 rfl ?_
                      refine z_iast (pc := 162) hC 4 0 rfl rfl (by omega) (by decide) [(p 0, .inr (5, [.int (nI n), .ref (p 1), .int (nI cnt), .int (bI (kn)), .ref (p 2), .ref (p 3), .ref (p 4), .ref (p 5), .int (nI rd), .int x.2.2.2.2, .ref (p 6), .int (nI fo), .ref (p 7), .int (nI ps), .int th, .ref (p 8)])), (p 2, .inl (cI, 4032, .inl (upd x.1 c (nI rd)))), (p 3, .inl (cI, 4032, .inl (upd x.2.1 c why))), (p 4, .inl (cI, 4032, .inl (upd x.2.2.1 c (nI fi)))), (p 5, .inl (cI, 4032, .inl (upd x.2.2.2.1 c (nI js))))] rfl dX4_give_162 ?_
                      exact z_vret (pc := 163) hC hQ hRT (by
    first
    | (rw [mG_fr (mOK_t h5 (by first | exact Or.inl h10 | exact Or.inr (by rw [tn_nI (by omega)]; exact h19)) h27) (Int32.not_le.mp h37)]; rfl)
    | (rw [mG_be (mOK_t h5 (by first | exact Or.inl h10 | exact Or.inr (by rw [tn_nI (by omega)]; exact h19)) h27) (fun q => absurd h37 (Int32.not_le.mpr q)) (decide_eq_true (Or.inl h59))]; rfl)
    | (rw [mG_be (mOK_t h5 (by first | exact Or.inl h10 | exact Or.inr (by rw [tn_nI (by omega)]; exact h19)) h27) (fun q => absurd h37 (Int32.not_le.mpr q)) (decide_eq_true (Or.inr ⟨h69, Or.inl h79⟩))]; rfl)
    | (rw [mG_be (mOK_t h5 (by first | exact Or.inl h10 | exact Or.inr (by rw [tn_nI (by omega)]; exact h19)) h27) (fun q => absurd h37 (Int32.not_le.mpr q)) (decide_eq_true (Or.inr ⟨h69, Or.inr ⟨h89, Int32.not_le.mp h100⟩⟩))]; rfl)) dX4_give_163
          · refine z_iconst (pc := 40) (v := (nI 1)) hC dX4_give_40 (by decide +kernel) ?_
            refine z_goto (pc := 41) (tgt := 45) hC dX4_give_41 (by decide) ?_
            refine z_istore (pc := 45) hC hNL [(5, .int (nI 1)), (0, .ref (p 0)), (1, .int (nI c)), (2, .int why), (3, .int (nI fi)), (4, .int (nI js))] dX4_give_45 (by decide) rfl ?_
            refine z_iload (pc := 47) hC 0 dX4_give_47 rfl ?_
            refine z_nif_ne (pc := 49) (tgt := 103) hC dX4_give_49 (by decide) (by omega) (fun h49 => ?_) (fun h49 => absurd h49 (by decide))
            refine z_iconst (pc := 103) (v := (nI 1)) hC dX4_give_103 (by decide +kernel) ?_
            refine z_goto (pc := 104) (tgt := 108) hC dX4_give_104 (by decide) ?_
            refine z_istore (pc := 108) hC hNL [(6, .int (nI 1)), (5, .int (nI 1)), (0, .ref (p 0)), (1, .int (nI c)), (2, .int why), (3, .int (nI fi)), (4, .int (nI js))] dX4_give_108 (by decide) rfl ?_
            refine z_iload (pc := 110) hC 1 dX4_give_110 rfl ?_
            refine z_nif_eq (pc := 112) (tgt := 125) hC dX4_give_112 (by decide) (by omega) (fun h112 => absurd h112 (by decide)) (fun h112 => ?_)
            refine z_aload_n (pc := 115) hC 2 dX4_give_115 rfl ?_
            refine z_dup (pc := 116) hC dX4_give_116 rfl ?_
            refine z_get (pc := 117) (C := RX4) (T := TX4) (N := 16) hC hinX4 0 rfl rfl 9 (by decide) (by decide +kernel) rfl dX4_give_117 ?_
            refine z_iconst (pc := 120) (v := (nI 1)) hC dX4_give_120 (by decide +kernel) ?_
            refine z_iadd (pc := 121) (v := (x.2.2.2.2 + (nI 1))) hC dX4_give_121 (rfl) ?_
            refine z_put (pc := 122) (C := RX4) (T := TX4) (N := 16) hC hinX4 0 rfl rfl 9 (by decide) tyX4 tyX4_ok nmX4 (by decide +kernel) rfl (rfl) (rfl) (Nat.le_of_ble_eq_true rfl) [(p 0, .inr (5, [.int (nI n), .ref (p 1), .int (nI cnt), .int (bI (kn)), .ref (p 2), .ref (p 3), .ref (p 4), .ref (p 5), .int (nI rd), .int (x.2.2.2.2 + (nI 1)), .ref (p 6), .int (nI fo), .ref (p 7), .int (nI ps), .int th, .ref (p 8)])), (p 2, .inl (cI, 4032, .inl x.1)), (p 3, .inl (cI, 4032, .inl x.2.1)), (p 4, .inl (cI, 4032, .inl x.2.2.1)), (p 5, .inl (cI, 4032, .inl x.2.2.2.1))] rfl dX4_give_122 ?_
            refine z_iload (pc := 125) hC 0 dX4_give_125 rfl ?_
            refine z_nif_ne (pc := 127) (tgt := 131) hC dX4_give_127 (by decide) (by omega) (fun h127 => ?_) (fun h127 => absurd h127 (by decide))
            refine z_aload_n (pc := 131) hC 2 dX4_give_131 rfl ?_
            refine z_get (pc := 132) (C := RX4) (T := TX4) (N := 16) hC hinX4 0 rfl rfl 4 (by decide) (by decide +kernel) rfl dX4_give_132 ?_
            refine z_iload_n (pc := 135) hC 3 dX4_give_135 rfl ?_
            refine z_aload_n (pc := 136) hC 2 dX4_give_136 rfl ?_
            refine z_get (pc := 137) (C := RX4) (T := TX4) (N := 16) hC hinX4 0 rfl rfl 8 (by decide) (by decide +kernel) rfl dX4_give_137 ?_
            refine z_iast (pc := 140) hC 1 0 rfl rfl (by omega) (by decide) [(p 0, .inr (5, [.int (nI n), .ref (p 1), .int (nI cnt), .int (bI (kn)), .ref (p 2), .ref (p 3), .ref (p 4), .ref (p 5), .int (nI rd), .int (x.2.2.2.2 + (nI 1)), .ref (p 6), .int (nI fo), .ref (p 7), .int (nI ps), .int th, .ref (p 8)])), (p 2, .inl (cI, 4032, .inl (upd x.1 c (nI rd)))), (p 3, .inl (cI, 4032, .inl x.2.1)), (p 4, .inl (cI, 4032, .inl x.2.2.1)), (p 5, .inl (cI, 4032, .inl x.2.2.2.1))] rfl dX4_give_140 ?_
            refine z_aload_n (pc := 141) hC 2 dX4_give_141 rfl ?_
            refine z_get (pc := 142) (C := RX4) (T := TX4) (N := 16) hC hinX4 0 rfl rfl 5 (by decide) (by decide +kernel) rfl dX4_give_142 ?_
            refine z_iload_n (pc := 145) hC 3 dX4_give_145 rfl ?_
            refine z_iload_n (pc := 146) hC 4 dX4_give_146 rfl ?_
            refine z_iast (pc := 147) hC 2 0 rfl rfl (by omega) (by decide) [(p 0, .inr (5, [.int (nI n), .ref (p 1), .int (nI cnt), .int (bI (kn)), .ref (p 2), .ref (p 3), .ref (p 4), .ref (p 5), .int (nI rd), .int (x.2.2.2.2 + (nI 1)), .ref (p 6), .int (nI fo), .ref (p 7), .int (nI ps), .int th, .ref (p 8)])), (p 2, .inl (cI, 4032, .inl (upd x.1 c (nI rd)))), (p 3, .inl (cI, 4032, .inl (upd x.2.1 c why))), (p 4, .inl (cI, 4032, .inl x.2.2.1)), (p 5, .inl (cI, 4032, .inl x.2.2.2.1))] rfl dX4_give_147 ?_
            refine z_aload_n (pc := 148) hC 2 dX4_give_148 rfl ?_
            refine z_get (pc := 149) (C := RX4) (T := TX4) (N := 16) hC hinX4 0 rfl rfl 6 (by decide) (by decide +kernel) rfl dX4_give_149 ?_
            refine z_iload_n (pc := 152) hC 3 dX4_give_152 rfl ?_
            refine z_iload_n (pc := 153) hC 5 dX4_give_153 rfl ?_
            refine z_iast (pc := 154) hC 3 0 rfl rfl (by omega) (by decide) [(p 0, .inr (5, [.int (nI n), .ref (p 1), .int (nI cnt), .int (bI (kn)), .ref (p 2), .ref (p 3), .ref (p 4), .ref (p 5), .int (nI rd), .int (x.2.2.2.2 + (nI 1)), .ref (p 6), .int (nI fo), .ref (p 7), .int (nI ps), .int th, .ref (p 8)])), (p 2, .inl (cI, 4032, .inl (upd x.1 c (nI rd)))), (p 3, .inl (cI, 4032, .inl (upd x.2.1 c why))), (p 4, .inl (cI, 4032, .inl (upd x.2.2.1 c (nI fi)))), (p 5, .inl (cI, 4032, .inl x.2.2.2.1))] rfl dX4_give_154 ?_
            refine z_aload_n (pc := 155) hC 2 dX4_give_155 rfl ?_
            refine z_get (pc := 156) (C := RX4) (T := TX4) (N := 16) hC hinX4 0 rfl rfl 7 (by decide) (by decide +kernel) rfl dX4_give_156 ?_
            refine z_iload_n (pc := 159) hC 3 dX4_give_159 rfl ?_
            refine z_iload (pc := 160) hC 6 dX4_give_160 rfl ?_
            refine z_iast (pc := 162) hC 4 0 rfl rfl (by omega) (by decide) [(p 0, .inr (5, [.int (nI n), .ref (p 1), .int (nI cnt), .int (bI (kn)), .ref (p 2), .ref (p 3), .ref (p 4), .ref (p 5), .int (nI rd), .int (x.2.2.2.2 + (nI 1)), .ref (p 6), .int (nI fo), .ref (p 7), .int (nI ps), .int th, .ref (p 8)])), (p 2, .inl (cI, 4032, .inl (upd x.1 c (nI rd)))), (p 3, .inl (cI, 4032, .inl (upd x.2.1 c why))), (p 4, .inl (cI, 4032, .inl (upd x.2.2.1 c (nI fi)))), (p 5, .inl (cI, 4032, .inl (upd x.2.2.2.1 c (nI js))))] rfl dX4_give_162 ?_
            exact z_vret (pc := 163) hC hQ hRT (by
    first
    | (rw [mG_fr (mOK_t h5 (by first | exact Or.inl h10 | exact Or.inr (by rw [tn_nI (by omega)]; exact h19)) h27) (Int32.not_le.mp h37)]; rfl)
    | (rw [mG_be (mOK_t h5 (by first | exact Or.inl h10 | exact Or.inr (by rw [tn_nI (by omega)]; exact h19)) h27) (fun q => absurd h37 (Int32.not_le.mpr q)) (decide_eq_true (Or.inl h59))]; rfl)
    | (rw [mG_be (mOK_t h5 (by first | exact Or.inl h10 | exact Or.inr (by rw [tn_nI (by omega)]; exact h19)) h27) (fun q => absurd h37 (Int32.not_le.mpr q)) (decide_eq_true (Or.inr ⟨h69, Or.inl h79⟩))]; rfl)
    | (rw [mG_be (mOK_t h5 (by first | exact Or.inl h10 | exact Or.inr (by rw [tn_nI (by omega)]; exact h19)) h27) (fun q => absurd h37 (Int32.not_le.mpr q)) (decide_eq_true (Or.inr ⟨h69, Or.inr ⟨h89, Int32.not_le.mp h100⟩⟩))]; rfl)) dX4_give_163
        · exact z_vret (pc := 30) hC hQ hRT (by first | rw [mG_no (mOK_1 h5)] | rw [mG_no (mOK_2 h10 (by rw [tn_nI (by omega)]; exact h19))] | rw [mG_no (mOK_3 h27)]) dX4_give_30
