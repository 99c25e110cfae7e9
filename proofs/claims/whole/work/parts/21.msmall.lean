/-! ElCompletionModel: the small methods -/

set_option maxRecDepth 100000 in
set_option maxHeartbeats 4000000 in
theorem c_X4_thrown (l : Launch) (D : va_G) (cI cJ cZ : ClassId) (p : Nat → Nat) (n : Nat) (cnt : Nat) (kn : Bool) (rd : Nat) (md : Int32) (fo : Nat) (ps : Nat) (th : Int32) : MI l yX4_thrown wsX4_thrown { frames := 0, cells := 0, slots := 0, locals := 0 } D (tyL cI cJ cZ) [.ref (p 0)] [(p 0, .inr (5, [.int (nI n), .ref (p 1), .int (nI cnt), .int (bI (kn)), .ref (p 2), .ref (p 3), .ref (p 4), .ref (p 5), .int (nI rd), .int md, .ref (p 6), .int (nI fo), .ref (p 7), .int (nI ps), .int th, .ref (p 8)]))] [(p 0, .inr (5, [.int (nI n), .ref (p 1), .int (nI cnt), .int (bI (kn)), .ref (p 2), .ref (p 3), .ref (p 4), .ref (p 5), .int (nI rd), .int md, .ref (p 6), .int (nI fo), .ref (p 7), .int (nI ps), .int th, .ref (p 8)]))] th := by
  refine metI_of (cc := cX4_thrown) (maxL := 1) (ret := (some .int)) (by decide +kernel) rfl (Nat.le_of_ble_eq_true rfl) ?_
  intro K hC hRm hNL hDis hLis hRT hIni hQ
  have hinX4 : ∀ w ∈ wsX40, w ∈ wsX4_thrown := by decide +kernel
  refine z_aload_n (pc := 0) hC 0 dX4_thrown_0 rfl ?_
  refine z_get (pc := 1) (C := RX4) (T := TX4) (N := 16) hC hinX4 0 rfl rfl 14 (by decide) (by decide +kernel) rfl dX4_thrown_1 ?_
  exact z_iret (pc := 4) hC hQ hRT (rfl) (rfl) (rfl) dX4_thrown_4

set_option maxRecDepth 100000 in
set_option maxHeartbeats 4000000 in
theorem c_X4_isClass (l : Launch) (D : va_G) (cI cJ cZ : ClassId) (p : Nat → Nat) (n : Nat) (cnt : Nat) (kn : Bool) (rd : Nat) (md : Int32) (fo : Nat) (ps : Nat) (th : Int32) (a0 : Int32) : MI l yX4_isClass wsX4_isClass { frames := 0, cells := 0, slots := 0, locals := 0 } D (tyL cI cJ cZ) [.ref (p 0), .int a0] [(p 0, .inr (5, [.int (nI n), .ref (p 1), .int (nI cnt), .int (bI (kn)), .ref (p 2), .ref (p 3), .ref (p 4), .ref (p 5), .int (nI rd), .int md, .ref (p 6), .int (nI fo), .ref (p 7), .int (nI ps), .int th, .ref (p 8)]))] [(p 0, .inr (5, [.int (nI n), .ref (p 1), .int (nI cnt), .int (bI (kn)), .ref (p 2), .ref (p 3), .ref (p 4), .ref (p 5), .int (nI rd), .int md, .ref (p 6), .int (nI fo), .ref (p 7), .int (nI ps), .int th, .ref (p 8)]))] (bI (isCl a0 (nI n))) := by
  refine metI_of (cc := cX4_isClass) (maxL := 2) (ret := (some .boolean)) (by decide +kernel) rfl (Nat.le_of_ble_eq_true rfl) ?_
  intro K hC hRm hNL hDis hLis hRT hIni hQ
  have hinX4 : ∀ w ∈ wsX40, w ∈ wsX4_isClass := by decide +kernel
  refine z_iload_n (pc := 0) hC 1 dX4_isClass_0 rfl ?_
  refine z_if_lt (pc := 1) (tgt := 16) hC dX4_isClass_1 (by decide) (fun h1 => ?_) (fun h1 => ?_)
  · refine z_iconst (pc := 16) (v := (nI 0)) hC dX4_isClass_16 (by decide +kernel) ?_
    exact z_iret (pc := 17) hC hQ hRT (by decide +kernel) (by first | exact bI_f (isCl_n h1) | exact bI_f (isCl_g h9) | exact bI_t (isCl_t h1 h9)) (rfl) dX4_isClass_17
  · refine z_iload_n (pc := 4) hC 1 dX4_isClass_4 rfl ?_
    refine z_aload_n (pc := 5) hC 0 dX4_isClass_5 rfl ?_
    refine z_get (pc := 6) (C := RX4) (T := TX4) (N := 16) hC hinX4 0 rfl rfl 0 (by decide) (by decide +kernel) rfl dX4_isClass_6 ?_
    refine z_icmp_ge (pc := 9) (tgt := 16) hC dX4_isClass_9 (by decide) (fun h9 => ?_) (fun h9 => ?_)
    · refine z_iconst (pc := 16) (v := (nI 0)) hC dX4_isClass_16 (by decide +kernel) ?_
      exact z_iret (pc := 17) hC hQ hRT (by decide +kernel) (by first | exact bI_f (isCl_n h1) | exact bI_f (isCl_g h9) | exact bI_t (isCl_t h1 h9)) (rfl) dX4_isClass_17
    · refine z_iconst (pc := 12) (v := (nI 1)) hC dX4_isClass_12 (by decide +kernel) ?_
      refine z_goto (pc := 13) (tgt := 17) hC dX4_isClass_13 (by decide) ?_
      exact z_iret (pc := 17) hC hQ hRT (by decide +kernel) (by first | exact bI_f (isCl_n h1) | exact bI_f (isCl_g h9) | exact bI_t (isCl_t h1 h9)) (rfl) dX4_isClass_17

set_option maxRecDepth 100000 in
set_option maxHeartbeats 4000000 in
theorem c_X4_isRole (l : Launch) (D : va_G) (cI cJ cZ : ClassId) (r0 : Int32) : MI l yX4_isRole wsX4_isRole { frames := 0, cells := 0, slots := 0, locals := 0 } D (tyL cI cJ cZ) [.int r0] [] [] (bI (isRo r0)) := by
  refine metI_of (cc := cX4_isRole) (maxL := 1) (ret := (some .boolean)) (by decide +kernel) rfl (Nat.le_of_ble_eq_true rfl) ?_
  intro K hC hRm hNL hDis hLis hRT hIni hQ
  refine z_iload_n (pc := 0) hC 0 dX4_isRole_0 rfl ?_
  refine z_if_lt (pc := 1) (tgt := 14) hC dX4_isRole_1 (by decide) (fun h1 => ?_) (fun h1 => ?_)
  · refine z_iconst (pc := 14) (v := (nI 0)) hC dX4_isRole_14 (by decide +kernel) ?_
    exact z_iret (pc := 15) hC hQ hRT (by decide +kernel) (by first | exact bI_t (by simp [isRo, *]) | exact bI_f (by simp [isRo, *])) (rfl) dX4_isRole_15
  · refine z_iload_n (pc := 4) hC 0 dX4_isRole_4 rfl ?_
    refine z_bipush (pc := 5) (v := (nI 6)) hC dX4_isRole_5 (by decide +kernel) ?_
    refine z_icmp_ge (pc := 7) (tgt := 14) hC dX4_isRole_7 (by decide) (fun h7 => ?_) (fun h7 => ?_)
    · refine z_iconst (pc := 14) (v := (nI 0)) hC dX4_isRole_14 (by decide +kernel) ?_
      exact z_iret (pc := 15) hC hQ hRT (by decide +kernel) (by first | exact bI_t (by simp [isRo, *]) | exact bI_f (by simp [isRo, *])) (rfl) dX4_isRole_15
    · refine z_iconst (pc := 10) (v := (nI 1)) hC dX4_isRole_10 (by decide +kernel) ?_
      refine z_goto (pc := 11) (tgt := 15) hC dX4_isRole_11 (by decide) ?_
      exact z_iret (pc := 15) hC hQ hRT (by decide +kernel) (by first | exact bI_t (by simp [isRo, *]) | exact bI_f (by simp [isRo, *])) (rfl) dX4_isRole_15

set_option maxRecDepth 100000 in
set_option maxHeartbeats 4000000 in
theorem c_X4_grow_ok (l : Launch) (D : va_G) (cI cJ cZ : ClassId) (p : Nat → Nat) (n : Nat) (cnt : Nat) (kn : Bool) (rd : Nat) (md : Int32) (fo : Nat) (ps : Nat) (th : Int32) (hn : n < 24) : MI l yX4_grow wsX4_grow { frames := 0, cells := 0, slots := 0, locals := 0 } D (tyL cI cJ cZ) [.ref (p 0)] [(p 0, .inr (5, [.int (nI n), .ref (p 1), .int (nI cnt), .int (bI (kn)), .ref (p 2), .ref (p 3), .ref (p 4), .ref (p 5), .int (nI rd), .int md, .ref (p 6), .int (nI fo), .ref (p 7), .int (nI ps), .int th, .ref (p 8)]))] [(p 0, .inr (5, [.int (nI (n + 1)), .ref (p 1), .int (nI cnt), .int (bI (false)), .ref (p 2), .ref (p 3), .ref (p 4), .ref (p 5), .int (nI rd), .int md, .ref (p 6), .int (nI fo), .ref (p 7), .int (nI ps), .int (nI 0), .ref (p 8)]))] (nI n) := by
  refine metI_of (cc := cX4_grow) (maxL := 1) (ret := (some .int)) (by decide +kernel) rfl (Nat.le_of_ble_eq_true rfl) ?_
  intro K hC hRm hNL hDis hLis hRT hIni hQ
  have hinX4 : ∀ w ∈ wsX40, w ∈ wsX4_grow := by decide +kernel
  refine z_aload_n (pc := 0) hC 0 dX4_grow_0 rfl ?_
  refine z_iconst (pc := 1) (v := (nI 0)) hC dX4_grow_1 (by decide +kernel) ?_
  refine z_put (pc := 2) (C := RX4) (T := TX4) (N := 16) hC hinX4 0 rfl rfl 14 (by decide) tyX4 tyX4_ok nmX4 (by decide +kernel) rfl (rfl) (rfl) (Nat.le_of_ble_eq_true rfl) [(p 0, .inr (5, [.int (nI n), .ref (p 1), .int (nI cnt), .int (bI (kn)), .ref (p 2), .ref (p 3), .ref (p 4), .ref (p 5), .int (nI rd), .int md, .ref (p 6), .int (nI fo), .ref (p 7), .int (nI ps), .int (nI 0), .ref (p 8)]))] rfl dX4_grow_2 ?_
  refine z_aload_n (pc := 5) hC 0 dX4_grow_5 rfl ?_
  refine z_get (pc := 6) (C := RX4) (T := TX4) (N := 16) hC hinX4 0 rfl rfl 0 (by decide) (by decide +kernel) rfl dX4_grow_6 ?_
  refine z_bipush (pc := 9) (v := (nI 24)) hC dX4_grow_9 (by decide +kernel) ?_
  refine z_ncmp_ne (pc := 11) (tgt := 17) hC dX4_grow_11 (by decide) (by omega) (by omega) (fun h11 => ?_) (fun h11 => absurd h11 (by omega))
  refine z_aload_n (pc := 17) hC 0 dX4_grow_17 rfl ?_
  refine z_dup (pc := 18) hC dX4_grow_18 rfl ?_
  refine z_get (pc := 19) (C := RX4) (T := TX4) (N := 16) hC hinX4 0 rfl rfl 0 (by decide) (by decide +kernel) rfl dX4_grow_19 ?_
  refine z_iconst (pc := 22) (v := (nI 1)) hC dX4_grow_22 (by decide +kernel) ?_
  refine z_iadd (pc := 23) (v := (nI (n + 1))) hC dX4_grow_23 (nI_add _ _) ?_
  refine z_put (pc := 24) (C := RX4) (T := TX4) (N := 16) hC hinX4 0 rfl rfl 0 (by decide) tyX4 tyX4_ok nmX4 (by decide +kernel) rfl (rfl) (rfl) (Nat.le_of_ble_eq_true rfl) [(p 0, .inr (5, [.int (nI (n + 1)), .ref (p 1), .int (nI cnt), .int (bI (kn)), .ref (p 2), .ref (p 3), .ref (p 4), .ref (p 5), .int (nI rd), .int md, .ref (p 6), .int (nI fo), .ref (p 7), .int (nI ps), .int (nI 0), .ref (p 8)]))] rfl dX4_grow_24 ?_
  refine z_aload_n (pc := 27) hC 0 dX4_grow_27 rfl ?_
  refine z_iconst (pc := 28) (v := (nI 0)) hC dX4_grow_28 (by decide +kernel) ?_
  refine z_topi (bI (false)) rfl ?_
  refine z_put (pc := 29) (C := RX4) (T := TX4) (N := 16) hC hinX4 0 rfl rfl 3 (by decide) tyX4 tyX4_ok nmX4 (by decide +kernel) rfl (by decide +kernel) (by decide +kernel) (Nat.le_of_ble_eq_true rfl) [(p 0, .inr (5, [.int (nI (n + 1)), .ref (p 1), .int (nI cnt), .int (bI (false)), .ref (p 2), .ref (p 3), .ref (p 4), .ref (p 5), .int (nI rd), .int md, .ref (p 6), .int (nI fo), .ref (p 7), .int (nI ps), .int (nI 0), .ref (p 8)]))] rfl dX4_grow_29 ?_
  refine z_aload_n (pc := 32) hC 0 dX4_grow_32 rfl ?_
  refine z_get (pc := 33) (C := RX4) (T := TX4) (N := 16) hC hinX4 0 rfl rfl 0 (by decide) (by decide +kernel) rfl dX4_grow_33 ?_
  refine z_iconst (pc := 36) (v := (nI 1)) hC dX4_grow_36 (by decide +kernel) ?_
  refine z_isub (pc := 37) (v := (nI ((n + 1) - 1))) hC dX4_grow_37 (pk_sub (by omega)) ?_
  exact z_iret (pc := 38) hC hQ hRT (rfl) (by rw [Nat.add_sub_cancel]) (rfl) dX4_grow_38

set_option maxRecDepth 100000 in
set_option maxHeartbeats 4000000 in
theorem c_X4_grow_full (l : Launch) (D : va_G) (cI cJ cZ : ClassId) (p : Nat → Nat) (n : Nat) (cnt : Nat) (kn : Bool) (rd : Nat) (md : Int32) (fo : Nat) (ps : Nat) (th : Int32) (hn : n = 24) : MI l yX4_grow wsX4_grow { frames := 0, cells := 0, slots := 0, locals := 0 } D (tyL cI cJ cZ) [.ref (p 0)] [(p 0, .inr (5, [.int (nI n), .ref (p 1), .int (nI cnt), .int (bI (kn)), .ref (p 2), .ref (p 3), .ref (p 4), .ref (p 5), .int (nI rd), .int md, .ref (p 6), .int (nI fo), .ref (p 7), .int (nI ps), .int th, .ref (p 8)]))] [(p 0, .inr (5, [.int (nI n), .ref (p 1), .int (nI cnt), .int (bI (kn)), .ref (p 2), .ref (p 3), .ref (p 4), .ref (p 5), .int (nI rd), .int md, .ref (p 6), .int (nI fo), .ref (p 7), .int (nI ps), .int (nI 0), .ref (p 8)]))] (-2) := by
  refine metI_of (cc := cX4_grow) (maxL := 1) (ret := (some .int)) (by decide +kernel) rfl (Nat.le_of_ble_eq_true rfl) ?_
  intro K hC hRm hNL hDis hLis hRT hIni hQ
  have hinX4 : ∀ w ∈ wsX40, w ∈ wsX4_grow := by decide +kernel
  refine z_aload_n (pc := 0) hC 0 dX4_grow_0 rfl ?_
  refine z_iconst (pc := 1) (v := (nI 0)) hC dX4_grow_1 (by decide +kernel) ?_
  refine z_put (pc := 2) (C := RX4) (T := TX4) (N := 16) hC hinX4 0 rfl rfl 14 (by decide) tyX4 tyX4_ok nmX4 (by decide +kernel) rfl (rfl) (rfl) (Nat.le_of_ble_eq_true rfl) [(p 0, .inr (5, [.int (nI n), .ref (p 1), .int (nI cnt), .int (bI (kn)), .ref (p 2), .ref (p 3), .ref (p 4), .ref (p 5), .int (nI rd), .int md, .ref (p 6), .int (nI fo), .ref (p 7), .int (nI ps), .int (nI 0), .ref (p 8)]))] rfl dX4_grow_2 ?_
  refine z_aload_n (pc := 5) hC 0 dX4_grow_5 rfl ?_
  refine z_get (pc := 6) (C := RX4) (T := TX4) (N := 16) hC hinX4 0 rfl rfl 0 (by decide) (by decide +kernel) rfl dX4_grow_6 ?_
  refine z_bipush (pc := 9) (v := (nI 24)) hC dX4_grow_9 (by decide +kernel) ?_
  refine z_ncmp_ne (pc := 11) (tgt := 17) hC dX4_grow_11 (by decide) (by omega) (by omega) (fun h11 => absurd h11 (by omega)) (fun h11 => ?_)
  refine z_bipush (pc := 14) (v := (-2)) hC dX4_grow_14 (by decide +kernel) ?_
  exact z_iret (pc := 16) hC hQ hRT (rfl) (rfl) (rfl) dX4_grow_16

set_option maxRecDepth 100000 in
set_option maxHeartbeats 4000000 in
theorem c_X4_wants_1 (l : Launch) (D : va_G) (cI cJ cZ : ClassId) : MI l yX4_wants wsX4_wants { frames := 0, cells := 0, slots := 0, locals := 0 } D (tyL cI cJ cZ) [.int (nI 1)] [] [] (nI 110) := by
  refine metI_of (cc := cX4_wants) (maxL := 1) (ret := (some .int)) (by decide +kernel) rfl (Nat.le_of_ble_eq_true rfl) ?_
  intro K hC hRm hNL hDis hLis hRT hIni hQ
  refine z_iload_n (pc := 0) hC 0 dX4_wants_0 rfl ?_
  refine z_tableIn (pc := 1) (x := (nI 1)) (off := 39) (tgt := 40) hC dX4_wants_1 (by decide +kernel) (by decide +kernel) (by decide +kernel) (by decide) ?_
  refine z_bipush (pc := 40) (v := (nI 110)) hC dX4_wants_40 (by decide +kernel) ?_
  exact z_iret (pc := 42) hC hQ hRT (rfl) (rfl) (rfl) dX4_wants_42

set_option maxRecDepth 100000 in
set_option maxHeartbeats 4000000 in
theorem c_X4_wants_2 (l : Launch) (D : va_G) (cI cJ cZ : ClassId) : MI l yX4_wants wsX4_wants { frames := 0, cells := 0, slots := 0, locals := 0 } D (tyL cI cJ cZ) [.int (nI 2)] [] [] (nI 111) := by
  refine metI_of (cc := cX4_wants) (maxL := 1) (ret := (some .int)) (by decide +kernel) rfl (Nat.le_of_ble_eq_true rfl) ?_
  intro K hC hRm hNL hDis hLis hRT hIni hQ
  refine z_iload_n (pc := 0) hC 0 dX4_wants_0 rfl ?_
  refine z_tableIn (pc := 1) (x := (nI 2)) (off := 42) (tgt := 43) hC dX4_wants_1 (by decide +kernel) (by decide +kernel) (by decide +kernel) (by decide) ?_
  refine z_bipush (pc := 43) (v := (nI 111)) hC dX4_wants_43 (by decide +kernel) ?_
  exact z_iret (pc := 45) hC hQ hRT (rfl) (rfl) (rfl) dX4_wants_45

set_option maxRecDepth 100000 in
set_option maxHeartbeats 4000000 in
theorem c_X4_wants_3 (l : Launch) (D : va_G) (cI cJ cZ : ClassId) : MI l yX4_wants wsX4_wants { frames := 0, cells := 0, slots := 0, locals := 0 } D (tyL cI cJ cZ) [.int (nI 3)] [] [] (nI 121) := by
  refine metI_of (cc := cX4_wants) (maxL := 1) (ret := (some .int)) (by decide +kernel) rfl (Nat.le_of_ble_eq_true rfl) ?_
  intro K hC hRm hNL hDis hLis hRT hIni hQ
  refine z_iload_n (pc := 0) hC 0 dX4_wants_0 rfl ?_
  refine z_tableIn (pc := 1) (x := (nI 3)) (off := 45) (tgt := 46) hC dX4_wants_1 (by decide +kernel) (by decide +kernel) (by decide +kernel) (by decide) ?_
  refine z_bipush (pc := 46) (v := (nI 121)) hC dX4_wants_46 (by decide +kernel) ?_
  exact z_iret (pc := 48) hC hQ hRT (rfl) (rfl) (rfl) dX4_wants_48

set_option maxRecDepth 100000 in
set_option maxHeartbeats 4000000 in
theorem c_X4_wants_4 (l : Launch) (D : va_G) (cI cJ cZ : ClassId) : MI l yX4_wants wsX4_wants { frames := 0, cells := 0, slots := 0, locals := 0 } D (tyL cI cJ cZ) [.int (nI 4)] [] [] (nI 211) := by
  refine metI_of (cc := cX4_wants) (maxL := 1) (ret := (some .int)) (by decide +kernel) rfl (Nat.le_of_ble_eq_true rfl) ?_
  intro K hC hRm hNL hDis hLis hRT hIni hQ
  refine z_iload_n (pc := 0) hC 0 dX4_wants_0 rfl ?_
  refine z_tableIn (pc := 1) (x := (nI 4)) (off := 48) (tgt := 49) hC dX4_wants_1 (by decide +kernel) (by decide +kernel) (by decide +kernel) (by decide) ?_
  refine z_sipush (pc := 49) (v := (nI 211)) hC dX4_wants_49 (by decide +kernel) ?_
  exact z_iret (pc := 52) hC hQ hRT (rfl) (rfl) (rfl) dX4_wants_52

set_option maxRecDepth 100000 in
set_option maxHeartbeats 4000000 in
theorem c_X4_wants_5 (l : Launch) (D : va_G) (cI cJ cZ : ClassId) : MI l yX4_wants wsX4_wants { frames := 0, cells := 0, slots := 0, locals := 0 } D (tyL cI cJ cZ) [.int (nI 5)] [] [] (nI 220) := by
  refine metI_of (cc := cX4_wants) (maxL := 1) (ret := (some .int)) (by decide +kernel) rfl (Nat.le_of_ble_eq_true rfl) ?_
  intro K hC hRm hNL hDis hLis hRT hIni hQ
  refine z_iload_n (pc := 0) hC 0 dX4_wants_0 rfl ?_
  refine z_tableIn (pc := 1) (x := (nI 5)) (off := 52) (tgt := 53) hC dX4_wants_1 (by decide +kernel) (by decide +kernel) (by decide +kernel) (by decide) ?_
  refine z_sipush (pc := 53) (v := (nI 220)) hC dX4_wants_53 (by decide +kernel) ?_
  exact z_iret (pc := 56) hC hQ hRT (rfl) (rfl) (rfl) dX4_wants_56

set_option maxRecDepth 100000 in
set_option maxHeartbeats 4000000 in
theorem c_X4_wants_6 (l : Launch) (D : va_G) (cI cJ cZ : ClassId) : MI l yX4_wants wsX4_wants { frames := 0, cells := 0, slots := 0, locals := 0 } D (tyL cI cJ cZ) [.int (nI 6)] [] [] (nI 222) := by
  refine metI_of (cc := cX4_wants) (maxL := 1) (ret := (some .int)) (by decide +kernel) rfl (Nat.le_of_ble_eq_true rfl) ?_
  intro K hC hRm hNL hDis hLis hRT hIni hQ
  refine z_iload_n (pc := 0) hC 0 dX4_wants_0 rfl ?_
  refine z_tableIn (pc := 1) (x := (nI 6)) (off := 56) (tgt := 57) hC dX4_wants_1 (by decide +kernel) (by decide +kernel) (by decide +kernel) (by decide) ?_
  refine z_sipush (pc := 57) (v := (nI 222)) hC dX4_wants_57 (by decide +kernel) ?_
  exact z_iret (pc := 60) hC hQ hRT (rfl) (rfl) (rfl) dX4_wants_60

set_option maxRecDepth 100000 in
set_option maxHeartbeats 4000000 in
theorem c_X4_wants_7 (l : Launch) (D : va_G) (cI cJ cZ : ClassId) : MI l yX4_wants wsX4_wants { frames := 0, cells := 0, slots := 0, locals := 0 } D (tyL cI cJ cZ) [.int (nI 7)] [] [] (nI 200) := by
  refine metI_of (cc := cX4_wants) (maxL := 1) (ret := (some .int)) (by decide +kernel) rfl (Nat.le_of_ble_eq_true rfl) ?_
  intro K hC hRm hNL hDis hLis hRT hIni hQ
  refine z_iload_n (pc := 0) hC 0 dX4_wants_0 rfl ?_
  refine z_tableOut (pc := 1) (x := (nI 7)) (tgt := 61) hC dX4_wants_1 (by decide +kernel) (by decide) ?_
  refine z_sipush (pc := 61) (v := (nI 200)) hC dX4_wants_61 (by decide +kernel) ?_
  exact z_iret (pc := 64) hC hQ hRT (rfl) (rfl) (rfl) dX4_wants_64

set_option maxRecDepth 100000 in
set_option maxHeartbeats 4000000 in
theorem c_X4_fits_0 (l : Launch) (D : va_G) (cI cJ cZ : ClassId) (p : Nat → Nat) (n : Nat) (cnt : Nat) (kn : Bool) (rd : Nat) (md : Int32) (fo : Nat) (ps : Nat) (th : Int32) (n0 : Int32) : MI l yX4_fits wsX4_fits { frames := 0, cells := 0, slots := 0, locals := 0 } D (tyL cI cJ cZ) [.ref (p 0), .int (nI 0), .int n0] [(p 0, .inr (5, [.int (nI n), .ref (p 1), .int (nI cnt), .int (bI (kn)), .ref (p 2), .ref (p 3), .ref (p 4), .ref (p 5), .int (nI rd), .int md, .ref (p 6), .int (nI fo), .ref (p 7), .int (nI ps), .int th, .ref (p 8)]))] [(p 0, .inr (5, [.int (nI n), .ref (p 1), .int (nI cnt), .int (bI (kn)), .ref (p 2), .ref (p 3), .ref (p 4), .ref (p 5), .int (nI rd), .int md, .ref (p 6), .int (nI fo), .ref (p 7), .int (nI ps), .int th, .ref (p 8)]))] (bI (true)) := by
  refine metI_of (cc := cX4_fits) (maxL := 3) (ret := (some .boolean)) (by decide +kernel) rfl (Nat.le_of_ble_eq_true rfl) ?_
  intro K hC hRm hNL hDis hLis hRT hIni hQ
  refine z_iload_n (pc := 0) hC 1 dX4_fits_0 rfl ?_
  refine z_nif_eq (pc := 1) (tgt := 27) hC dX4_fits_1 (by decide) (by omega) (fun h1 => ?_) (fun h1 => absurd h1 (by decide))
  refine z_iconst (pc := 27) (v := (nI 1)) hC dX4_fits_27 (by decide +kernel) ?_
  refine z_goto (pc := 28) (tgt := 32) hC dX4_fits_28 (by decide) ?_
  exact z_iret (pc := 32) hC hQ hRT (by decide +kernel) (by first | rfl | exact bI_f h14 | exact bI_t h14 | exact bI_f h24 | exact bI_t h24) (rfl) dX4_fits_32

set_option maxRecDepth 100000 in
set_option maxHeartbeats 4000000 in
theorem c_X4_fits_1 (l : Launch) (D : va_G) (cI cJ cZ : ClassId) (p : Nat → Nat) (n : Nat) (cnt : Nat) (kn : Bool) (rd : Nat) (md : Int32) (fo : Nat) (ps : Nat) (th : Int32) (n0 : Int32) : MI l yX4_fits wsX4_fits { frames := 1, cells := 0, slots := 0, locals := 21 } D (tyL cI cJ cZ) [.ref (p 0), .int (nI 1), .int n0] [(p 0, .inr (5, [.int (nI n), .ref (p 1), .int (nI cnt), .int (bI (kn)), .ref (p 2), .ref (p 3), .ref (p 4), .ref (p 5), .int (nI rd), .int md, .ref (p 6), .int (nI fo), .ref (p 7), .int (nI ps), .int th, .ref (p 8)]))] [(p 0, .inr (5, [.int (nI n), .ref (p 1), .int (nI cnt), .int (bI (kn)), .ref (p 2), .ref (p 3), .ref (p 4), .ref (p 5), .int (nI rd), .int md, .ref (p 6), .int (nI fo), .ref (p 7), .int (nI ps), .int th, .ref (p 8)]))] (bI (isCl n0 (nI n))) := by
  refine metI_of (cc := cX4_fits) (maxL := 3) (ret := (some .boolean)) (by decide +kernel) rfl (Nat.le_of_ble_eq_true rfl) ?_
  intro K hC hRm hNL hDis hLis hRT hIni hQ
  refine z_iload_n (pc := 0) hC 1 dX4_fits_0 rfl ?_
  refine z_nif_eq (pc := 1) (tgt := 27) hC dX4_fits_1 (by decide) (by omega) (fun h1 => absurd h1 (by decide)) (fun h1 => ?_)
  refine z_iload_n (pc := 4) hC 1 dX4_fits_4 rfl ?_
  refine z_iconst (pc := 5) (v := (nI 1)) hC dX4_fits_5 (by decide +kernel) ?_
  refine z_ncmp_ne (pc := 6) (tgt := 20) hC dX4_fits_6 (by decide) (by omega) (by omega) (fun h6 => absurd h6 (by decide)) (fun h6 => ?_)
  refine z_aload_n (pc := 9) hC 0 dX4_fits_9 rfl ?_
  refine z_iload_n (pc := 10) hC 2 dX4_fits_10 rfl ?_
  refine z_callV_I (pc := 11) (y := yX4_isClass) (wy := wsX4_isClass) (rm := { frames := 0, cells := 0, slots := 0, locals := 0 }) (As := [.int n0]) (rest := []) (na := 1) (C := RX4) (T := TX4) (NF := 16) (ci := 5) (wc := [(p 0, .inr (5, [.int (nI n), .ref (p 1), .int (nI cnt), .int (bI (kn)), .ref (p 2), .ref (p 3), .ref (p 4), .ref (p 5), .int (nI rd), .int md, .ref (p 6), .int (nI fo), .ref (p 7), .int (nI ps), .int th, .ref (p 8)]))]) (wc2 := [(p 0, .inr (5, [.int (nI n), .ref (p 1), .int (nI cnt), .int (bI (kn)), .ref (p 2), .ref (p 3), .ref (p 4), .ref (p 5), .int (nI rd), .int md, .ref (p 6), .int (nI fo), .ref (p 7), .int (nI ps), .int th, .ref (p 8)]))]) hC hRm hDis hLis 0 rfl rfl gX4_fits_X4_isClass ⟨rfl, by decide +kernel, by decide +kernel⟩ rfl ⟨by decide, by decide⟩ ⟨by decide, by decide⟩ rfl (Nat.le_of_ble_eq_true rfl) (by decide +kernel) (c_X4_isClass _ _ cI cJ cZ (p) (n) (cnt) (kn) (rd) (md) (fo) (ps) (th) (n0) ) [0] [] [0] [] rfl (by decide) rfl (by decide) (by decide) [(p 0, .inr (5, [.int (nI n), .ref (p 1), .int (nI cnt), .int (bI (kn)), .ref (p 2), .ref (p 3), .ref (p 4), .ref (p 5), .int (nI rd), .int md, .ref (p 6), .int (nI fo), .ref (p 7), .int (nI ps), .int th, .ref (p 8)]))] rfl (by decide) rfl dX4_fits_11 ?_
  refine z_bif_eq (pc := 14) (tgt := 31) hC dX4_fits_14 (by decide) (fun h14 => ?_) (fun h14 => ?_)
  · refine z_iconst (pc := 31) (v := (nI 0)) hC dX4_fits_31 (by decide +kernel) ?_
    exact z_iret (pc := 32) hC hQ hRT (by decide +kernel) (by first | rfl | exact bI_f h14 | exact bI_t h14 | exact bI_f h24 | exact bI_t h24) (rfl) dX4_fits_32
  · refine z_goto (pc := 17) (tgt := 27) hC dX4_fits_17 (by decide) ?_
    refine z_iconst (pc := 27) (v := (nI 1)) hC dX4_fits_27 (by decide +kernel) ?_
    refine z_goto (pc := 28) (tgt := 32) hC dX4_fits_28 (by decide) ?_
    exact z_iret (pc := 32) hC hQ hRT (by decide +kernel) (by first | rfl | exact bI_f h14 | exact bI_t h14 | exact bI_f h24 | exact bI_t h24) (rfl) dX4_fits_32

set_option maxRecDepth 100000 in
set_option maxHeartbeats 4000000 in
theorem c_X4_fits_2 (l : Launch) (D : va_G) (cI cJ cZ : ClassId) (p : Nat → Nat) (n : Nat) (cnt : Nat) (kn : Bool) (rd : Nat) (md : Int32) (fo : Nat) (ps : Nat) (th : Int32) (n0 : Int32) : MI l yX4_fits wsX4_fits { frames := 1, cells := 0, slots := 0, locals := 20 } D (tyL cI cJ cZ) [.ref (p 0), .int (nI 2), .int n0] [(p 0, .inr (5, [.int (nI n), .ref (p 1), .int (nI cnt), .int (bI (kn)), .ref (p 2), .ref (p 3), .ref (p 4), .ref (p 5), .int (nI rd), .int md, .ref (p 6), .int (nI fo), .ref (p 7), .int (nI ps), .int th, .ref (p 8)]))] [(p 0, .inr (5, [.int (nI n), .ref (p 1), .int (nI cnt), .int (bI (kn)), .ref (p 2), .ref (p 3), .ref (p 4), .ref (p 5), .int (nI rd), .int md, .ref (p 6), .int (nI fo), .ref (p 7), .int (nI ps), .int th, .ref (p 8)]))] (bI (isRo n0)) := by
  refine metI_of (cc := cX4_fits) (maxL := 3) (ret := (some .boolean)) (by decide +kernel) rfl (Nat.le_of_ble_eq_true rfl) ?_
  intro K hC hRm hNL hDis hLis hRT hIni hQ
  refine z_iload_n (pc := 0) hC 1 dX4_fits_0 rfl ?_
  refine z_nif_eq (pc := 1) (tgt := 27) hC dX4_fits_1 (by decide) (by omega) (fun h1 => absurd h1 (by decide)) (fun h1 => ?_)
  refine z_iload_n (pc := 4) hC 1 dX4_fits_4 rfl ?_
  refine z_iconst (pc := 5) (v := (nI 1)) hC dX4_fits_5 (by decide +kernel) ?_
  refine z_ncmp_ne (pc := 6) (tgt := 20) hC dX4_fits_6 (by decide) (by omega) (by omega) (fun h6 => ?_) (fun h6 => absurd h6 (by decide))
  refine z_iload_n (pc := 20) hC 2 dX4_fits_20 rfl ?_
  refine z_callS_I (pc := 21) (y := yX4_isRole) (wy := wsX4_isRole) (rm := { frames := 0, cells := 0, slots := 0, locals := 0 }) (As := [.int n0]) (rest := []) (na := 1)  (wc := []) (wc2 := []) hC hRm hDis hLis gX4_fits_X4_isRole ⟨by decide +kernel, by decide +kernel⟩ rfl ⟨by decide, by decide⟩ ⟨by decide, by decide⟩ rfl (Nat.le_of_ble_eq_true rfl) (by decide +kernel) (c_X4_isRole _ _ cI cJ cZ (n0) ) [] [0] [0] [(p 0, .inr (5, [.int (nI n), .ref (p 1), .int (nI cnt), .int (bI (kn)), .ref (p 2), .ref (p 3), .ref (p 4), .ref (p 5), .int (nI rd), .int md, .ref (p 6), .int (nI fo), .ref (p 7), .int (nI ps), .int th, .ref (p 8)]))] rfl (by decide) rfl (by decide) (by decide) [(p 0, .inr (5, [.int (nI n), .ref (p 1), .int (nI cnt), .int (bI (kn)), .ref (p 2), .ref (p 3), .ref (p 4), .ref (p 5), .int (nI rd), .int md, .ref (p 6), .int (nI fo), .ref (p 7), .int (nI ps), .int th, .ref (p 8)]))] rfl (by decide) rfl dX4_fits_21 ?_
  refine z_bif_eq (pc := 24) (tgt := 31) hC dX4_fits_24 (by decide) (fun h24 => ?_) (fun h24 => ?_)
  · refine z_iconst (pc := 31) (v := (nI 0)) hC dX4_fits_31 (by decide +kernel) ?_
    exact z_iret (pc := 32) hC hQ hRT (by decide +kernel) (by first | rfl | exact bI_f h14 | exact bI_t h14 | exact bI_f h24 | exact bI_t h24) (rfl) dX4_fits_32
  · refine z_iconst (pc := 27) (v := (nI 1)) hC dX4_fits_27 (by decide +kernel) ?_
    refine z_goto (pc := 28) (tgt := 32) hC dX4_fits_28 (by decide) ?_
    exact z_iret (pc := 32) hC hQ hRT (by decide +kernel) (by first | rfl | exact bI_f h14 | exact bI_t h14 | exact bI_f h24 | exact bI_t h24) (rfl) dX4_fits_32

set_option maxRecDepth 100000 in
set_option maxHeartbeats 4000000 in
theorem c_X4_axiom_bad_1 (l : Launch) (D : va_G) (cI cJ cZ : ClassId) (p : Nat → Nat) (n : Nat) (cnt : Nat) (kn : Bool) (rd : Nat) (md : Int32) (fo : Nat) (ps : Nat) (th : Int32) (Ax : Nat → Int32) (a0 : Int32) (b0 : Int32) (c0 : Int32) (hi : isAx n (nI 1) a0 b0 c0 = false) : MI l yX4_axiom wsX4_axiom { frames := 2, cells := 0, slots := 0, locals := 43 } D (tyL cI cJ cZ) [.ref (p 0), .int (nI 1), .int a0, .int b0, .int c0] [(p 0, .inr (5, [.int (nI n), .ref (p 1), .int (nI cnt), .int (bI (kn)), .ref (p 2), .ref (p 3), .ref (p 4), .ref (p 5), .int (nI rd), .int md, .ref (p 6), .int (nI fo), .ref (p 7), .int (nI ps), .int th, .ref (p 8)])), (p 1, .inl (cI, 320, .inl Ax))] [(p 0, .inr (5, [.int (nI n), .ref (p 1), .int (nI cnt), .int (bI (kn)), .ref (p 2), .ref (p 3), .ref (p 4), .ref (p 5), .int (nI rd), .int md, .ref (p 6), .int (nI fo), .ref (p 7), .int (nI ps), .int (nI 0), .ref (p 8)])), (p 1, .inl (cI, 320, .inl Ax))] (-1) := by
  refine metI_of (cc := cX4_axiom) (maxL := 6) (ret := (some .int)) (by decide +kernel) rfl (Nat.le_of_ble_eq_true rfl) ?_
  intro K hC hRm hNL hDis hLis hRT hIni hQ
  have hinX4 : ∀ w ∈ wsX40, w ∈ wsX4_axiom := by decide +kernel
  refine z_aload_n (pc := 0) hC 0 dX4_axiom_0 rfl ?_
  refine z_iconst (pc := 1) (v := (nI 0)) hC dX4_axiom_1 (by decide +kernel) ?_
  refine z_put (pc := 2) (C := RX4) (T := TX4) (N := 16) hC hinX4 0 rfl rfl 14 (by decide) tyX4 tyX4_ok nmX4 (by decide +kernel) rfl (rfl) (rfl) (Nat.le_of_ble_eq_true rfl) [(p 0, .inr (5, [.int (nI n), .ref (p 1), .int (nI cnt), .int (bI (kn)), .ref (p 2), .ref (p 3), .ref (p 4), .ref (p 5), .int (nI rd), .int md, .ref (p 6), .int (nI fo), .ref (p 7), .int (nI ps), .int (nI 0), .ref (p 8)])), (p 1, .inl (cI, 320, .inl Ax))] rfl dX4_axiom_2 ?_
  refine z_iload_n (pc := 5) hC 1 dX4_axiom_5 rfl ?_
  refine z_iconst (pc := 6) (v := (nI 1)) hC dX4_axiom_6 (by decide +kernel) ?_
  refine z_ncmp_lt (pc := 7) (tgt := 16) hC dX4_axiom_7 (by decide) (by omega) (by omega) (fun h7 => absurd h7 (by decide)) (fun h7 => ?_)
  refine z_iload_n (pc := 10) hC 1 dX4_axiom_10 rfl ?_
  refine z_bipush (pc := 11) (v := (nI 7)) hC dX4_axiom_11 (by decide +kernel) ?_
  refine z_ncmp_le (pc := 13) (tgt := 18) hC dX4_axiom_13 (by decide) (by omega) (by omega) (fun h13 => ?_) (fun h13 => absurd h13 (by decide))
  refine z_iload_n (pc := 18) hC 1 dX4_axiom_18 rfl ?_
  refine z_callS_I (pc := 19) (y := yX4_wants) (wy := wsX4_wants) (rm := { frames := 0, cells := 0, slots := 0, locals := 0 }) (As := [.int (nI 1)]) (rest := []) (na := 1)  (wc := []) (wc2 := []) hC hRm hDis hLis gX4_axiom_X4_wants ⟨by decide +kernel, by decide +kernel⟩ rfl ⟨by decide, by decide⟩ ⟨by decide, by decide⟩ rfl (Nat.le_of_ble_eq_true rfl) (by decide +kernel) (c_X4_wants_1 _ _ cI cJ cZ  ) [] [0, 1] [0, 1] [(p 0, .inr (5, [.int (nI n), .ref (p 1), .int (nI cnt), .int (bI (kn)), .ref (p 2), .ref (p 3), .ref (p 4), .ref (p 5), .int (nI rd), .int md, .ref (p 6), .int (nI fo), .ref (p 7), .int (nI ps), .int (nI 0), .ref (p 8)])), (p 1, .inl (cI, 320, .inl Ax))] rfl (by decide) rfl (by decide) (by decide) [(p 0, .inr (5, [.int (nI n), .ref (p 1), .int (nI cnt), .int (bI (kn)), .ref (p 2), .ref (p 3), .ref (p 4), .ref (p 5), .int (nI rd), .int md, .ref (p 6), .int (nI fo), .ref (p 7), .int (nI ps), .int (nI 0), .ref (p 8)])), (p 1, .inl (cI, 320, .inl Ax))] rfl (by decide) rfl dX4_axiom_19 ?_
  refine z_istore (pc := 22) hC hNL [(5, .int (nI 110)), (0, .ref (p 0)), (1, .int (nI 1)), (2, .int a0), (3, .int b0), (4, .int c0)] dX4_axiom_22 (by decide) rfl ?_
  refine z_aload_n (pc := 24) hC 1 dX4_axiom_24 rfl ?_
  refine z_iload (pc := 25) hC 0 dX4_axiom_25 rfl ?_
  refine z_bipush (pc := 27) (v := (nI 100)) hC dX4_axiom_27 (by decide +kernel) ?_
  refine z_idiv (pc := 29) (v := (nI 1)) hC dX4_axiom_29 (by decide +kernel) (by decide +kernel) ?_
  refine z_iload_n (pc := 30) hC 3 dX4_axiom_30 rfl ?_
  refine z_callV_I (pc := 31) (y := yX4_fits) (wy := wsX4_fits) (rm := { frames := 1, cells := 0, slots := 0, locals := 21 }) (As := [.int (nI 1), .int a0]) (rest := []) (na := 2) (C := RX4) (T := TX4) (NF := 16) (ci := 5) (wc := [(p 0, .inr (5, [.int (nI n), .ref (p 1), .int (nI cnt), .int (bI (kn)), .ref (p 2), .ref (p 3), .ref (p 4), .ref (p 5), .int (nI rd), .int md, .ref (p 6), .int (nI fo), .ref (p 7), .int (nI ps), .int (nI 0), .ref (p 8)]))]) (wc2 := [(p 0, .inr (5, [.int (nI n), .ref (p 1), .int (nI cnt), .int (bI (kn)), .ref (p 2), .ref (p 3), .ref (p 4), .ref (p 5), .int (nI rd), .int md, .ref (p 6), .int (nI fo), .ref (p 7), .int (nI ps), .int (nI 0), .ref (p 8)]))]) hC hRm hDis hLis 0 rfl rfl gX4_axiom_X4_fits ⟨rfl, by decide +kernel, by decide +kernel⟩ rfl ⟨by decide, by decide⟩ ⟨by decide, by decide⟩ rfl (Nat.le_of_ble_eq_true rfl) (by decide +kernel) (c_X4_fits_1 _ _ cI cJ cZ (p) (n) (cnt) (kn) (rd) (md) (fo) (ps) (nI 0) (a0) ) [0] [1] [1, 0] [(p 1, .inl (cI, 320, .inl Ax))] rfl (by decide) rfl (by decide) (by decide) [(p 0, .inr (5, [.int (nI n), .ref (p 1), .int (nI cnt), .int (bI (kn)), .ref (p 2), .ref (p 3), .ref (p 4), .ref (p 5), .int (nI rd), .int md, .ref (p 6), .int (nI fo), .ref (p 7), .int (nI ps), .int (nI 0), .ref (p 8)])), (p 1, .inl (cI, 320, .inl Ax))] rfl (by decide) rfl dX4_axiom_31 ?_
  refine z_bif_eq (pc := 34) (tgt := 67) hC dX4_axiom_34 (by decide) (fun h34 => ?_) (fun h34 => ?_)
  · refine z_iconst (pc := 67) (v := (-1)) hC dX4_axiom_67 (by decide +kernel) ?_
    exact z_iret (pc := 68) hC hQ hRT (rfl) (rfl) (rfl) dX4_axiom_68
  · refine z_aload_n (pc := 37) hC 1 dX4_axiom_37 rfl ?_
    refine z_iload (pc := 38) hC 0 dX4_axiom_38 rfl ?_
    refine z_bipush (pc := 40) (v := (nI 10)) hC dX4_axiom_40 (by decide +kernel) ?_
    refine z_idiv (pc := 42) (v := (nI 11)) hC dX4_axiom_42 (by decide +kernel) (by decide +kernel) ?_
    refine z_bipush (pc := 43) (v := (nI 10)) hC dX4_axiom_43 (by decide +kernel) ?_
    refine z_irem (pc := 45) (v := (nI 1)) hC dX4_axiom_45 (by decide +kernel) (by decide +kernel) ?_
    refine z_iload_n (pc := 46) hC 4 dX4_axiom_46 rfl ?_
    refine z_callV_I (pc := 47) (y := yX4_fits) (wy := wsX4_fits) (rm := { frames := 1, cells := 0, slots := 0, locals := 21 }) (As := [.int (nI 1), .int b0]) (rest := []) (na := 2) (C := RX4) (T := TX4) (NF := 16) (ci := 5) (wc := [(p 0, .inr (5, [.int (nI n), .ref (p 1), .int (nI cnt), .int (bI (kn)), .ref (p 2), .ref (p 3), .ref (p 4), .ref (p 5), .int (nI rd), .int md, .ref (p 6), .int (nI fo), .ref (p 7), .int (nI ps), .int (nI 0), .ref (p 8)]))]) (wc2 := [(p 0, .inr (5, [.int (nI n), .ref (p 1), .int (nI cnt), .int (bI (kn)), .ref (p 2), .ref (p 3), .ref (p 4), .ref (p 5), .int (nI rd), .int md, .ref (p 6), .int (nI fo), .ref (p 7), .int (nI ps), .int (nI 0), .ref (p 8)]))]) hC hRm hDis hLis 0 rfl rfl gX4_axiom_X4_fits ⟨rfl, by decide +kernel, by decide +kernel⟩ rfl ⟨by decide, by decide⟩ ⟨by decide, by decide⟩ rfl (Nat.le_of_ble_eq_true rfl) (by decide +kernel) (c_X4_fits_1 _ _ cI cJ cZ (p) (n) (cnt) (kn) (rd) (md) (fo) (ps) (nI 0) (b0) ) [0] [1] [1, 0] [(p 1, .inl (cI, 320, .inl Ax))] rfl (by decide) rfl (by decide) (by decide) [(p 0, .inr (5, [.int (nI n), .ref (p 1), .int (nI cnt), .int (bI (kn)), .ref (p 2), .ref (p 3), .ref (p 4), .ref (p 5), .int (nI rd), .int md, .ref (p 6), .int (nI fo), .ref (p 7), .int (nI ps), .int (nI 0), .ref (p 8)])), (p 1, .inl (cI, 320, .inl Ax))] rfl (by decide) rfl dX4_axiom_47 ?_
    refine z_bif_eq (pc := 50) (tgt := 67) hC dX4_axiom_50 (by decide) (fun h50 => ?_) (fun h50 => absurd hi (by rw [isAx_1 rfl, h34, h50]; decide))
    refine z_iconst (pc := 67) (v := (-1)) hC dX4_axiom_67 (by decide +kernel) ?_
    exact z_iret (pc := 68) hC hQ hRT (rfl) (rfl) (rfl) dX4_axiom_68

set_option maxRecDepth 100000 in
set_option maxHeartbeats 4000000 in
theorem c_X4_axiom_full_1 (l : Launch) (D : va_G) (cI cJ cZ : ClassId) (p : Nat → Nat) (n : Nat) (cnt : Nat) (kn : Bool) (rd : Nat) (md : Int32) (fo : Nat) (ps : Nat) (th : Int32) (Ax : Nat → Int32) (a0 : Int32) (b0 : Int32) (c0 : Int32) (hi : isAx n (nI 1) a0 b0 c0 = true) (hc : cnt = 80) : MI l yX4_axiom wsX4_axiom { frames := 2, cells := 0, slots := 0, locals := 43 } D (tyL cI cJ cZ) [.ref (p 0), .int (nI 1), .int a0, .int b0, .int c0] [(p 0, .inr (5, [.int (nI n), .ref (p 1), .int (nI cnt), .int (bI (kn)), .ref (p 2), .ref (p 3), .ref (p 4), .ref (p 5), .int (nI rd), .int md, .ref (p 6), .int (nI fo), .ref (p 7), .int (nI ps), .int th, .ref (p 8)])), (p 1, .inl (cI, 320, .inl Ax))] [(p 0, .inr (5, [.int (nI n), .ref (p 1), .int (nI cnt), .int (bI (kn)), .ref (p 2), .ref (p 3), .ref (p 4), .ref (p 5), .int (nI rd), .int md, .ref (p 6), .int (nI fo), .ref (p 7), .int (nI ps), .int (nI 0), .ref (p 8)])), (p 1, .inl (cI, 320, .inl Ax))] (-2) := by
  refine metI_of (cc := cX4_axiom) (maxL := 6) (ret := (some .int)) (by decide +kernel) rfl (Nat.le_of_ble_eq_true rfl) ?_
  intro K hC hRm hNL hDis hLis hRT hIni hQ
  have hinX4 : ∀ w ∈ wsX40, w ∈ wsX4_axiom := by decide +kernel
  refine z_aload_n (pc := 0) hC 0 dX4_axiom_0 rfl ?_
  refine z_iconst (pc := 1) (v := (nI 0)) hC dX4_axiom_1 (by decide +kernel) ?_
  refine z_put (pc := 2) (C := RX4) (T := TX4) (N := 16) hC hinX4 0 rfl rfl 14 (by decide) tyX4 tyX4_ok nmX4 (by decide +kernel) rfl (rfl) (rfl) (Nat.le_of_ble_eq_true rfl) [(p 0, .inr (5, [.int (nI n), .ref (p 1), .int (nI cnt), .int (bI (kn)), .ref (p 2), .ref (p 3), .ref (p 4), .ref (p 5), .int (nI rd), .int md, .ref (p 6), .int (nI fo), .ref (p 7), .int (nI ps), .int (nI 0), .ref (p 8)])), (p 1, .inl (cI, 320, .inl Ax))] rfl dX4_axiom_2 ?_
  refine z_iload_n (pc := 5) hC 1 dX4_axiom_5 rfl ?_
  refine z_iconst (pc := 6) (v := (nI 1)) hC dX4_axiom_6 (by decide +kernel) ?_
  refine z_ncmp_lt (pc := 7) (tgt := 16) hC dX4_axiom_7 (by decide) (by omega) (by omega) (fun h7 => absurd h7 (by decide)) (fun h7 => ?_)
  refine z_iload_n (pc := 10) hC 1 dX4_axiom_10 rfl ?_
  refine z_bipush (pc := 11) (v := (nI 7)) hC dX4_axiom_11 (by decide +kernel) ?_
  refine z_ncmp_le (pc := 13) (tgt := 18) hC dX4_axiom_13 (by decide) (by omega) (by omega) (fun h13 => ?_) (fun h13 => absurd h13 (by decide))
  refine z_iload_n (pc := 18) hC 1 dX4_axiom_18 rfl ?_
  refine z_callS_I (pc := 19) (y := yX4_wants) (wy := wsX4_wants) (rm := { frames := 0, cells := 0, slots := 0, locals := 0 }) (As := [.int (nI 1)]) (rest := []) (na := 1)  (wc := []) (wc2 := []) hC hRm hDis hLis gX4_axiom_X4_wants ⟨by decide +kernel, by decide +kernel⟩ rfl ⟨by decide, by decide⟩ ⟨by decide, by decide⟩ rfl (Nat.le_of_ble_eq_true rfl) (by decide +kernel) (c_X4_wants_1 _ _ cI cJ cZ  ) [] [0, 1] [0, 1] [(p 0, .inr (5, [.int (nI n), .ref (p 1), .int (nI cnt), .int (bI (kn)), .ref (p 2), .ref (p 3), .ref (p 4), .ref (p 5), .int (nI rd), .int md, .ref (p 6), .int (nI fo), .ref (p 7), .int (nI ps), .int (nI 0), .ref (p 8)])), (p 1, .inl (cI, 320, .inl Ax))] rfl (by decide) rfl (by decide) (by decide) [(p 0, .inr (5, [.int (nI n), .ref (p 1), .int (nI cnt), .int (bI (kn)), .ref (p 2), .ref (p 3), .ref (p 4), .ref (p 5), .int (nI rd), .int md, .ref (p 6), .int (nI fo), .ref (p 7), .int (nI ps), .int (nI 0), .ref (p 8)])), (p 1, .inl (cI, 320, .inl Ax))] rfl (by decide) rfl dX4_axiom_19 ?_
  refine z_istore (pc := 22) hC hNL [(5, .int (nI 110)), (0, .ref (p 0)), (1, .int (nI 1)), (2, .int a0), (3, .int b0), (4, .int c0)] dX4_axiom_22 (by decide) rfl ?_
  refine z_aload_n (pc := 24) hC 1 dX4_axiom_24 rfl ?_
  refine z_iload (pc := 25) hC 0 dX4_axiom_25 rfl ?_
  refine z_bipush (pc := 27) (v := (nI 100)) hC dX4_axiom_27 (by decide +kernel) ?_
  refine z_idiv (pc := 29) (v := (nI 1)) hC dX4_axiom_29 (by decide +kernel) (by decide +kernel) ?_
  refine z_iload_n (pc := 30) hC 3 dX4_axiom_30 rfl ?_
  refine z_callV_I (pc := 31) (y := yX4_fits) (wy := wsX4_fits) (rm := { frames := 1, cells := 0, slots := 0, locals := 21 }) (As := [.int (nI 1), .int a0]) (rest := []) (na := 2) (C := RX4) (T := TX4) (NF := 16) (ci := 5) (wc := [(p 0, .inr (5, [.int (nI n), .ref (p 1), .int (nI cnt), .int (bI (kn)), .ref (p 2), .ref (p 3), .ref (p 4), .ref (p 5), .int (nI rd), .int md, .ref (p 6), .int (nI fo), .ref (p 7), .int (nI ps), .int (nI 0), .ref (p 8)]))]) (wc2 := [(p 0, .inr (5, [.int (nI n), .ref (p 1), .int (nI cnt), .int (bI (kn)), .ref (p 2), .ref (p 3), .ref (p 4), .ref (p 5), .int (nI rd), .int md, .ref (p 6), .int (nI fo), .ref (p 7), .int (nI ps), .int (nI 0), .ref (p 8)]))]) hC hRm hDis hLis 0 rfl rfl gX4_axiom_X4_fits ⟨rfl, by decide +kernel, by decide +kernel⟩ rfl ⟨by decide, by decide⟩ ⟨by decide, by decide⟩ rfl (Nat.le_of_ble_eq_true rfl) (by decide +kernel) (c_X4_fits_1 _ _ cI cJ cZ (p) (n) (cnt) (kn) (rd) (md) (fo) (ps) (nI 0) (a0) ) [0] [1] [1, 0] [(p 1, .inl (cI, 320, .inl Ax))] rfl (by decide) rfl (by decide) (by decide) [(p 0, .inr (5, [.int (nI n), .ref (p 1), .int (nI cnt), .int (bI (kn)), .ref (p 2), .ref (p 3), .ref (p 4), .ref (p 5), .int (nI rd), .int md, .ref (p 6), .int (nI fo), .ref (p 7), .int (nI ps), .int (nI 0), .ref (p 8)])), (p 1, .inl (cI, 320, .inl Ax))] rfl (by decide) rfl dX4_axiom_31 ?_
  refine z_bif_eq (pc := 34) (tgt := 67) hC dX4_axiom_34 (by decide) (fun h34 => absurd hi (by rw [isAx_1 rfl, h34]; simp)) (fun h34 => ?_)
  refine z_aload_n (pc := 37) hC 1 dX4_axiom_37 rfl ?_
  refine z_iload (pc := 38) hC 0 dX4_axiom_38 rfl ?_
  refine z_bipush (pc := 40) (v := (nI 10)) hC dX4_axiom_40 (by decide +kernel) ?_
  refine z_idiv (pc := 42) (v := (nI 11)) hC dX4_axiom_42 (by decide +kernel) (by decide +kernel) ?_
  refine z_bipush (pc := 43) (v := (nI 10)) hC dX4_axiom_43 (by decide +kernel) ?_
  refine z_irem (pc := 45) (v := (nI 1)) hC dX4_axiom_45 (by decide +kernel) (by decide +kernel) ?_
  refine z_iload_n (pc := 46) hC 4 dX4_axiom_46 rfl ?_
  refine z_callV_I (pc := 47) (y := yX4_fits) (wy := wsX4_fits) (rm := { frames := 1, cells := 0, slots := 0, locals := 21 }) (As := [.int (nI 1), .int b0]) (rest := []) (na := 2) (C := RX4) (T := TX4) (NF := 16) (ci := 5) (wc := [(p 0, .inr (5, [.int (nI n), .ref (p 1), .int (nI cnt), .int (bI (kn)), .ref (p 2), .ref (p 3), .ref (p 4), .ref (p 5), .int (nI rd), .int md, .ref (p 6), .int (nI fo), .ref (p 7), .int (nI ps), .int (nI 0), .ref (p 8)]))]) (wc2 := [(p 0, .inr (5, [.int (nI n), .ref (p 1), .int (nI cnt), .int (bI (kn)), .ref (p 2), .ref (p 3), .ref (p 4), .ref (p 5), .int (nI rd), .int md, .ref (p 6), .int (nI fo), .ref (p 7), .int (nI ps), .int (nI 0), .ref (p 8)]))]) hC hRm hDis hLis 0 rfl rfl gX4_axiom_X4_fits ⟨rfl, by decide +kernel, by decide +kernel⟩ rfl ⟨by decide, by decide⟩ ⟨by decide, by decide⟩ rfl (Nat.le_of_ble_eq_true rfl) (by decide +kernel) (c_X4_fits_1 _ _ cI cJ cZ (p) (n) (cnt) (kn) (rd) (md) (fo) (ps) (nI 0) (b0) ) [0] [1] [1, 0] [(p 1, .inl (cI, 320, .inl Ax))] rfl (by decide) rfl (by decide) (by decide) [(p 0, .inr (5, [.int (nI n), .ref (p 1), .int (nI cnt), .int (bI (kn)), .ref (p 2), .ref (p 3), .ref (p 4), .ref (p 5), .int (nI rd), .int md, .ref (p 6), .int (nI fo), .ref (p 7), .int (nI ps), .int (nI 0), .ref (p 8)])), (p 1, .inl (cI, 320, .inl Ax))] rfl (by decide) rfl dX4_axiom_47 ?_
  refine z_bif_eq (pc := 50) (tgt := 67) hC dX4_axiom_50 (by decide) (fun h50 => absurd hi (by rw [isAx_1 rfl, h34, h50]; simp)) (fun h50 => ?_)
  refine z_aload_n (pc := 53) hC 1 dX4_axiom_53 rfl ?_
  refine z_iload (pc := 54) hC 0 dX4_axiom_54 rfl ?_
  refine z_bipush (pc := 56) (v := (nI 10)) hC dX4_axiom_56 (by decide +kernel) ?_
  refine z_irem (pc := 58) (v := (nI 0)) hC dX4_axiom_58 (by decide +kernel) (by decide +kernel) ?_
  refine z_iload (pc := 59) hC 5 dX4_axiom_59 rfl ?_
  refine z_callV_I (pc := 61) (y := yX4_fits) (wy := wsX4_fits) (rm := { frames := 0, cells := 0, slots := 0, locals := 0 }) (As := [.int (nI 0), .int c0]) (rest := []) (na := 2) (C := RX4) (T := TX4) (NF := 16) (ci := 5) (wc := [(p 0, .inr (5, [.int (nI n), .ref (p 1), .int (nI cnt), .int (bI (kn)), .ref (p 2), .ref (p 3), .ref (p 4), .ref (p 5), .int (nI rd), .int md, .ref (p 6), .int (nI fo), .ref (p 7), .int (nI ps), .int (nI 0), .ref (p 8)]))]) (wc2 := [(p 0, .inr (5, [.int (nI n), .ref (p 1), .int (nI cnt), .int (bI (kn)), .ref (p 2), .ref (p 3), .ref (p 4), .ref (p 5), .int (nI rd), .int md, .ref (p 6), .int (nI fo), .ref (p 7), .int (nI ps), .int (nI 0), .ref (p 8)]))]) hC hRm hDis hLis 0 rfl rfl gX4_axiom_X4_fits ⟨rfl, by decide +kernel, by decide +kernel⟩ rfl ⟨by decide, by decide⟩ ⟨by decide, by decide⟩ rfl (Nat.le_of_ble_eq_true rfl) (by decide +kernel) (c_X4_fits_0 _ _ cI cJ cZ (p) (n) (cnt) (kn) (rd) (md) (fo) (ps) (nI 0) (c0) ) [0] [1] [1, 0] [(p 1, .inl (cI, 320, .inl Ax))] rfl (by decide) rfl (by decide) (by decide) [(p 0, .inr (5, [.int (nI n), .ref (p 1), .int (nI cnt), .int (bI (kn)), .ref (p 2), .ref (p 3), .ref (p 4), .ref (p 5), .int (nI rd), .int md, .ref (p 6), .int (nI fo), .ref (p 7), .int (nI ps), .int (nI 0), .ref (p 8)])), (p 1, .inl (cI, 320, .inl Ax))] rfl (by decide) rfl dX4_axiom_61 ?_
  refine z_bif_ne (pc := 64) (tgt := 69) hC dX4_axiom_64 (by decide) (fun h64 => ?_) (fun h64 => absurd h64 (by decide))
  refine z_aload_n (pc := 69) hC 1 dX4_axiom_69 rfl ?_
  refine z_get (pc := 70) (C := RX4) (T := TX4) (N := 16) hC hinX4 0 rfl rfl 2 (by decide) (by decide +kernel) rfl dX4_axiom_70 ?_
  refine z_bipush (pc := 73) (v := (nI 80)) hC dX4_axiom_73 (by decide +kernel) ?_
  refine z_ncmp_ne (pc := 75) (tgt := 81) hC dX4_axiom_75 (by decide) (by omega) (by omega) (fun h75 => absurd h75 (by omega)) (fun h75 => ?_)
  refine z_bipush (pc := 78) (v := (-2)) hC dX4_axiom_78 (by decide +kernel) ?_
  exact z_iret (pc := 80) hC hQ hRT (rfl) (rfl) (rfl) dX4_axiom_80

set_option maxRecDepth 100000 in
set_option maxHeartbeats 4000000 in
theorem c_X4_axiom_ok_1 (l : Launch) (D : va_G) (cI cJ cZ : ClassId) (p : Nat → Nat) (n : Nat) (cnt : Nat) (kn : Bool) (rd : Nat) (md : Int32) (fo : Nat) (ps : Nat) (th : Int32) (Ax : Nat → Int32) (a0 : Int32) (b0 : Int32) (c0 : Int32) (hi : isAx n (nI 1) a0 b0 c0 = true) (hc : cnt < 80) : MI l yX4_axiom wsX4_axiom { frames := 2, cells := 0, slots := 0, locals := 43 } D (tyL cI cJ cZ) [.ref (p 0), .int (nI 1), .int a0, .int b0, .int c0] [(p 0, .inr (5, [.int (nI n), .ref (p 1), .int (nI cnt), .int (bI (kn)), .ref (p 2), .ref (p 3), .ref (p 4), .ref (p 5), .int (nI rd), .int md, .ref (p 6), .int (nI fo), .ref (p 7), .int (nI ps), .int th, .ref (p 8)])), (p 1, .inl (cI, 320, .inl Ax))] [(p 0, .inr (5, [.int (nI n), .ref (p 1), .int (nI (cnt + 1)), .int (bI (false)), .ref (p 2), .ref (p 3), .ref (p 4), .ref (p 5), .int (nI rd), .int md, .ref (p 6), .int (nI fo), .ref (p 7), .int (nI ps), .int (nI 0), .ref (p 8)])), (p 1, .inl (cI, 320, .inl (upd (upd (upd (upd Ax (4 * cnt) (nI 1)) (4 * cnt + 1) a0) (4 * cnt + 2) b0) (4 * cnt + 3) c0)))] (nI cnt) := by
  refine metI_of (cc := cX4_axiom) (maxL := 6) (ret := (some .int)) (by decide +kernel) rfl (Nat.le_of_ble_eq_true rfl) ?_
  intro K hC hRm hNL hDis hLis hRT hIni hQ
  have hinX4 : ∀ w ∈ wsX40, w ∈ wsX4_axiom := by decide +kernel
  refine z_aload_n (pc := 0) hC 0 dX4_axiom_0 rfl ?_
  refine z_iconst (pc := 1) (v := (nI 0)) hC dX4_axiom_1 (by decide +kernel) ?_
  refine z_put (pc := 2) (C := RX4) (T := TX4) (N := 16) hC hinX4 0 rfl rfl 14 (by decide) tyX4 tyX4_ok nmX4 (by decide +kernel) rfl (rfl) (rfl) (Nat.le_of_ble_eq_true rfl) [(p 0, .inr (5, [.int (nI n), .ref (p 1), .int (nI cnt), .int (bI (kn)), .ref (p 2), .ref (p 3), .ref (p 4), .ref (p 5), .int (nI rd), .int md, .ref (p 6), .int (nI fo), .ref (p 7), .int (nI ps), .int (nI 0), .ref (p 8)])), (p 1, .inl (cI, 320, .inl Ax))] rfl dX4_axiom_2 ?_
  refine z_iload_n (pc := 5) hC 1 dX4_axiom_5 rfl ?_
  refine z_iconst (pc := 6) (v := (nI 1)) hC dX4_axiom_6 (by decide +kernel) ?_
  refine z_ncmp_lt (pc := 7) (tgt := 16) hC dX4_axiom_7 (by decide) (by omega) (by omega) (fun h7 => absurd h7 (by decide)) (fun h7 => ?_)
  refine z_iload_n (pc := 10) hC 1 dX4_axiom_10 rfl ?_
  refine z_bipush (pc := 11) (v := (nI 7)) hC dX4_axiom_11 (by decide +kernel) ?_
  refine z_ncmp_le (pc := 13) (tgt := 18) hC dX4_axiom_13 (by decide) (by omega) (by omega) (fun h13 => ?_) (fun h13 => absurd h13 (by decide))
  refine z_iload_n (pc := 18) hC 1 dX4_axiom_18 rfl ?_
  refine z_callS_I (pc := 19) (y := yX4_wants) (wy := wsX4_wants) (rm := { frames := 0, cells := 0, slots := 0, locals := 0 }) (As := [.int (nI 1)]) (rest := []) (na := 1)  (wc := []) (wc2 := []) hC hRm hDis hLis gX4_axiom_X4_wants ⟨by decide +kernel, by decide +kernel⟩ rfl ⟨by decide, by decide⟩ ⟨by decide, by decide⟩ rfl (Nat.le_of_ble_eq_true rfl) (by decide +kernel) (c_X4_wants_1 _ _ cI cJ cZ  ) [] [0, 1] [0, 1] [(p 0, .inr (5, [.int (nI n), .ref (p 1), .int (nI cnt), .int (bI (kn)), .ref (p 2), .ref (p 3), .ref (p 4), .ref (p 5), .int (nI rd), .int md, .ref (p 6), .int (nI fo), .ref (p 7), .int (nI ps), .int (nI 0), .ref (p 8)])), (p 1, .inl (cI, 320, .inl Ax))] rfl (by decide) rfl (by decide) (by decide) [(p 0, .inr (5, [.int (nI n), .ref (p 1), .int (nI cnt), .int (bI (kn)), .ref (p 2), .ref (p 3), .ref (p 4), .ref (p 5), .int (nI rd), .int md, .ref (p 6), .int (nI fo), .ref (p 7), .int (nI ps), .int (nI 0), .ref (p 8)])), (p 1, .inl (cI, 320, .inl Ax))] rfl (by decide) rfl dX4_axiom_19 ?_
  refine z_istore (pc := 22) hC hNL [(5, .int (nI 110)), (0, .ref (p 0)), (1, .int (nI 1)), (2, .int a0), (3, .int b0), (4, .int c0)] dX4_axiom_22 (by decide) rfl ?_
  refine z_aload_n (pc := 24) hC 1 dX4_axiom_24 rfl ?_
  refine z_iload (pc := 25) hC 0 dX4_axiom_25 rfl ?_
  refine z_bipush (pc := 27) (v := (nI 100)) hC dX4_axiom_27 (by decide +kernel) ?_
  refine z_idiv (pc := 29) (v := (nI 1)) hC dX4_axiom_29 (by decide +kernel) (by decide +kernel) ?_
  refine z_iload_n (pc := 30) hC 3 dX4_axiom_30 rfl ?_
  refine z_callV_I (pc := 31) (y := yX4_fits) (wy := wsX4_fits) (rm := { frames := 1, cells := 0, slots := 0, locals := 21 }) (As := [.int (nI 1), .int a0]) (rest := []) (na := 2) (C := RX4) (T := TX4) (NF := 16) (ci := 5) (wc := [(p 0, .inr (5, [.int (nI n), .ref (p 1), .int (nI cnt), .int (bI (kn)), .ref (p 2), .ref (p 3), .ref (p 4), .ref (p 5), .int (nI rd), .int md, .ref (p 6), .int (nI fo), .ref (p 7), .int (nI ps), .int (nI 0), .ref (p 8)]))]) (wc2 := [(p 0, .inr (5, [.int (nI n), .ref (p 1), .int (nI cnt), .int (bI (kn)), .ref (p 2), .ref (p 3), .ref (p 4), .ref (p 5), .int (nI rd), .int md, .ref (p 6), .int (nI fo), .ref (p 7), .int (nI ps), .int (nI 0), .ref (p 8)]))]) hC hRm hDis hLis 0 rfl rfl gX4_axiom_X4_fits ⟨rfl, by decide +kernel, by decide +kernel⟩ rfl ⟨by decide, by decide⟩ ⟨by decide, by decide⟩ rfl (Nat.le_of_ble_eq_true rfl) (by decide +kernel) (c_X4_fits_1 _ _ cI cJ cZ (p) (n) (cnt) (kn) (rd) (md) (fo) (ps) (nI 0) (a0) ) [0] [1] [1, 0] [(p 1, .inl (cI, 320, .inl Ax))] rfl (by decide) rfl (by decide) (by decide) [(p 0, .inr (5, [.int (nI n), .ref (p 1), .int (nI cnt), .int (bI (kn)), .ref (p 2), .ref (p 3), .ref (p 4), .ref (p 5), .int (nI rd), .int md, .ref (p 6), .int (nI fo), .ref (p 7), .int (nI ps), .int (nI 0), .ref (p 8)])), (p 1, .inl (cI, 320, .inl Ax))] rfl (by decide) rfl dX4_axiom_31 ?_
  refine z_bif_eq (pc := 34) (tgt := 67) hC dX4_axiom_34 (by decide) (fun h34 => absurd hi (by rw [isAx_1 rfl, h34]; simp)) (fun h34 => ?_)
  refine z_aload_n (pc := 37) hC 1 dX4_axiom_37 rfl ?_
  refine z_iload (pc := 38) hC 0 dX4_axiom_38 rfl ?_
  refine z_bipush (pc := 40) (v := (nI 10)) hC dX4_axiom_40 (by decide +kernel) ?_
  refine z_idiv (pc := 42) (v := (nI 11)) hC dX4_axiom_42 (by decide +kernel) (by decide +kernel) ?_
  refine z_bipush (pc := 43) (v := (nI 10)) hC dX4_axiom_43 (by decide +kernel) ?_
  refine z_irem (pc := 45) (v := (nI 1)) hC dX4_axiom_45 (by decide +kernel) (by decide +kernel) ?_
  refine z_iload_n (pc := 46) hC 4 dX4_axiom_46 rfl ?_
  refine z_callV_I (pc := 47) (y := yX4_fits) (wy := wsX4_fits) (rm := { frames := 1, cells := 0, slots := 0, locals := 21 }) (As := [.int (nI 1), .int b0]) (rest := []) (na := 2) (C := RX4) (T := TX4) (NF := 16) (ci := 5) (wc := [(p 0, .inr (5, [.int (nI n), .ref (p 1), .int (nI cnt), .int (bI (kn)), .ref (p 2), .ref (p 3), .ref (p 4), .ref (p 5), .int (nI rd), .int md, .ref (p 6), .int (nI fo), .ref (p 7), .int (nI ps), .int (nI 0), .ref (p 8)]))]) (wc2 := [(p 0, .inr (5, [.int (nI n), .ref (p 1), .int (nI cnt), .int (bI (kn)), .ref (p 2), .ref (p 3), .ref (p 4), .ref (p 5), .int (nI rd), .int md, .ref (p 6), .int (nI fo), .ref (p 7), .int (nI ps), .int (nI 0), .ref (p 8)]))]) hC hRm hDis hLis 0 rfl rfl gX4_axiom_X4_fits ⟨rfl, by decide +kernel, by decide +kernel⟩ rfl ⟨by decide, by decide⟩ ⟨by decide, by decide⟩ rfl (Nat.le_of_ble_eq_true rfl) (by decide +kernel) (c_X4_fits_1 _ _ cI cJ cZ (p) (n) (cnt) (kn) (rd) (md) (fo) (ps) (nI 0) (b0) ) [0] [1] [1, 0] [(p 1, .inl (cI, 320, .inl Ax))] rfl (by decide) rfl (by decide) (by decide) [(p 0, .inr (5, [.int (nI n), .ref (p 1), .int (nI cnt), .int (bI (kn)), .ref (p 2), .ref (p 3), .ref (p 4), .ref (p 5), .int (nI rd), .int md, .ref (p 6), .int (nI fo), .ref (p 7), .int (nI ps), .int (nI 0), .ref (p 8)])), (p 1, .inl (cI, 320, .inl Ax))] rfl (by decide) rfl dX4_axiom_47 ?_
  refine z_bif_eq (pc := 50) (tgt := 67) hC dX4_axiom_50 (by decide) (fun h50 => absurd hi (by rw [isAx_1 rfl, h34, h50]; simp)) (fun h50 => ?_)
  refine z_aload_n (pc := 53) hC 1 dX4_axiom_53 rfl ?_
  refine z_iload (pc := 54) hC 0 dX4_axiom_54 rfl ?_
  refine z_bipush (pc := 56) (v := (nI 10)) hC dX4_axiom_56 (by decide +kernel) ?_
  refine z_irem (pc := 58) (v := (nI 0)) hC dX4_axiom_58 (by decide +kernel) (by decide +kernel) ?_
  refine z_iload (pc := 59) hC 5 dX4_axiom_59 rfl ?_
  refine z_callV_I (pc := 61) (y := yX4_fits) (wy := wsX4_fits) (rm := { frames := 0, cells := 0, slots := 0, locals := 0 }) (As := [.int (nI 0), .int c0]) (rest := []) (na := 2) (C := RX4) (T := TX4) (NF := 16) (ci := 5) (wc := [(p 0, .inr (5, [.int (nI n), .ref (p 1), .int (nI cnt), .int (bI (kn)), .ref (p 2), .ref (p 3), .ref (p 4), .ref (p 5), .int (nI rd), .int md, .ref (p 6), .int (nI fo), .ref (p 7), .int (nI ps), .int (nI 0), .ref (p 8)]))]) (wc2 := [(p 0, .inr (5, [.int (nI n), .ref (p 1), .int (nI cnt), .int (bI (kn)), .ref (p 2), .ref (p 3), .ref (p 4), .ref (p 5), .int (nI rd), .int md, .ref (p 6), .int (nI fo), .ref (p 7), .int (nI ps), .int (nI 0), .ref (p 8)]))]) hC hRm hDis hLis 0 rfl rfl gX4_axiom_X4_fits ⟨rfl, by decide +kernel, by decide +kernel⟩ rfl ⟨by decide, by decide⟩ ⟨by decide, by decide⟩ rfl (Nat.le_of_ble_eq_true rfl) (by decide +kernel) (c_X4_fits_0 _ _ cI cJ cZ (p) (n) (cnt) (kn) (rd) (md) (fo) (ps) (nI 0) (c0) ) [0] [1] [1, 0] [(p 1, .inl (cI, 320, .inl Ax))] rfl (by decide) rfl (by decide) (by decide) [(p 0, .inr (5, [.int (nI n), .ref (p 1), .int (nI cnt), .int (bI (kn)), .ref (p 2), .ref (p 3), .ref (p 4), .ref (p 5), .int (nI rd), .int md, .ref (p 6), .int (nI fo), .ref (p 7), .int (nI ps), .int (nI 0), .ref (p 8)])), (p 1, .inl (cI, 320, .inl Ax))] rfl (by decide) rfl dX4_axiom_61 ?_
  refine z_bif_ne (pc := 64) (tgt := 69) hC dX4_axiom_64 (by decide) (fun h64 => ?_) (fun h64 => absurd h64 (by decide))
  refine z_aload_n (pc := 69) hC 1 dX4_axiom_69 rfl ?_
  refine z_get (pc := 70) (C := RX4) (T := TX4) (N := 16) hC hinX4 0 rfl rfl 2 (by decide) (by decide +kernel) rfl dX4_axiom_70 ?_
  refine z_bipush (pc := 73) (v := (nI 80)) hC dX4_axiom_73 (by decide +kernel) ?_
  refine z_ncmp_ne (pc := 75) (tgt := 81) hC dX4_axiom_75 (by decide) (by omega) (by omega) (fun h75 => ?_) (fun h75 => absurd h75 (by omega))
  refine z_aload_n (pc := 81) hC 1 dX4_axiom_81 rfl ?_
  refine z_get (pc := 82) (C := RX4) (T := TX4) (N := 16) hC hinX4 0 rfl rfl 1 (by decide) (by decide +kernel) rfl dX4_axiom_82 ?_
  refine z_iconst (pc := 85) (v := (nI 4)) hC dX4_axiom_85 (by decide +kernel) ?_
  refine z_aload_n (pc := 86) hC 1 dX4_axiom_86 rfl ?_
  refine z_get (pc := 87) (C := RX4) (T := TX4) (N := 16) hC hinX4 0 rfl rfl 2 (by decide) (by decide +kernel) rfl dX4_axiom_87 ?_
  refine z_imul (pc := 90) (v := (nI (4 * cnt))) hC dX4_axiom_90 (pk_mul _ _) ?_
  refine z_iload_n (pc := 91) hC 2 dX4_axiom_91 rfl ?_
  refine z_iast (pc := 92) hC 1 0 rfl rfl (by omega) (by decide) [(p 0, .inr (5, [.int (nI n), .ref (p 1), .int (nI cnt), .int (bI (kn)), .ref (p 2), .ref (p 3), .ref (p 4), .ref (p 5), .int (nI rd), .int md, .ref (p 6), .int (nI fo), .ref (p 7), .int (nI ps), .int (nI 0), .ref (p 8)])), (p 1, .inl (cI, 320, .inl (upd Ax (4 * cnt) (nI 1))))] rfl dX4_axiom_92 ?_
  refine z_aload_n (pc := 93) hC 1 dX4_axiom_93 rfl ?_
  refine z_get (pc := 94) (C := RX4) (T := TX4) (N := 16) hC hinX4 0 rfl rfl 1 (by decide) (by decide +kernel) rfl dX4_axiom_94 ?_
  refine z_iconst (pc := 97) (v := (nI 4)) hC dX4_axiom_97 (by decide +kernel) ?_
  refine z_aload_n (pc := 98) hC 1 dX4_axiom_98 rfl ?_
  refine z_get (pc := 99) (C := RX4) (T := TX4) (N := 16) hC hinX4 0 rfl rfl 2 (by decide) (by decide +kernel) rfl dX4_axiom_99 ?_
  refine z_imul (pc := 102) (v := (nI (4 * cnt))) hC dX4_axiom_102 (pk_mul _ _) ?_
  refine z_iconst (pc := 103) (v := (nI 1)) hC dX4_axiom_103 (by decide +kernel) ?_
  refine z_iadd (pc := 104) (v := (nI (4 * cnt + 1))) hC dX4_axiom_104 (nI_add _ _) ?_
  refine z_iload_n (pc := 105) hC 3 dX4_axiom_105 rfl ?_
  refine z_iast (pc := 106) hC 1 0 rfl rfl (by omega) (by decide) [(p 0, .inr (5, [.int (nI n), .ref (p 1), .int (nI cnt), .int (bI (kn)), .ref (p 2), .ref (p 3), .ref (p 4), .ref (p 5), .int (nI rd), .int md, .ref (p 6), .int (nI fo), .ref (p 7), .int (nI ps), .int (nI 0), .ref (p 8)])), (p 1, .inl (cI, 320, .inl (upd (upd Ax (4 * cnt) (nI 1)) (4 * cnt + 1) a0)))] rfl dX4_axiom_106 ?_
  refine z_aload_n (pc := 107) hC 1 dX4_axiom_107 rfl ?_
  refine z_get (pc := 108) (C := RX4) (T := TX4) (N := 16) hC hinX4 0 rfl rfl 1 (by decide) (by decide +kernel) rfl dX4_axiom_108 ?_
  refine z_iconst (pc := 111) (v := (nI 4)) hC dX4_axiom_111 (by decide +kernel) ?_
  refine z_aload_n (pc := 112) hC 1 dX4_axiom_112 rfl ?_
  refine z_get (pc := 113) (C := RX4) (T := TX4) (N := 16) hC hinX4 0 rfl rfl 2 (by decide) (by decide +kernel) rfl dX4_axiom_113 ?_
  refine z_imul (pc := 116) (v := (nI (4 * cnt))) hC dX4_axiom_116 (pk_mul _ _) ?_
  refine z_iconst (pc := 117) (v := (nI 2)) hC dX4_axiom_117 (by decide +kernel) ?_
  refine z_iadd (pc := 118) (v := (nI (4 * cnt + 2))) hC dX4_axiom_118 (nI_add _ _) ?_
  refine z_iload_n (pc := 119) hC 4 dX4_axiom_119 rfl ?_
  refine z_iast (pc := 120) hC 1 0 rfl rfl (by omega) (by decide) [(p 0, .inr (5, [.int (nI n), .ref (p 1), .int (nI cnt), .int (bI (kn)), .ref (p 2), .ref (p 3), .ref (p 4), .ref (p 5), .int (nI rd), .int md, .ref (p 6), .int (nI fo), .ref (p 7), .int (nI ps), .int (nI 0), .ref (p 8)])), (p 1, .inl (cI, 320, .inl (upd (upd (upd Ax (4 * cnt) (nI 1)) (4 * cnt + 1) a0) (4 * cnt + 2) b0)))] rfl dX4_axiom_120 ?_
  refine z_aload_n (pc := 121) hC 1 dX4_axiom_121 rfl ?_
  refine z_get (pc := 122) (C := RX4) (T := TX4) (N := 16) hC hinX4 0 rfl rfl 1 (by decide) (by decide +kernel) rfl dX4_axiom_122 ?_
  refine z_iconst (pc := 125) (v := (nI 4)) hC dX4_axiom_125 (by decide +kernel) ?_
  refine z_aload_n (pc := 126) hC 1 dX4_axiom_126 rfl ?_
  refine z_get (pc := 127) (C := RX4) (T := TX4) (N := 16) hC hinX4 0 rfl rfl 2 (by decide) (by decide +kernel) rfl dX4_axiom_127 ?_
  refine z_imul (pc := 130) (v := (nI (4 * cnt))) hC dX4_axiom_130 (pk_mul _ _) ?_
  refine z_iconst (pc := 131) (v := (nI 3)) hC dX4_axiom_131 (by decide +kernel) ?_
  refine z_iadd (pc := 132) (v := (nI (4 * cnt + 3))) hC dX4_axiom_132 (nI_add _ _) ?_
  refine z_iload (pc := 133) hC 5 dX4_axiom_133 rfl ?_
  refine z_iast (pc := 135) hC 1 0 rfl rfl (by omega) (by decide) [(p 0, .inr (5, [.int (nI n), .ref (p 1), .int (nI cnt), .int (bI (kn)), .ref (p 2), .ref (p 3), .ref (p 4), .ref (p 5), .int (nI rd), .int md, .ref (p 6), .int (nI fo), .ref (p 7), .int (nI ps), .int (nI 0), .ref (p 8)])), (p 1, .inl (cI, 320, .inl (upd (upd (upd (upd Ax (4 * cnt) (nI 1)) (4 * cnt + 1) a0) (4 * cnt + 2) b0) (4 * cnt + 3) c0)))] rfl dX4_axiom_135 ?_
  refine z_aload_n (pc := 136) hC 1 dX4_axiom_136 rfl ?_
  refine z_dup (pc := 137) hC dX4_axiom_137 rfl ?_
  refine z_get (pc := 138) (C := RX4) (T := TX4) (N := 16) hC hinX4 0 rfl rfl 2 (by decide) (by decide +kernel) rfl dX4_axiom_138 ?_
  refine z_iconst (pc := 141) (v := (nI 1)) hC dX4_axiom_141 (by decide +kernel) ?_
  refine z_iadd (pc := 142) (v := (nI (cnt + 1))) hC dX4_axiom_142 (nI_add _ _) ?_
  refine z_put (pc := 143) (C := RX4) (T := TX4) (N := 16) hC hinX4 0 rfl rfl 2 (by decide) tyX4 tyX4_ok nmX4 (by decide +kernel) rfl (rfl) (rfl) (Nat.le_of_ble_eq_true rfl) [(p 0, .inr (5, [.int (nI n), .ref (p 1), .int (nI (cnt + 1)), .int (bI (kn)), .ref (p 2), .ref (p 3), .ref (p 4), .ref (p 5), .int (nI rd), .int md, .ref (p 6), .int (nI fo), .ref (p 7), .int (nI ps), .int (nI 0), .ref (p 8)])), (p 1, .inl (cI, 320, .inl (upd (upd (upd (upd Ax (4 * cnt) (nI 1)) (4 * cnt + 1) a0) (4 * cnt + 2) b0) (4 * cnt + 3) c0)))] rfl dX4_axiom_143 ?_
  refine z_aload_n (pc := 146) hC 1 dX4_axiom_146 rfl ?_
  refine z_iconst (pc := 147) (v := (nI 0)) hC dX4_axiom_147 (by decide +kernel) ?_
  refine z_topi (bI (false)) rfl ?_
  refine z_put (pc := 148) (C := RX4) (T := TX4) (N := 16) hC hinX4 0 rfl rfl 3 (by decide) tyX4 tyX4_ok nmX4 (by decide +kernel) rfl (by decide +kernel) (by decide +kernel) (Nat.le_of_ble_eq_true rfl) [(p 0, .inr (5, [.int (nI n), .ref (p 1), .int (nI (cnt + 1)), .int (bI (false)), .ref (p 2), .ref (p 3), .ref (p 4), .ref (p 5), .int (nI rd), .int md, .ref (p 6), .int (nI fo), .ref (p 7), .int (nI ps), .int (nI 0), .ref (p 8)])), (p 1, .inl (cI, 320, .inl (upd (upd (upd (upd Ax (4 * cnt) (nI 1)) (4 * cnt + 1) a0) (4 * cnt + 2) b0) (4 * cnt + 3) c0)))] rfl dX4_axiom_148 ?_
  refine z_aload_n (pc := 151) hC 1 dX4_axiom_151 rfl ?_
  refine z_get (pc := 152) (C := RX4) (T := TX4) (N := 16) hC hinX4 0 rfl rfl 2 (by decide) (by decide +kernel) rfl dX4_axiom_152 ?_
  refine z_iconst (pc := 155) (v := (nI 1)) hC dX4_axiom_155 (by decide +kernel) ?_
  refine z_isub (pc := 156) (v := (nI ((cnt + 1) - 1))) hC dX4_axiom_156 (pk_sub (by omega)) ?_
  exact z_iret (pc := 157) hC hQ hRT (rfl) (by rw [Nat.add_sub_cancel]) (rfl) dX4_axiom_157

set_option maxRecDepth 100000 in
set_option maxHeartbeats 4000000 in
theorem c_X4_axiom_bad_2 (l : Launch) (D : va_G) (cI cJ cZ : ClassId) (p : Nat → Nat) (n : Nat) (cnt : Nat) (kn : Bool) (rd : Nat) (md : Int32) (fo : Nat) (ps : Nat) (th : Int32) (Ax : Nat → Int32) (a0 : Int32) (b0 : Int32) (c0 : Int32) (hi : isAx n (nI 2) a0 b0 c0 = false) : MI l yX4_axiom wsX4_axiom { frames := 2, cells := 0, slots := 0, locals := 43 } D (tyL cI cJ cZ) [.ref (p 0), .int (nI 2), .int a0, .int b0, .int c0] [(p 0, .inr (5, [.int (nI n), .ref (p 1), .int (nI cnt), .int (bI (kn)), .ref (p 2), .ref (p 3), .ref (p 4), .ref (p 5), .int (nI rd), .int md, .ref (p 6), .int (nI fo), .ref (p 7), .int (nI ps), .int th, .ref (p 8)])), (p 1, .inl (cI, 320, .inl Ax))] [(p 0, .inr (5, [.int (nI n), .ref (p 1), .int (nI cnt), .int (bI (kn)), .ref (p 2), .ref (p 3), .ref (p 4), .ref (p 5), .int (nI rd), .int md, .ref (p 6), .int (nI fo), .ref (p 7), .int (nI ps), .int (nI 0), .ref (p 8)])), (p 1, .inl (cI, 320, .inl Ax))] (-1) := by
  refine metI_of (cc := cX4_axiom) (maxL := 6) (ret := (some .int)) (by decide +kernel) rfl (Nat.le_of_ble_eq_true rfl) ?_
  intro K hC hRm hNL hDis hLis hRT hIni hQ
  have hinX4 : ∀ w ∈ wsX40, w ∈ wsX4_axiom := by decide +kernel
  refine z_aload_n (pc := 0) hC 0 dX4_axiom_0 rfl ?_
  refine z_iconst (pc := 1) (v := (nI 0)) hC dX4_axiom_1 (by decide +kernel) ?_
  refine z_put (pc := 2) (C := RX4) (T := TX4) (N := 16) hC hinX4 0 rfl rfl 14 (by decide) tyX4 tyX4_ok nmX4 (by decide +kernel) rfl (rfl) (rfl) (Nat.le_of_ble_eq_true rfl) [(p 0, .inr (5, [.int (nI n), .ref (p 1), .int (nI cnt), .int (bI (kn)), .ref (p 2), .ref (p 3), .ref (p 4), .ref (p 5), .int (nI rd), .int md, .ref (p 6), .int (nI fo), .ref (p 7), .int (nI ps), .int (nI 0), .ref (p 8)])), (p 1, .inl (cI, 320, .inl Ax))] rfl dX4_axiom_2 ?_
  refine z_iload_n (pc := 5) hC 1 dX4_axiom_5 rfl ?_
  refine z_iconst (pc := 6) (v := (nI 1)) hC dX4_axiom_6 (by decide +kernel) ?_
  refine z_ncmp_lt (pc := 7) (tgt := 16) hC dX4_axiom_7 (by decide) (by omega) (by omega) (fun h7 => absurd h7 (by decide)) (fun h7 => ?_)
  refine z_iload_n (pc := 10) hC 1 dX4_axiom_10 rfl ?_
  refine z_bipush (pc := 11) (v := (nI 7)) hC dX4_axiom_11 (by decide +kernel) ?_
  refine z_ncmp_le (pc := 13) (tgt := 18) hC dX4_axiom_13 (by decide) (by omega) (by omega) (fun h13 => ?_) (fun h13 => absurd h13 (by decide))
  refine z_iload_n (pc := 18) hC 1 dX4_axiom_18 rfl ?_
  refine z_callS_I (pc := 19) (y := yX4_wants) (wy := wsX4_wants) (rm := { frames := 0, cells := 0, slots := 0, locals := 0 }) (As := [.int (nI 2)]) (rest := []) (na := 1)  (wc := []) (wc2 := []) hC hRm hDis hLis gX4_axiom_X4_wants ⟨by decide +kernel, by decide +kernel⟩ rfl ⟨by decide, by decide⟩ ⟨by decide, by decide⟩ rfl (Nat.le_of_ble_eq_true rfl) (by decide +kernel) (c_X4_wants_2 _ _ cI cJ cZ  ) [] [0, 1] [0, 1] [(p 0, .inr (5, [.int (nI n), .ref (p 1), .int (nI cnt), .int (bI (kn)), .ref (p 2), .ref (p 3), .ref (p 4), .ref (p 5), .int (nI rd), .int md, .ref (p 6), .int (nI fo), .ref (p 7), .int (nI ps), .int (nI 0), .ref (p 8)])), (p 1, .inl (cI, 320, .inl Ax))] rfl (by decide) rfl (by decide) (by decide) [(p 0, .inr (5, [.int (nI n), .ref (p 1), .int (nI cnt), .int (bI (kn)), .ref (p 2), .ref (p 3), .ref (p 4), .ref (p 5), .int (nI rd), .int md, .ref (p 6), .int (nI fo), .ref (p 7), .int (nI ps), .int (nI 0), .ref (p 8)])), (p 1, .inl (cI, 320, .inl Ax))] rfl (by decide) rfl dX4_axiom_19 ?_
  refine z_istore (pc := 22) hC hNL [(5, .int (nI 111)), (0, .ref (p 0)), (1, .int (nI 2)), (2, .int a0), (3, .int b0), (4, .int c0)] dX4_axiom_22 (by decide) rfl ?_
  refine z_aload_n (pc := 24) hC 1 dX4_axiom_24 rfl ?_
  refine z_iload (pc := 25) hC 0 dX4_axiom_25 rfl ?_
  refine z_bipush (pc := 27) (v := (nI 100)) hC dX4_axiom_27 (by decide +kernel) ?_
  refine z_idiv (pc := 29) (v := (nI 1)) hC dX4_axiom_29 (by decide +kernel) (by decide +kernel) ?_
  refine z_iload_n (pc := 30) hC 3 dX4_axiom_30 rfl ?_
  refine z_callV_I (pc := 31) (y := yX4_fits) (wy := wsX4_fits) (rm := { frames := 1, cells := 0, slots := 0, locals := 21 }) (As := [.int (nI 1), .int a0]) (rest := []) (na := 2) (C := RX4) (T := TX4) (NF := 16) (ci := 5) (wc := [(p 0, .inr (5, [.int (nI n), .ref (p 1), .int (nI cnt), .int (bI (kn)), .ref (p 2), .ref (p 3), .ref (p 4), .ref (p 5), .int (nI rd), .int md, .ref (p 6), .int (nI fo), .ref (p 7), .int (nI ps), .int (nI 0), .ref (p 8)]))]) (wc2 := [(p 0, .inr (5, [.int (nI n), .ref (p 1), .int (nI cnt), .int (bI (kn)), .ref (p 2), .ref (p 3), .ref (p 4), .ref (p 5), .int (nI rd), .int md, .ref (p 6), .int (nI fo), .ref (p 7), .int (nI ps), .int (nI 0), .ref (p 8)]))]) hC hRm hDis hLis 0 rfl rfl gX4_axiom_X4_fits ⟨rfl, by decide +kernel, by decide +kernel⟩ rfl ⟨by decide, by decide⟩ ⟨by decide, by decide⟩ rfl (Nat.le_of_ble_eq_true rfl) (by decide +kernel) (c_X4_fits_1 _ _ cI cJ cZ (p) (n) (cnt) (kn) (rd) (md) (fo) (ps) (nI 0) (a0) ) [0] [1] [1, 0] [(p 1, .inl (cI, 320, .inl Ax))] rfl (by decide) rfl (by decide) (by decide) [(p 0, .inr (5, [.int (nI n), .ref (p 1), .int (nI cnt), .int (bI (kn)), .ref (p 2), .ref (p 3), .ref (p 4), .ref (p 5), .int (nI rd), .int md, .ref (p 6), .int (nI fo), .ref (p 7), .int (nI ps), .int (nI 0), .ref (p 8)])), (p 1, .inl (cI, 320, .inl Ax))] rfl (by decide) rfl dX4_axiom_31 ?_
  refine z_bif_eq (pc := 34) (tgt := 67) hC dX4_axiom_34 (by decide) (fun h34 => ?_) (fun h34 => ?_)
  · refine z_iconst (pc := 67) (v := (-1)) hC dX4_axiom_67 (by decide +kernel) ?_
    exact z_iret (pc := 68) hC hQ hRT (rfl) (rfl) (rfl) dX4_axiom_68
  · refine z_aload_n (pc := 37) hC 1 dX4_axiom_37 rfl ?_
    refine z_iload (pc := 38) hC 0 dX4_axiom_38 rfl ?_
    refine z_bipush (pc := 40) (v := (nI 10)) hC dX4_axiom_40 (by decide +kernel) ?_
    refine z_idiv (pc := 42) (v := (nI 11)) hC dX4_axiom_42 (by decide +kernel) (by decide +kernel) ?_
    refine z_bipush (pc := 43) (v := (nI 10)) hC dX4_axiom_43 (by decide +kernel) ?_
    refine z_irem (pc := 45) (v := (nI 1)) hC dX4_axiom_45 (by decide +kernel) (by decide +kernel) ?_
    refine z_iload_n (pc := 46) hC 4 dX4_axiom_46 rfl ?_
    refine z_callV_I (pc := 47) (y := yX4_fits) (wy := wsX4_fits) (rm := { frames := 1, cells := 0, slots := 0, locals := 21 }) (As := [.int (nI 1), .int b0]) (rest := []) (na := 2) (C := RX4) (T := TX4) (NF := 16) (ci := 5) (wc := [(p 0, .inr (5, [.int (nI n), .ref (p 1), .int (nI cnt), .int (bI (kn)), .ref (p 2), .ref (p 3), .ref (p 4), .ref (p 5), .int (nI rd), .int md, .ref (p 6), .int (nI fo), .ref (p 7), .int (nI ps), .int (nI 0), .ref (p 8)]))]) (wc2 := [(p 0, .inr (5, [.int (nI n), .ref (p 1), .int (nI cnt), .int (bI (kn)), .ref (p 2), .ref (p 3), .ref (p 4), .ref (p 5), .int (nI rd), .int md, .ref (p 6), .int (nI fo), .ref (p 7), .int (nI ps), .int (nI 0), .ref (p 8)]))]) hC hRm hDis hLis 0 rfl rfl gX4_axiom_X4_fits ⟨rfl, by decide +kernel, by decide +kernel⟩ rfl ⟨by decide, by decide⟩ ⟨by decide, by decide⟩ rfl (Nat.le_of_ble_eq_true rfl) (by decide +kernel) (c_X4_fits_1 _ _ cI cJ cZ (p) (n) (cnt) (kn) (rd) (md) (fo) (ps) (nI 0) (b0) ) [0] [1] [1, 0] [(p 1, .inl (cI, 320, .inl Ax))] rfl (by decide) rfl (by decide) (by decide) [(p 0, .inr (5, [.int (nI n), .ref (p 1), .int (nI cnt), .int (bI (kn)), .ref (p 2), .ref (p 3), .ref (p 4), .ref (p 5), .int (nI rd), .int md, .ref (p 6), .int (nI fo), .ref (p 7), .int (nI ps), .int (nI 0), .ref (p 8)])), (p 1, .inl (cI, 320, .inl Ax))] rfl (by decide) rfl dX4_axiom_47 ?_
    refine z_bif_eq (pc := 50) (tgt := 67) hC dX4_axiom_50 (by decide) (fun h50 => ?_) (fun h50 => ?_)
    · refine z_iconst (pc := 67) (v := (-1)) hC dX4_axiom_67 (by decide +kernel) ?_
      exact z_iret (pc := 68) hC hQ hRT (rfl) (rfl) (rfl) dX4_axiom_68
    · refine z_aload_n (pc := 53) hC 1 dX4_axiom_53 rfl ?_
      refine z_iload (pc := 54) hC 0 dX4_axiom_54 rfl ?_
      refine z_bipush (pc := 56) (v := (nI 10)) hC dX4_axiom_56 (by decide +kernel) ?_
      refine z_irem (pc := 58) (v := (nI 1)) hC dX4_axiom_58 (by decide +kernel) (by decide +kernel) ?_
      refine z_iload (pc := 59) hC 5 dX4_axiom_59 rfl ?_
      refine z_callV_I (pc := 61) (y := yX4_fits) (wy := wsX4_fits) (rm := { frames := 1, cells := 0, slots := 0, locals := 21 }) (As := [.int (nI 1), .int c0]) (rest := []) (na := 2) (C := RX4) (T := TX4) (NF := 16) (ci := 5) (wc := [(p 0, .inr (5, [.int (nI n), .ref (p 1), .int (nI cnt), .int (bI (kn)), .ref (p 2), .ref (p 3), .ref (p 4), .ref (p 5), .int (nI rd), .int md, .ref (p 6), .int (nI fo), .ref (p 7), .int (nI ps), .int (nI 0), .ref (p 8)]))]) (wc2 := [(p 0, .inr (5, [.int (nI n), .ref (p 1), .int (nI cnt), .int (bI (kn)), .ref (p 2), .ref (p 3), .ref (p 4), .ref (p 5), .int (nI rd), .int md, .ref (p 6), .int (nI fo), .ref (p 7), .int (nI ps), .int (nI 0), .ref (p 8)]))]) hC hRm hDis hLis 0 rfl rfl gX4_axiom_X4_fits ⟨rfl, by decide +kernel, by decide +kernel⟩ rfl ⟨by decide, by decide⟩ ⟨by decide, by decide⟩ rfl (Nat.le_of_ble_eq_true rfl) (by decide +kernel) (c_X4_fits_1 _ _ cI cJ cZ (p) (n) (cnt) (kn) (rd) (md) (fo) (ps) (nI 0) (c0) ) [0] [1] [1, 0] [(p 1, .inl (cI, 320, .inl Ax))] rfl (by decide) rfl (by decide) (by decide) [(p 0, .inr (5, [.int (nI n), .ref (p 1), .int (nI cnt), .int (bI (kn)), .ref (p 2), .ref (p 3), .ref (p 4), .ref (p 5), .int (nI rd), .int md, .ref (p 6), .int (nI fo), .ref (p 7), .int (nI ps), .int (nI 0), .ref (p 8)])), (p 1, .inl (cI, 320, .inl Ax))] rfl (by decide) rfl dX4_axiom_61 ?_
      refine z_bif_ne (pc := 64) (tgt := 69) hC dX4_axiom_64 (by decide) (fun h64 => absurd hi (by rw [isAx_2 rfl, h34, h50, h64]; decide)) (fun h64 => ?_)
      refine z_iconst (pc := 67) (v := (-1)) hC dX4_axiom_67 (by decide +kernel) ?_
      exact z_iret (pc := 68) hC hQ hRT (rfl) (rfl) (rfl) dX4_axiom_68

set_option maxRecDepth 100000 in
set_option maxHeartbeats 4000000 in
theorem c_X4_axiom_full_2 (l : Launch) (D : va_G) (cI cJ cZ : ClassId) (p : Nat → Nat) (n : Nat) (cnt : Nat) (kn : Bool) (rd : Nat) (md : Int32) (fo : Nat) (ps : Nat) (th : Int32) (Ax : Nat → Int32) (a0 : Int32) (b0 : Int32) (c0 : Int32) (hi : isAx n (nI 2) a0 b0 c0 = true) (hc : cnt = 80) : MI l yX4_axiom wsX4_axiom { frames := 2, cells := 0, slots := 0, locals := 43 } D (tyL cI cJ cZ) [.ref (p 0), .int (nI 2), .int a0, .int b0, .int c0] [(p 0, .inr (5, [.int (nI n), .ref (p 1), .int (nI cnt), .int (bI (kn)), .ref (p 2), .ref (p 3), .ref (p 4), .ref (p 5), .int (nI rd), .int md, .ref (p 6), .int (nI fo), .ref (p 7), .int (nI ps), .int th, .ref (p 8)])), (p 1, .inl (cI, 320, .inl Ax))] [(p 0, .inr (5, [.int (nI n), .ref (p 1), .int (nI cnt), .int (bI (kn)), .ref (p 2), .ref (p 3), .ref (p 4), .ref (p 5), .int (nI rd), .int md, .ref (p 6), .int (nI fo), .ref (p 7), .int (nI ps), .int (nI 0), .ref (p 8)])), (p 1, .inl (cI, 320, .inl Ax))] (-2) := by
  refine metI_of (cc := cX4_axiom) (maxL := 6) (ret := (some .int)) (by decide +kernel) rfl (Nat.le_of_ble_eq_true rfl) ?_
  intro K hC hRm hNL hDis hLis hRT hIni hQ
  have hinX4 : ∀ w ∈ wsX40, w ∈ wsX4_axiom := by decide +kernel
  refine z_aload_n (pc := 0) hC 0 dX4_axiom_0 rfl ?_
  refine z_iconst (pc := 1) (v := (nI 0)) hC dX4_axiom_1 (by decide +kernel) ?_
  refine z_put (pc := 2) (C := RX4) (T := TX4) (N := 16) hC hinX4 0 rfl rfl 14 (by decide) tyX4 tyX4_ok nmX4 (by decide +kernel) rfl (rfl) (rfl) (Nat.le_of_ble_eq_true rfl) [(p 0, .inr (5, [.int (nI n), .ref (p 1), .int (nI cnt), .int (bI (kn)), .ref (p 2), .ref (p 3), .ref (p 4), .ref (p 5), .int (nI rd), .int md, .ref (p 6), .int (nI fo), .ref (p 7), .int (nI ps), .int (nI 0), .ref (p 8)])), (p 1, .inl (cI, 320, .inl Ax))] rfl dX4_axiom_2 ?_
  refine z_iload_n (pc := 5) hC 1 dX4_axiom_5 rfl ?_
  refine z_iconst (pc := 6) (v := (nI 1)) hC dX4_axiom_6 (by decide +kernel) ?_
  refine z_ncmp_lt (pc := 7) (tgt := 16) hC dX4_axiom_7 (by decide) (by omega) (by omega) (fun h7 => absurd h7 (by decide)) (fun h7 => ?_)
  refine z_iload_n (pc := 10) hC 1 dX4_axiom_10 rfl ?_
  refine z_bipush (pc := 11) (v := (nI 7)) hC dX4_axiom_11 (by decide +kernel) ?_
  refine z_ncmp_le (pc := 13) (tgt := 18) hC dX4_axiom_13 (by decide) (by omega) (by omega) (fun h13 => ?_) (fun h13 => absurd h13 (by decide))
  refine z_iload_n (pc := 18) hC 1 dX4_axiom_18 rfl ?_
  refine z_callS_I (pc := 19) (y := yX4_wants) (wy := wsX4_wants) (rm := { frames := 0, cells := 0, slots := 0, locals := 0 }) (As := [.int (nI 2)]) (rest := []) (na := 1)  (wc := []) (wc2 := []) hC hRm hDis hLis gX4_axiom_X4_wants ⟨by decide +kernel, by decide +kernel⟩ rfl ⟨by decide, by decide⟩ ⟨by decide, by decide⟩ rfl (Nat.le_of_ble_eq_true rfl) (by decide +kernel) (c_X4_wants_2 _ _ cI cJ cZ  ) [] [0, 1] [0, 1] [(p 0, .inr (5, [.int (nI n), .ref (p 1), .int (nI cnt), .int (bI (kn)), .ref (p 2), .ref (p 3), .ref (p 4), .ref (p 5), .int (nI rd), .int md, .ref (p 6), .int (nI fo), .ref (p 7), .int (nI ps), .int (nI 0), .ref (p 8)])), (p 1, .inl (cI, 320, .inl Ax))] rfl (by decide) rfl (by decide) (by decide) [(p 0, .inr (5, [.int (nI n), .ref (p 1), .int (nI cnt), .int (bI (kn)), .ref (p 2), .ref (p 3), .ref (p 4), .ref (p 5), .int (nI rd), .int md, .ref (p 6), .int (nI fo), .ref (p 7), .int (nI ps), .int (nI 0), .ref (p 8)])), (p 1, .inl (cI, 320, .inl Ax))] rfl (by decide) rfl dX4_axiom_19 ?_
  refine z_istore (pc := 22) hC hNL [(5, .int (nI 111)), (0, .ref (p 0)), (1, .int (nI 2)), (2, .int a0), (3, .int b0), (4, .int c0)] dX4_axiom_22 (by decide) rfl ?_
  refine z_aload_n (pc := 24) hC 1 dX4_axiom_24 rfl ?_
  refine z_iload (pc := 25) hC 0 dX4_axiom_25 rfl ?_
  refine z_bipush (pc := 27) (v := (nI 100)) hC dX4_axiom_27 (by decide +kernel) ?_
  refine z_idiv (pc := 29) (v := (nI 1)) hC dX4_axiom_29 (by decide +kernel) (by decide +kernel) ?_
  refine z_iload_n (pc := 30) hC 3 dX4_axiom_30 rfl ?_
  refine z_callV_I (pc := 31) (y := yX4_fits) (wy := wsX4_fits) (rm := { frames := 1, cells := 0, slots := 0, locals := 21 }) (As := [.int (nI 1), .int a0]) (rest := []) (na := 2) (C := RX4) (T := TX4) (NF := 16) (ci := 5) (wc := [(p 0, .inr (5, [.int (nI n), .ref (p 1), .int (nI cnt), .int (bI (kn)), .ref (p 2), .ref (p 3), .ref (p 4), .ref (p 5), .int (nI rd), .int md, .ref (p 6), .int (nI fo), .ref (p 7), .int (nI ps), .int (nI 0), .ref (p 8)]))]) (wc2 := [(p 0, .inr (5, [.int (nI n), .ref (p 1), .int (nI cnt), .int (bI (kn)), .ref (p 2), .ref (p 3), .ref (p 4), .ref (p 5), .int (nI rd), .int md, .ref (p 6), .int (nI fo), .ref (p 7), .int (nI ps), .int (nI 0), .ref (p 8)]))]) hC hRm hDis hLis 0 rfl rfl gX4_axiom_X4_fits ⟨rfl, by decide +kernel, by decide +kernel⟩ rfl ⟨by decide, by decide⟩ ⟨by decide, by decide⟩ rfl (Nat.le_of_ble_eq_true rfl) (by decide +kernel) (c_X4_fits_1 _ _ cI cJ cZ (p) (n) (cnt) (kn) (rd) (md) (fo) (ps) (nI 0) (a0) ) [0] [1] [1, 0] [(p 1, .inl (cI, 320, .inl Ax))] rfl (by decide) rfl (by decide) (by decide) [(p 0, .inr (5, [.int (nI n), .ref (p 1), .int (nI cnt), .int (bI (kn)), .ref (p 2), .ref (p 3), .ref (p 4), .ref (p 5), .int (nI rd), .int md, .ref (p 6), .int (nI fo), .ref (p 7), .int (nI ps), .int (nI 0), .ref (p 8)])), (p 1, .inl (cI, 320, .inl Ax))] rfl (by decide) rfl dX4_axiom_31 ?_
  refine z_bif_eq (pc := 34) (tgt := 67) hC dX4_axiom_34 (by decide) (fun h34 => absurd hi (by rw [isAx_2 rfl, h34]; simp)) (fun h34 => ?_)
  refine z_aload_n (pc := 37) hC 1 dX4_axiom_37 rfl ?_
  refine z_iload (pc := 38) hC 0 dX4_axiom_38 rfl ?_
  refine z_bipush (pc := 40) (v := (nI 10)) hC dX4_axiom_40 (by decide +kernel) ?_
  refine z_idiv (pc := 42) (v := (nI 11)) hC dX4_axiom_42 (by decide +kernel) (by decide +kernel) ?_
  refine z_bipush (pc := 43) (v := (nI 10)) hC dX4_axiom_43 (by decide +kernel) ?_
  refine z_irem (pc := 45) (v := (nI 1)) hC dX4_axiom_45 (by decide +kernel) (by decide +kernel) ?_
  refine z_iload_n (pc := 46) hC 4 dX4_axiom_46 rfl ?_
  refine z_callV_I (pc := 47) (y := yX4_fits) (wy := wsX4_fits) (rm := { frames := 1, cells := 0, slots := 0, locals := 21 }) (As := [.int (nI 1), .int b0]) (rest := []) (na := 2) (C := RX4) (T := TX4) (NF := 16) (ci := 5) (wc := [(p 0, .inr (5, [.int (nI n), .ref (p 1), .int (nI cnt), .int (bI (kn)), .ref (p 2), .ref (p 3), .ref (p 4), .ref (p 5), .int (nI rd), .int md, .ref (p 6), .int (nI fo), .ref (p 7), .int (nI ps), .int (nI 0), .ref (p 8)]))]) (wc2 := [(p 0, .inr (5, [.int (nI n), .ref (p 1), .int (nI cnt), .int (bI (kn)), .ref (p 2), .ref (p 3), .ref (p 4), .ref (p 5), .int (nI rd), .int md, .ref (p 6), .int (nI fo), .ref (p 7), .int (nI ps), .int (nI 0), .ref (p 8)]))]) hC hRm hDis hLis 0 rfl rfl gX4_axiom_X4_fits ⟨rfl, by decide +kernel, by decide +kernel⟩ rfl ⟨by decide, by decide⟩ ⟨by decide, by decide⟩ rfl (Nat.le_of_ble_eq_true rfl) (by decide +kernel) (c_X4_fits_1 _ _ cI cJ cZ (p) (n) (cnt) (kn) (rd) (md) (fo) (ps) (nI 0) (b0) ) [0] [1] [1, 0] [(p 1, .inl (cI, 320, .inl Ax))] rfl (by decide) rfl (by decide) (by decide) [(p 0, .inr (5, [.int (nI n), .ref (p 1), .int (nI cnt), .int (bI (kn)), .ref (p 2), .ref (p 3), .ref (p 4), .ref (p 5), .int (nI rd), .int md, .ref (p 6), .int (nI fo), .ref (p 7), .int (nI ps), .int (nI 0), .ref (p 8)])), (p 1, .inl (cI, 320, .inl Ax))] rfl (by decide) rfl dX4_axiom_47 ?_
  refine z_bif_eq (pc := 50) (tgt := 67) hC dX4_axiom_50 (by decide) (fun h50 => absurd hi (by rw [isAx_2 rfl, h34, h50]; simp)) (fun h50 => ?_)
  refine z_aload_n (pc := 53) hC 1 dX4_axiom_53 rfl ?_
  refine z_iload (pc := 54) hC 0 dX4_axiom_54 rfl ?_
  refine z_bipush (pc := 56) (v := (nI 10)) hC dX4_axiom_56 (by decide +kernel) ?_
  refine z_irem (pc := 58) (v := (nI 1)) hC dX4_axiom_58 (by decide +kernel) (by decide +kernel) ?_
  refine z_iload (pc := 59) hC 5 dX4_axiom_59 rfl ?_
  refine z_callV_I (pc := 61) (y := yX4_fits) (wy := wsX4_fits) (rm := { frames := 1, cells := 0, slots := 0, locals := 21 }) (As := [.int (nI 1), .int c0]) (rest := []) (na := 2) (C := RX4) (T := TX4) (NF := 16) (ci := 5) (wc := [(p 0, .inr (5, [.int (nI n), .ref (p 1), .int (nI cnt), .int (bI (kn)), .ref (p 2), .ref (p 3), .ref (p 4), .ref (p 5), .int (nI rd), .int md, .ref (p 6), .int (nI fo), .ref (p 7), .int (nI ps), .int (nI 0), .ref (p 8)]))]) (wc2 := [(p 0, .inr (5, [.int (nI n), .ref (p 1), .int (nI cnt), .int (bI (kn)), .ref (p 2), .ref (p 3), .ref (p 4), .ref (p 5), .int (nI rd), .int md, .ref (p 6), .int (nI fo), .ref (p 7), .int (nI ps), .int (nI 0), .ref (p 8)]))]) hC hRm hDis hLis 0 rfl rfl gX4_axiom_X4_fits ⟨rfl, by decide +kernel, by decide +kernel⟩ rfl ⟨by decide, by decide⟩ ⟨by decide, by decide⟩ rfl (Nat.le_of_ble_eq_true rfl) (by decide +kernel) (c_X4_fits_1 _ _ cI cJ cZ (p) (n) (cnt) (kn) (rd) (md) (fo) (ps) (nI 0) (c0) ) [0] [1] [1, 0] [(p 1, .inl (cI, 320, .inl Ax))] rfl (by decide) rfl (by decide) (by decide) [(p 0, .inr (5, [.int (nI n), .ref (p 1), .int (nI cnt), .int (bI (kn)), .ref (p 2), .ref (p 3), .ref (p 4), .ref (p 5), .int (nI rd), .int md, .ref (p 6), .int (nI fo), .ref (p 7), .int (nI ps), .int (nI 0), .ref (p 8)])), (p 1, .inl (cI, 320, .inl Ax))] rfl (by decide) rfl dX4_axiom_61 ?_
  refine z_bif_ne (pc := 64) (tgt := 69) hC dX4_axiom_64 (by decide) (fun h64 => ?_) (fun h64 => absurd hi (by rw [isAx_2 rfl, h34, h50, h64]; simp))
  refine z_aload_n (pc := 69) hC 1 dX4_axiom_69 rfl ?_
  refine z_get (pc := 70) (C := RX4) (T := TX4) (N := 16) hC hinX4 0 rfl rfl 2 (by decide) (by decide +kernel) rfl dX4_axiom_70 ?_
  refine z_bipush (pc := 73) (v := (nI 80)) hC dX4_axiom_73 (by decide +kernel) ?_
  refine z_ncmp_ne (pc := 75) (tgt := 81) hC dX4_axiom_75 (by decide) (by omega) (by omega) (fun h75 => absurd h75 (by omega)) (fun h75 => ?_)
  refine z_bipush (pc := 78) (v := (-2)) hC dX4_axiom_78 (by decide +kernel) ?_
  exact z_iret (pc := 80) hC hQ hRT (rfl) (rfl) (rfl) dX4_axiom_80

set_option maxRecDepth 100000 in
set_option maxHeartbeats 4000000 in
theorem c_X4_axiom_ok_2 (l : Launch) (D : va_G) (cI cJ cZ : ClassId) (p : Nat → Nat) (n : Nat) (cnt : Nat) (kn : Bool) (rd : Nat) (md : Int32) (fo : Nat) (ps : Nat) (th : Int32) (Ax : Nat → Int32) (a0 : Int32) (b0 : Int32) (c0 : Int32) (hi : isAx n (nI 2) a0 b0 c0 = true) (hc : cnt < 80) : MI l yX4_axiom wsX4_axiom { frames := 2, cells := 0, slots := 0, locals := 43 } D (tyL cI cJ cZ) [.ref (p 0), .int (nI 2), .int a0, .int b0, .int c0] [(p 0, .inr (5, [.int (nI n), .ref (p 1), .int (nI cnt), .int (bI (kn)), .ref (p 2), .ref (p 3), .ref (p 4), .ref (p 5), .int (nI rd), .int md, .ref (p 6), .int (nI fo), .ref (p 7), .int (nI ps), .int th, .ref (p 8)])), (p 1, .inl (cI, 320, .inl Ax))] [(p 0, .inr (5, [.int (nI n), .ref (p 1), .int (nI (cnt + 1)), .int (bI (false)), .ref (p 2), .ref (p 3), .ref (p 4), .ref (p 5), .int (nI rd), .int md, .ref (p 6), .int (nI fo), .ref (p 7), .int (nI ps), .int (nI 0), .ref (p 8)])), (p 1, .inl (cI, 320, .inl (upd (upd (upd (upd Ax (4 * cnt) (nI 2)) (4 * cnt + 1) a0) (4 * cnt + 2) b0) (4 * cnt + 3) c0)))] (nI cnt) := by
  refine metI_of (cc := cX4_axiom) (maxL := 6) (ret := (some .int)) (by decide +kernel) rfl (Nat.le_of_ble_eq_true rfl) ?_
  intro K hC hRm hNL hDis hLis hRT hIni hQ
  have hinX4 : ∀ w ∈ wsX40, w ∈ wsX4_axiom := by decide +kernel
  refine z_aload_n (pc := 0) hC 0 dX4_axiom_0 rfl ?_
  refine z_iconst (pc := 1) (v := (nI 0)) hC dX4_axiom_1 (by decide +kernel) ?_
  refine z_put (pc := 2) (C := RX4) (T := TX4) (N := 16) hC hinX4 0 rfl rfl 14 (by decide) tyX4 tyX4_ok nmX4 (by decide +kernel) rfl (rfl) (rfl) (Nat.le_of_ble_eq_true rfl) [(p 0, .inr (5, [.int (nI n), .ref (p 1), .int (nI cnt), .int (bI (kn)), .ref (p 2), .ref (p 3), .ref (p 4), .ref (p 5), .int (nI rd), .int md, .ref (p 6), .int (nI fo), .ref (p 7), .int (nI ps), .int (nI 0), .ref (p 8)])), (p 1, .inl (cI, 320, .inl Ax))] rfl dX4_axiom_2 ?_
  refine z_iload_n (pc := 5) hC 1 dX4_axiom_5 rfl ?_
  refine z_iconst (pc := 6) (v := (nI 1)) hC dX4_axiom_6 (by decide +kernel) ?_
  refine z_ncmp_lt (pc := 7) (tgt := 16) hC dX4_axiom_7 (by decide) (by omega) (by omega) (fun h7 => absurd h7 (by decide)) (fun h7 => ?_)
  refine z_iload_n (pc := 10) hC 1 dX4_axiom_10 rfl ?_
  refine z_bipush (pc := 11) (v := (nI 7)) hC dX4_axiom_11 (by decide +kernel) ?_
  refine z_ncmp_le (pc := 13) (tgt := 18) hC dX4_axiom_13 (by decide) (by omega) (by omega) (fun h13 => ?_) (fun h13 => absurd h13 (by decide))
  refine z_iload_n (pc := 18) hC 1 dX4_axiom_18 rfl ?_
  refine z_callS_I (pc := 19) (y := yX4_wants) (wy := wsX4_wants) (rm := { frames := 0, cells := 0, slots := 0, locals := 0 }) (As := [.int (nI 2)]) (rest := []) (na := 1)  (wc := []) (wc2 := []) hC hRm hDis hLis gX4_axiom_X4_wants ⟨by decide +kernel, by decide +kernel⟩ rfl ⟨by decide, by decide⟩ ⟨by decide, by decide⟩ rfl (Nat.le_of_ble_eq_true rfl) (by decide +kernel) (c_X4_wants_2 _ _ cI cJ cZ  ) [] [0, 1] [0, 1] [(p 0, .inr (5, [.int (nI n), .ref (p 1), .int (nI cnt), .int (bI (kn)), .ref (p 2), .ref (p 3), .ref (p 4), .ref (p 5), .int (nI rd), .int md, .ref (p 6), .int (nI fo), .ref (p 7), .int (nI ps), .int (nI 0), .ref (p 8)])), (p 1, .inl (cI, 320, .inl Ax))] rfl (by decide) rfl (by decide) (by decide) [(p 0, .inr (5, [.int (nI n), .ref (p 1), .int (nI cnt), .int (bI (kn)), .ref (p 2), .ref (p 3), .ref (p 4), .ref (p 5), .int (nI rd), .int md, .ref (p 6), .int (nI fo), .ref (p 7), .int (nI ps), .int (nI 0), .ref (p 8)])), (p 1, .inl (cI, 320, .inl Ax))] rfl (by decide) rfl dX4_axiom_19 ?_
  refine z_istore (pc := 22) hC hNL [(5, .int (nI 111)), (0, .ref (p 0)), (1, .int (nI 2)), (2, .int a0), (3, .int b0), (4, .int c0)] dX4_axiom_22 (by decide) rfl ?_
  refine z_aload_n (pc := 24) hC 1 dX4_axiom_24 rfl ?_
  refine z_iload (pc := 25) hC 0 dX4_axiom_25 rfl ?_
  refine z_bipush (pc := 27) (v := (nI 100)) hC dX4_axiom_27 (by decide +kernel) ?_
  refine z_idiv (pc := 29) (v := (nI 1)) hC dX4_axiom_29 (by decide +kernel) (by decide +kernel) ?_
  refine z_iload_n (pc := 30) hC 3 dX4_axiom_30 rfl ?_
  refine z_callV_I (pc := 31) (y := yX4_fits) (wy := wsX4_fits) (rm := { frames := 1, cells := 0, slots := 0, locals := 21 }) (As := [.int (nI 1), .int a0]) (rest := []) (na := 2) (C := RX4) (T := TX4) (NF := 16) (ci := 5) (wc := [(p 0, .inr (5, [.int (nI n), .ref (p 1), .int (nI cnt), .int (bI (kn)), .ref (p 2), .ref (p 3), .ref (p 4), .ref (p 5), .int (nI rd), .int md, .ref (p 6), .int (nI fo), .ref (p 7), .int (nI ps), .int (nI 0), .ref (p 8)]))]) (wc2 := [(p 0, .inr (5, [.int (nI n), .ref (p 1), .int (nI cnt), .int (bI (kn)), .ref (p 2), .ref (p 3), .ref (p 4), .ref (p 5), .int (nI rd), .int md, .ref (p 6), .int (nI fo), .ref (p 7), .int (nI ps), .int (nI 0), .ref (p 8)]))]) hC hRm hDis hLis 0 rfl rfl gX4_axiom_X4_fits ⟨rfl, by decide +kernel, by decide +kernel⟩ rfl ⟨by decide, by decide⟩ ⟨by decide, by decide⟩ rfl (Nat.le_of_ble_eq_true rfl) (by decide +kernel) (c_X4_fits_1 _ _ cI cJ cZ (p) (n) (cnt) (kn) (rd) (md) (fo) (ps) (nI 0) (a0) ) [0] [1] [1, 0] [(p 1, .inl (cI, 320, .inl Ax))] rfl (by decide) rfl (by decide) (by decide) [(p 0, .inr (5, [.int (nI n), .ref (p 1), .int (nI cnt), .int (bI (kn)), .ref (p 2), .ref (p 3), .ref (p 4), .ref (p 5), .int (nI rd), .int md, .ref (p 6), .int (nI fo), .ref (p 7), .int (nI ps), .int (nI 0), .ref (p 8)])), (p 1, .inl (cI, 320, .inl Ax))] rfl (by decide) rfl dX4_axiom_31 ?_
  refine z_bif_eq (pc := 34) (tgt := 67) hC dX4_axiom_34 (by decide) (fun h34 => absurd hi (by rw [isAx_2 rfl, h34]; simp)) (fun h34 => ?_)
  refine z_aload_n (pc := 37) hC 1 dX4_axiom_37 rfl ?_
  refine z_iload (pc := 38) hC 0 dX4_axiom_38 rfl ?_
  refine z_bipush (pc := 40) (v := (nI 10)) hC dX4_axiom_40 (by decide +kernel) ?_
  refine z_idiv (pc := 42) (v := (nI 11)) hC dX4_axiom_42 (by decide +kernel) (by decide +kernel) ?_
  refine z_bipush (pc := 43) (v := (nI 10)) hC dX4_axiom_43 (by decide +kernel) ?_
  refine z_irem (pc := 45) (v := (nI 1)) hC dX4_axiom_45 (by decide +kernel) (by decide +kernel) ?_
  refine z_iload_n (pc := 46) hC 4 dX4_axiom_46 rfl ?_
  refine z_callV_I (pc := 47) (y := yX4_fits) (wy := wsX4_fits) (rm := { frames := 1, cells := 0, slots := 0, locals := 21 }) (As := [.int (nI 1), .int b0]) (rest := []) (na := 2) (C := RX4) (T := TX4) (NF := 16) (ci := 5) (wc := [(p 0, .inr (5, [.int (nI n), .ref (p 1), .int (nI cnt), .int (bI (kn)), .ref (p 2), .ref (p 3), .ref (p 4), .ref (p 5), .int (nI rd), .int md, .ref (p 6), .int (nI fo), .ref (p 7), .int (nI ps), .int (nI 0), .ref (p 8)]))]) (wc2 := [(p 0, .inr (5, [.int (nI n), .ref (p 1), .int (nI cnt), .int (bI (kn)), .ref (p 2), .ref (p 3), .ref (p 4), .ref (p 5), .int (nI rd), .int md, .ref (p 6), .int (nI fo), .ref (p 7), .int (nI ps), .int (nI 0), .ref (p 8)]))]) hC hRm hDis hLis 0 rfl rfl gX4_axiom_X4_fits ⟨rfl, by decide +kernel, by decide +kernel⟩ rfl ⟨by decide, by decide⟩ ⟨by decide, by decide⟩ rfl (Nat.le_of_ble_eq_true rfl) (by decide +kernel) (c_X4_fits_1 _ _ cI cJ cZ (p) (n) (cnt) (kn) (rd) (md) (fo) (ps) (nI 0) (b0) ) [0] [1] [1, 0] [(p 1, .inl (cI, 320, .inl Ax))] rfl (by decide) rfl (by decide) (by decide) [(p 0, .inr (5, [.int (nI n), .ref (p 1), .int (nI cnt), .int (bI (kn)), .ref (p 2), .ref (p 3), .ref (p 4), .ref (p 5), .int (nI rd), .int md, .ref (p 6), .int (nI fo), .ref (p 7), .int (nI ps), .int (nI 0), .ref (p 8)])), (p 1, .inl (cI, 320, .inl Ax))] rfl (by decide) rfl dX4_axiom_47 ?_
  refine z_bif_eq (pc := 50) (tgt := 67) hC dX4_axiom_50 (by decide) (fun h50 => absurd hi (by rw [isAx_2 rfl, h34, h50]; simp)) (fun h50 => ?_)
  refine z_aload_n (pc := 53) hC 1 dX4_axiom_53 rfl ?_
  refine z_iload (pc := 54) hC 0 dX4_axiom_54 rfl ?_
  refine z_bipush (pc := 56) (v := (nI 10)) hC dX4_axiom_56 (by decide +kernel) ?_
  refine z_irem (pc := 58) (v := (nI 1)) hC dX4_axiom_58 (by decide +kernel) (by decide +kernel) ?_
  refine z_iload (pc := 59) hC 5 dX4_axiom_59 rfl ?_
  refine z_callV_I (pc := 61) (y := yX4_fits) (wy := wsX4_fits) (rm := { frames := 1, cells := 0, slots := 0, locals := 21 }) (As := [.int (nI 1), .int c0]) (rest := []) (na := 2) (C := RX4) (T := TX4) (NF := 16) (ci := 5) (wc := [(p 0, .inr (5, [.int (nI n), .ref (p 1), .int (nI cnt), .int (bI (kn)), .ref (p 2), .ref (p 3), .ref (p 4), .ref (p 5), .int (nI rd), .int md, .ref (p 6), .int (nI fo), .ref (p 7), .int (nI ps), .int (nI 0), .ref (p 8)]))]) (wc2 := [(p 0, .inr (5, [.int (nI n), .ref (p 1), .int (nI cnt), .int (bI (kn)), .ref (p 2), .ref (p 3), .ref (p 4), .ref (p 5), .int (nI rd), .int md, .ref (p 6), .int (nI fo), .ref (p 7), .int (nI ps), .int (nI 0), .ref (p 8)]))]) hC hRm hDis hLis 0 rfl rfl gX4_axiom_X4_fits ⟨rfl, by decide +kernel, by decide +kernel⟩ rfl ⟨by decide, by decide⟩ ⟨by decide, by decide⟩ rfl (Nat.le_of_ble_eq_true rfl) (by decide +kernel) (c_X4_fits_1 _ _ cI cJ cZ (p) (n) (cnt) (kn) (rd) (md) (fo) (ps) (nI 0) (c0) ) [0] [1] [1, 0] [(p 1, .inl (cI, 320, .inl Ax))] rfl (by decide) rfl (by decide) (by decide) [(p 0, .inr (5, [.int (nI n), .ref (p 1), .int (nI cnt), .int (bI (kn)), .ref (p 2), .ref (p 3), .ref (p 4), .ref (p 5), .int (nI rd), .int md, .ref (p 6), .int (nI fo), .ref (p 7), .int (nI ps), .int (nI 0), .ref (p 8)])), (p 1, .inl (cI, 320, .inl Ax))] rfl (by decide) rfl dX4_axiom_61 ?_
  refine z_bif_ne (pc := 64) (tgt := 69) hC dX4_axiom_64 (by decide) (fun h64 => ?_) (fun h64 => absurd hi (by rw [isAx_2 rfl, h34, h50, h64]; simp))
  refine z_aload_n (pc := 69) hC 1 dX4_axiom_69 rfl ?_
  refine z_get (pc := 70) (C := RX4) (T := TX4) (N := 16) hC hinX4 0 rfl rfl 2 (by decide) (by decide +kernel) rfl dX4_axiom_70 ?_
  refine z_bipush (pc := 73) (v := (nI 80)) hC dX4_axiom_73 (by decide +kernel) ?_
  refine z_ncmp_ne (pc := 75) (tgt := 81) hC dX4_axiom_75 (by decide) (by omega) (by omega) (fun h75 => ?_) (fun h75 => absurd h75 (by omega))
  refine z_aload_n (pc := 81) hC 1 dX4_axiom_81 rfl ?_
  refine z_get (pc := 82) (C := RX4) (T := TX4) (N := 16) hC hinX4 0 rfl rfl 1 (by decide) (by decide +kernel) rfl dX4_axiom_82 ?_
  refine z_iconst (pc := 85) (v := (nI 4)) hC dX4_axiom_85 (by decide +kernel) ?_
  refine z_aload_n (pc := 86) hC 1 dX4_axiom_86 rfl ?_
  refine z_get (pc := 87) (C := RX4) (T := TX4) (N := 16) hC hinX4 0 rfl rfl 2 (by decide) (by decide +kernel) rfl dX4_axiom_87 ?_
  refine z_imul (pc := 90) (v := (nI (4 * cnt))) hC dX4_axiom_90 (pk_mul _ _) ?_
  refine z_iload_n (pc := 91) hC 2 dX4_axiom_91 rfl ?_
  refine z_iast (pc := 92) hC 1 0 rfl rfl (by omega) (by decide) [(p 0, .inr (5, [.int (nI n), .ref (p 1), .int (nI cnt), .int (bI (kn)), .ref (p 2), .ref (p 3), .ref (p 4), .ref (p 5), .int (nI rd), .int md, .ref (p 6), .int (nI fo), .ref (p 7), .int (nI ps), .int (nI 0), .ref (p 8)])), (p 1, .inl (cI, 320, .inl (upd Ax (4 * cnt) (nI 2))))] rfl dX4_axiom_92 ?_
  refine z_aload_n (pc := 93) hC 1 dX4_axiom_93 rfl ?_
  refine z_get (pc := 94) (C := RX4) (T := TX4) (N := 16) hC hinX4 0 rfl rfl 1 (by decide) (by decide +kernel) rfl dX4_axiom_94 ?_
  refine z_iconst (pc := 97) (v := (nI 4)) hC dX4_axiom_97 (by decide +kernel) ?_
  refine z_aload_n (pc := 98) hC 1 dX4_axiom_98 rfl ?_
  refine z_get (pc := 99) (C := RX4) (T := TX4) (N := 16) hC hinX4 0 rfl rfl 2 (by decide) (by decide +kernel) rfl dX4_axiom_99 ?_
  refine z_imul (pc := 102) (v := (nI (4 * cnt))) hC dX4_axiom_102 (pk_mul _ _) ?_
  refine z_iconst (pc := 103) (v := (nI 1)) hC dX4_axiom_103 (by decide +kernel) ?_
  refine z_iadd (pc := 104) (v := (nI (4 * cnt + 1))) hC dX4_axiom_104 (nI_add _ _) ?_
  refine z_iload_n (pc := 105) hC 3 dX4_axiom_105 rfl ?_
  refine z_iast (pc := 106) hC 1 0 rfl rfl (by omega) (by decide) [(p 0, .inr (5, [.int (nI n), .ref (p 1), .int (nI cnt), .int (bI (kn)), .ref (p 2), .ref (p 3), .ref (p 4), .ref (p 5), .int (nI rd), .int md, .ref (p 6), .int (nI fo), .ref (p 7), .int (nI ps), .int (nI 0), .ref (p 8)])), (p 1, .inl (cI, 320, .inl (upd (upd Ax (4 * cnt) (nI 2)) (4 * cnt + 1) a0)))] rfl dX4_axiom_106 ?_
  refine z_aload_n (pc := 107) hC 1 dX4_axiom_107 rfl ?_
  refine z_get (pc := 108) (C := RX4) (T := TX4) (N := 16) hC hinX4 0 rfl rfl 1 (by decide) (by decide +kernel) rfl dX4_axiom_108 ?_
  refine z_iconst (pc := 111) (v := (nI 4)) hC dX4_axiom_111 (by decide +kernel) ?_
  refine z_aload_n (pc := 112) hC 1 dX4_axiom_112 rfl ?_
  refine z_get (pc := 113) (C := RX4) (T := TX4) (N := 16) hC hinX4 0 rfl rfl 2 (by decide) (by decide +kernel) rfl dX4_axiom_113 ?_
  refine z_imul (pc := 116) (v := (nI (4 * cnt))) hC dX4_axiom_116 (pk_mul _ _) ?_
  refine z_iconst (pc := 117) (v := (nI 2)) hC dX4_axiom_117 (by decide +kernel) ?_
  refine z_iadd (pc := 118) (v := (nI (4 * cnt + 2))) hC dX4_axiom_118 (nI_add _ _) ?_
  refine z_iload_n (pc := 119) hC 4 dX4_axiom_119 rfl ?_
  refine z_iast (pc := 120) hC 1 0 rfl rfl (by omega) (by decide) [(p 0, .inr (5, [.int (nI n), .ref (p 1), .int (nI cnt), .int (bI (kn)), .ref (p 2), .ref (p 3), .ref (p 4), .ref (p 5), .int (nI rd), .int md, .ref (p 6), .int (nI fo), .ref (p 7), .int (nI ps), .int (nI 0), .ref (p 8)])), (p 1, .inl (cI, 320, .inl (upd (upd (upd Ax (4 * cnt) (nI 2)) (4 * cnt + 1) a0) (4 * cnt + 2) b0)))] rfl dX4_axiom_120 ?_
  refine z_aload_n (pc := 121) hC 1 dX4_axiom_121 rfl ?_
  refine z_get (pc := 122) (C := RX4) (T := TX4) (N := 16) hC hinX4 0 rfl rfl 1 (by decide) (by decide +kernel) rfl dX4_axiom_122 ?_
  refine z_iconst (pc := 125) (v := (nI 4)) hC dX4_axiom_125 (by decide +kernel) ?_
  refine z_aload_n (pc := 126) hC 1 dX4_axiom_126 rfl ?_
  refine z_get (pc := 127) (C := RX4) (T := TX4) (N := 16) hC hinX4 0 rfl rfl 2 (by decide) (by decide +kernel) rfl dX4_axiom_127 ?_
  refine z_imul (pc := 130) (v := (nI (4 * cnt))) hC dX4_axiom_130 (pk_mul _ _) ?_
  refine z_iconst (pc := 131) (v := (nI 3)) hC dX4_axiom_131 (by decide +kernel) ?_
  refine z_iadd (pc := 132) (v := (nI (4 * cnt + 3))) hC dX4_axiom_132 (nI_add _ _) ?_
  refine z_iload (pc := 133) hC 5 dX4_axiom_133 rfl ?_
  refine z_iast (pc := 135) hC 1 0 rfl rfl (by omega) (by decide) [(p 0, .inr (5, [.int (nI n), .ref (p 1), .int (nI cnt), .int (bI (kn)), .ref (p 2), .ref (p 3), .ref (p 4), .ref (p 5), .int (nI rd), .int md, .ref (p 6), .int (nI fo), .ref (p 7), .int (nI ps), .int (nI 0), .ref (p 8)])), (p 1, .inl (cI, 320, .inl (upd (upd (upd (upd Ax (4 * cnt) (nI 2)) (4 * cnt + 1) a0) (4 * cnt + 2) b0) (4 * cnt + 3) c0)))] rfl dX4_axiom_135 ?_
  refine z_aload_n (pc := 136) hC 1 dX4_axiom_136 rfl ?_
  refine z_dup (pc := 137) hC dX4_axiom_137 rfl ?_
  refine z_get (pc := 138) (C := RX4) (T := TX4) (N := 16) hC hinX4 0 rfl rfl 2 (by decide) (by decide +kernel) rfl dX4_axiom_138 ?_
  refine z_iconst (pc := 141) (v := (nI 1)) hC dX4_axiom_141 (by decide +kernel) ?_
  refine z_iadd (pc := 142) (v := (nI (cnt + 1))) hC dX4_axiom_142 (nI_add _ _) ?_
  refine z_put (pc := 143) (C := RX4) (T := TX4) (N := 16) hC hinX4 0 rfl rfl 2 (by decide) tyX4 tyX4_ok nmX4 (by decide +kernel) rfl (rfl) (rfl) (Nat.le_of_ble_eq_true rfl) [(p 0, .inr (5, [.int (nI n), .ref (p 1), .int (nI (cnt + 1)), .int (bI (kn)), .ref (p 2), .ref (p 3), .ref (p 4), .ref (p 5), .int (nI rd), .int md, .ref (p 6), .int (nI fo), .ref (p 7), .int (nI ps), .int (nI 0), .ref (p 8)])), (p 1, .inl (cI, 320, .inl (upd (upd (upd (upd Ax (4 * cnt) (nI 2)) (4 * cnt + 1) a0) (4 * cnt + 2) b0) (4 * cnt + 3) c0)))] rfl dX4_axiom_143 ?_
  refine z_aload_n (pc := 146) hC 1 dX4_axiom_146 rfl ?_
  refine z_iconst (pc := 147) (v := (nI 0)) hC dX4_axiom_147 (by decide +kernel) ?_
  refine z_topi (bI (false)) rfl ?_
  refine z_put (pc := 148) (C := RX4) (T := TX4) (N := 16) hC hinX4 0 rfl rfl 3 (by decide) tyX4 tyX4_ok nmX4 (by decide +kernel) rfl (by decide +kernel) (by decide +kernel) (Nat.le_of_ble_eq_true rfl) [(p 0, .inr (5, [.int (nI n), .ref (p 1), .int (nI (cnt + 1)), .int (bI (false)), .ref (p 2), .ref (p 3), .ref (p 4), .ref (p 5), .int (nI rd), .int md, .ref (p 6), .int (nI fo), .ref (p 7), .int (nI ps), .int (nI 0), .ref (p 8)])), (p 1, .inl (cI, 320, .inl (upd (upd (upd (upd Ax (4 * cnt) (nI 2)) (4 * cnt + 1) a0) (4 * cnt + 2) b0) (4 * cnt + 3) c0)))] rfl dX4_axiom_148 ?_
  refine z_aload_n (pc := 151) hC 1 dX4_axiom_151 rfl ?_
  refine z_get (pc := 152) (C := RX4) (T := TX4) (N := 16) hC hinX4 0 rfl rfl 2 (by decide) (by decide +kernel) rfl dX4_axiom_152 ?_
  refine z_iconst (pc := 155) (v := (nI 1)) hC dX4_axiom_155 (by decide +kernel) ?_
  refine z_isub (pc := 156) (v := (nI ((cnt + 1) - 1))) hC dX4_axiom_156 (pk_sub (by omega)) ?_
  exact z_iret (pc := 157) hC hQ hRT (rfl) (by rw [Nat.add_sub_cancel]) (rfl) dX4_axiom_157

set_option maxRecDepth 100000 in
set_option maxHeartbeats 4000000 in
theorem c_X4_axiom_bad_3 (l : Launch) (D : va_G) (cI cJ cZ : ClassId) (p : Nat → Nat) (n : Nat) (cnt : Nat) (kn : Bool) (rd : Nat) (md : Int32) (fo : Nat) (ps : Nat) (th : Int32) (Ax : Nat → Int32) (a0 : Int32) (b0 : Int32) (c0 : Int32) (hi : isAx n (nI 3) a0 b0 c0 = false) : MI l yX4_axiom wsX4_axiom { frames := 2, cells := 0, slots := 0, locals := 43 } D (tyL cI cJ cZ) [.ref (p 0), .int (nI 3), .int a0, .int b0, .int c0] [(p 0, .inr (5, [.int (nI n), .ref (p 1), .int (nI cnt), .int (bI (kn)), .ref (p 2), .ref (p 3), .ref (p 4), .ref (p 5), .int (nI rd), .int md, .ref (p 6), .int (nI fo), .ref (p 7), .int (nI ps), .int th, .ref (p 8)])), (p 1, .inl (cI, 320, .inl Ax))] [(p 0, .inr (5, [.int (nI n), .ref (p 1), .int (nI cnt), .int (bI (kn)), .ref (p 2), .ref (p 3), .ref (p 4), .ref (p 5), .int (nI rd), .int md, .ref (p 6), .int (nI fo), .ref (p 7), .int (nI ps), .int (nI 0), .ref (p 8)])), (p 1, .inl (cI, 320, .inl Ax))] (-1) := by
  refine metI_of (cc := cX4_axiom) (maxL := 6) (ret := (some .int)) (by decide +kernel) rfl (Nat.le_of_ble_eq_true rfl) ?_
  intro K hC hRm hNL hDis hLis hRT hIni hQ
  have hinX4 : ∀ w ∈ wsX40, w ∈ wsX4_axiom := by decide +kernel
  refine z_aload_n (pc := 0) hC 0 dX4_axiom_0 rfl ?_
  refine z_iconst (pc := 1) (v := (nI 0)) hC dX4_axiom_1 (by decide +kernel) ?_
  refine z_put (pc := 2) (C := RX4) (T := TX4) (N := 16) hC hinX4 0 rfl rfl 14 (by decide) tyX4 tyX4_ok nmX4 (by decide +kernel) rfl (rfl) (rfl) (Nat.le_of_ble_eq_true rfl) [(p 0, .inr (5, [.int (nI n), .ref (p 1), .int (nI cnt), .int (bI (kn)), .ref (p 2), .ref (p 3), .ref (p 4), .ref (p 5), .int (nI rd), .int md, .ref (p 6), .int (nI fo), .ref (p 7), .int (nI ps), .int (nI 0), .ref (p 8)])), (p 1, .inl (cI, 320, .inl Ax))] rfl dX4_axiom_2 ?_
  refine z_iload_n (pc := 5) hC 1 dX4_axiom_5 rfl ?_
  refine z_iconst (pc := 6) (v := (nI 1)) hC dX4_axiom_6 (by decide +kernel) ?_
  refine z_ncmp_lt (pc := 7) (tgt := 16) hC dX4_axiom_7 (by decide) (by omega) (by omega) (fun h7 => absurd h7 (by decide)) (fun h7 => ?_)
  refine z_iload_n (pc := 10) hC 1 dX4_axiom_10 rfl ?_
  refine z_bipush (pc := 11) (v := (nI 7)) hC dX4_axiom_11 (by decide +kernel) ?_
  refine z_ncmp_le (pc := 13) (tgt := 18) hC dX4_axiom_13 (by decide) (by omega) (by omega) (fun h13 => ?_) (fun h13 => absurd h13 (by decide))
  refine z_iload_n (pc := 18) hC 1 dX4_axiom_18 rfl ?_
  refine z_callS_I (pc := 19) (y := yX4_wants) (wy := wsX4_wants) (rm := { frames := 0, cells := 0, slots := 0, locals := 0 }) (As := [.int (nI 3)]) (rest := []) (na := 1)  (wc := []) (wc2 := []) hC hRm hDis hLis gX4_axiom_X4_wants ⟨by decide +kernel, by decide +kernel⟩ rfl ⟨by decide, by decide⟩ ⟨by decide, by decide⟩ rfl (Nat.le_of_ble_eq_true rfl) (by decide +kernel) (c_X4_wants_3 _ _ cI cJ cZ  ) [] [0, 1] [0, 1] [(p 0, .inr (5, [.int (nI n), .ref (p 1), .int (nI cnt), .int (bI (kn)), .ref (p 2), .ref (p 3), .ref (p 4), .ref (p 5), .int (nI rd), .int md, .ref (p 6), .int (nI fo), .ref (p 7), .int (nI ps), .int (nI 0), .ref (p 8)])), (p 1, .inl (cI, 320, .inl Ax))] rfl (by decide) rfl (by decide) (by decide) [(p 0, .inr (5, [.int (nI n), .ref (p 1), .int (nI cnt), .int (bI (kn)), .ref (p 2), .ref (p 3), .ref (p 4), .ref (p 5), .int (nI rd), .int md, .ref (p 6), .int (nI fo), .ref (p 7), .int (nI ps), .int (nI 0), .ref (p 8)])), (p 1, .inl (cI, 320, .inl Ax))] rfl (by decide) rfl dX4_axiom_19 ?_
  refine z_istore (pc := 22) hC hNL [(5, .int (nI 121)), (0, .ref (p 0)), (1, .int (nI 3)), (2, .int a0), (3, .int b0), (4, .int c0)] dX4_axiom_22 (by decide) rfl ?_
  refine z_aload_n (pc := 24) hC 1 dX4_axiom_24 rfl ?_
  refine z_iload (pc := 25) hC 0 dX4_axiom_25 rfl ?_
  refine z_bipush (pc := 27) (v := (nI 100)) hC dX4_axiom_27 (by decide +kernel) ?_
  refine z_idiv (pc := 29) (v := (nI 1)) hC dX4_axiom_29 (by decide +kernel) (by decide +kernel) ?_
  refine z_iload_n (pc := 30) hC 3 dX4_axiom_30 rfl ?_
  refine z_callV_I (pc := 31) (y := yX4_fits) (wy := wsX4_fits) (rm := { frames := 1, cells := 0, slots := 0, locals := 21 }) (As := [.int (nI 1), .int a0]) (rest := []) (na := 2) (C := RX4) (T := TX4) (NF := 16) (ci := 5) (wc := [(p 0, .inr (5, [.int (nI n), .ref (p 1), .int (nI cnt), .int (bI (kn)), .ref (p 2), .ref (p 3), .ref (p 4), .ref (p 5), .int (nI rd), .int md, .ref (p 6), .int (nI fo), .ref (p 7), .int (nI ps), .int (nI 0), .ref (p 8)]))]) (wc2 := [(p 0, .inr (5, [.int (nI n), .ref (p 1), .int (nI cnt), .int (bI (kn)), .ref (p 2), .ref (p 3), .ref (p 4), .ref (p 5), .int (nI rd), .int md, .ref (p 6), .int (nI fo), .ref (p 7), .int (nI ps), .int (nI 0), .ref (p 8)]))]) hC hRm hDis hLis 0 rfl rfl gX4_axiom_X4_fits ⟨rfl, by decide +kernel, by decide +kernel⟩ rfl ⟨by decide, by decide⟩ ⟨by decide, by decide⟩ rfl (Nat.le_of_ble_eq_true rfl) (by decide +kernel) (c_X4_fits_1 _ _ cI cJ cZ (p) (n) (cnt) (kn) (rd) (md) (fo) (ps) (nI 0) (a0) ) [0] [1] [1, 0] [(p 1, .inl (cI, 320, .inl Ax))] rfl (by decide) rfl (by decide) (by decide) [(p 0, .inr (5, [.int (nI n), .ref (p 1), .int (nI cnt), .int (bI (kn)), .ref (p 2), .ref (p 3), .ref (p 4), .ref (p 5), .int (nI rd), .int md, .ref (p 6), .int (nI fo), .ref (p 7), .int (nI ps), .int (nI 0), .ref (p 8)])), (p 1, .inl (cI, 320, .inl Ax))] rfl (by decide) rfl dX4_axiom_31 ?_
  refine z_bif_eq (pc := 34) (tgt := 67) hC dX4_axiom_34 (by decide) (fun h34 => ?_) (fun h34 => ?_)
  · refine z_iconst (pc := 67) (v := (-1)) hC dX4_axiom_67 (by decide +kernel) ?_
    exact z_iret (pc := 68) hC hQ hRT (rfl) (rfl) (rfl) dX4_axiom_68
  · refine z_aload_n (pc := 37) hC 1 dX4_axiom_37 rfl ?_
    refine z_iload (pc := 38) hC 0 dX4_axiom_38 rfl ?_
    refine z_bipush (pc := 40) (v := (nI 10)) hC dX4_axiom_40 (by decide +kernel) ?_
    refine z_idiv (pc := 42) (v := (nI 12)) hC dX4_axiom_42 (by decide +kernel) (by decide +kernel) ?_
    refine z_bipush (pc := 43) (v := (nI 10)) hC dX4_axiom_43 (by decide +kernel) ?_
    refine z_irem (pc := 45) (v := (nI 2)) hC dX4_axiom_45 (by decide +kernel) (by decide +kernel) ?_
    refine z_iload_n (pc := 46) hC 4 dX4_axiom_46 rfl ?_
    refine z_callV_I (pc := 47) (y := yX4_fits) (wy := wsX4_fits) (rm := { frames := 1, cells := 0, slots := 0, locals := 20 }) (As := [.int (nI 2), .int b0]) (rest := []) (na := 2) (C := RX4) (T := TX4) (NF := 16) (ci := 5) (wc := [(p 0, .inr (5, [.int (nI n), .ref (p 1), .int (nI cnt), .int (bI (kn)), .ref (p 2), .ref (p 3), .ref (p 4), .ref (p 5), .int (nI rd), .int md, .ref (p 6), .int (nI fo), .ref (p 7), .int (nI ps), .int (nI 0), .ref (p 8)]))]) (wc2 := [(p 0, .inr (5, [.int (nI n), .ref (p 1), .int (nI cnt), .int (bI (kn)), .ref (p 2), .ref (p 3), .ref (p 4), .ref (p 5), .int (nI rd), .int md, .ref (p 6), .int (nI fo), .ref (p 7), .int (nI ps), .int (nI 0), .ref (p 8)]))]) hC hRm hDis hLis 0 rfl rfl gX4_axiom_X4_fits ⟨rfl, by decide +kernel, by decide +kernel⟩ rfl ⟨by decide, by decide⟩ ⟨by decide, by decide⟩ rfl (Nat.le_of_ble_eq_true rfl) (by decide +kernel) (c_X4_fits_2 _ _ cI cJ cZ (p) (n) (cnt) (kn) (rd) (md) (fo) (ps) (nI 0) (b0) ) [0] [1] [1, 0] [(p 1, .inl (cI, 320, .inl Ax))] rfl (by decide) rfl (by decide) (by decide) [(p 0, .inr (5, [.int (nI n), .ref (p 1), .int (nI cnt), .int (bI (kn)), .ref (p 2), .ref (p 3), .ref (p 4), .ref (p 5), .int (nI rd), .int md, .ref (p 6), .int (nI fo), .ref (p 7), .int (nI ps), .int (nI 0), .ref (p 8)])), (p 1, .inl (cI, 320, .inl Ax))] rfl (by decide) rfl dX4_axiom_47 ?_
    refine z_bif_eq (pc := 50) (tgt := 67) hC dX4_axiom_50 (by decide) (fun h50 => ?_) (fun h50 => ?_)
    · refine z_iconst (pc := 67) (v := (-1)) hC dX4_axiom_67 (by decide +kernel) ?_
      exact z_iret (pc := 68) hC hQ hRT (rfl) (rfl) (rfl) dX4_axiom_68
    · refine z_aload_n (pc := 53) hC 1 dX4_axiom_53 rfl ?_
      refine z_iload (pc := 54) hC 0 dX4_axiom_54 rfl ?_
      refine z_bipush (pc := 56) (v := (nI 10)) hC dX4_axiom_56 (by decide +kernel) ?_
      refine z_irem (pc := 58) (v := (nI 1)) hC dX4_axiom_58 (by decide +kernel) (by decide +kernel) ?_
      refine z_iload (pc := 59) hC 5 dX4_axiom_59 rfl ?_
      refine z_callV_I (pc := 61) (y := yX4_fits) (wy := wsX4_fits) (rm := { frames := 1, cells := 0, slots := 0, locals := 21 }) (As := [.int (nI 1), .int c0]) (rest := []) (na := 2) (C := RX4) (T := TX4) (NF := 16) (ci := 5) (wc := [(p 0, .inr (5, [.int (nI n), .ref (p 1), .int (nI cnt), .int (bI (kn)), .ref (p 2), .ref (p 3), .ref (p 4), .ref (p 5), .int (nI rd), .int md, .ref (p 6), .int (nI fo), .ref (p 7), .int (nI ps), .int (nI 0), .ref (p 8)]))]) (wc2 := [(p 0, .inr (5, [.int (nI n), .ref (p 1), .int (nI cnt), .int (bI (kn)), .ref (p 2), .ref (p 3), .ref (p 4), .ref (p 5), .int (nI rd), .int md, .ref (p 6), .int (nI fo), .ref (p 7), .int (nI ps), .int (nI 0), .ref (p 8)]))]) hC hRm hDis hLis 0 rfl rfl gX4_axiom_X4_fits ⟨rfl, by decide +kernel, by decide +kernel⟩ rfl ⟨by decide, by decide⟩ ⟨by decide, by decide⟩ rfl (Nat.le_of_ble_eq_true rfl) (by decide +kernel) (c_X4_fits_1 _ _ cI cJ cZ (p) (n) (cnt) (kn) (rd) (md) (fo) (ps) (nI 0) (c0) ) [0] [1] [1, 0] [(p 1, .inl (cI, 320, .inl Ax))] rfl (by decide) rfl (by decide) (by decide) [(p 0, .inr (5, [.int (nI n), .ref (p 1), .int (nI cnt), .int (bI (kn)), .ref (p 2), .ref (p 3), .ref (p 4), .ref (p 5), .int (nI rd), .int md, .ref (p 6), .int (nI fo), .ref (p 7), .int (nI ps), .int (nI 0), .ref (p 8)])), (p 1, .inl (cI, 320, .inl Ax))] rfl (by decide) rfl dX4_axiom_61 ?_
      refine z_bif_ne (pc := 64) (tgt := 69) hC dX4_axiom_64 (by decide) (fun h64 => absurd hi (by rw [isAx_3 rfl, h34, h50, h64]; decide)) (fun h64 => ?_)
      refine z_iconst (pc := 67) (v := (-1)) hC dX4_axiom_67 (by decide +kernel) ?_
      exact z_iret (pc := 68) hC hQ hRT (rfl) (rfl) (rfl) dX4_axiom_68

set_option maxRecDepth 100000 in
set_option maxHeartbeats 4000000 in
theorem c_X4_axiom_full_3 (l : Launch) (D : va_G) (cI cJ cZ : ClassId) (p : Nat → Nat) (n : Nat) (cnt : Nat) (kn : Bool) (rd : Nat) (md : Int32) (fo : Nat) (ps : Nat) (th : Int32) (Ax : Nat → Int32) (a0 : Int32) (b0 : Int32) (c0 : Int32) (hi : isAx n (nI 3) a0 b0 c0 = true) (hc : cnt = 80) : MI l yX4_axiom wsX4_axiom { frames := 2, cells := 0, slots := 0, locals := 43 } D (tyL cI cJ cZ) [.ref (p 0), .int (nI 3), .int a0, .int b0, .int c0] [(p 0, .inr (5, [.int (nI n), .ref (p 1), .int (nI cnt), .int (bI (kn)), .ref (p 2), .ref (p 3), .ref (p 4), .ref (p 5), .int (nI rd), .int md, .ref (p 6), .int (nI fo), .ref (p 7), .int (nI ps), .int th, .ref (p 8)])), (p 1, .inl (cI, 320, .inl Ax))] [(p 0, .inr (5, [.int (nI n), .ref (p 1), .int (nI cnt), .int (bI (kn)), .ref (p 2), .ref (p 3), .ref (p 4), .ref (p 5), .int (nI rd), .int md, .ref (p 6), .int (nI fo), .ref (p 7), .int (nI ps), .int (nI 0), .ref (p 8)])), (p 1, .inl (cI, 320, .inl Ax))] (-2) := by
  refine metI_of (cc := cX4_axiom) (maxL := 6) (ret := (some .int)) (by decide +kernel) rfl (Nat.le_of_ble_eq_true rfl) ?_
  intro K hC hRm hNL hDis hLis hRT hIni hQ
  have hinX4 : ∀ w ∈ wsX40, w ∈ wsX4_axiom := by decide +kernel
  refine z_aload_n (pc := 0) hC 0 dX4_axiom_0 rfl ?_
  refine z_iconst (pc := 1) (v := (nI 0)) hC dX4_axiom_1 (by decide +kernel) ?_
  refine z_put (pc := 2) (C := RX4) (T := TX4) (N := 16) hC hinX4 0 rfl rfl 14 (by decide) tyX4 tyX4_ok nmX4 (by decide +kernel) rfl (rfl) (rfl) (Nat.le_of_ble_eq_true rfl) [(p 0, .inr (5, [.int (nI n), .ref (p 1), .int (nI cnt), .int (bI (kn)), .ref (p 2), .ref (p 3), .ref (p 4), .ref (p 5), .int (nI rd), .int md, .ref (p 6), .int (nI fo), .ref (p 7), .int (nI ps), .int (nI 0), .ref (p 8)])), (p 1, .inl (cI, 320, .inl Ax))] rfl dX4_axiom_2 ?_
  refine z_iload_n (pc := 5) hC 1 dX4_axiom_5 rfl ?_
  refine z_iconst (pc := 6) (v := (nI 1)) hC dX4_axiom_6 (by decide +kernel) ?_
  refine z_ncmp_lt (pc := 7) (tgt := 16) hC dX4_axiom_7 (by decide) (by omega) (by omega) (fun h7 => absurd h7 (by decide)) (fun h7 => ?_)
  refine z_iload_n (pc := 10) hC 1 dX4_axiom_10 rfl ?_
  refine z_bipush (pc := 11) (v := (nI 7)) hC dX4_axiom_11 (by decide +kernel) ?_
  refine z_ncmp_le (pc := 13) (tgt := 18) hC dX4_axiom_13 (by decide) (by omega) (by omega) (fun h13 => ?_) (fun h13 => absurd h13 (by decide))
  refine z_iload_n (pc := 18) hC 1 dX4_axiom_18 rfl ?_
  refine z_callS_I (pc := 19) (y := yX4_wants) (wy := wsX4_wants) (rm := { frames := 0, cells := 0, slots := 0, locals := 0 }) (As := [.int (nI 3)]) (rest := []) (na := 1)  (wc := []) (wc2 := []) hC hRm hDis hLis gX4_axiom_X4_wants ⟨by decide +kernel, by decide +kernel⟩ rfl ⟨by decide, by decide⟩ ⟨by decide, by decide⟩ rfl (Nat.le_of_ble_eq_true rfl) (by decide +kernel) (c_X4_wants_3 _ _ cI cJ cZ  ) [] [0, 1] [0, 1] [(p 0, .inr (5, [.int (nI n), .ref (p 1), .int (nI cnt), .int (bI (kn)), .ref (p 2), .ref (p 3), .ref (p 4), .ref (p 5), .int (nI rd), .int md, .ref (p 6), .int (nI fo), .ref (p 7), .int (nI ps), .int (nI 0), .ref (p 8)])), (p 1, .inl (cI, 320, .inl Ax))] rfl (by decide) rfl (by decide) (by decide) [(p 0, .inr (5, [.int (nI n), .ref (p 1), .int (nI cnt), .int (bI (kn)), .ref (p 2), .ref (p 3), .ref (p 4), .ref (p 5), .int (nI rd), .int md, .ref (p 6), .int (nI fo), .ref (p 7), .int (nI ps), .int (nI 0), .ref (p 8)])), (p 1, .inl (cI, 320, .inl Ax))] rfl (by decide) rfl dX4_axiom_19 ?_
  refine z_istore (pc := 22) hC hNL [(5, .int (nI 121)), (0, .ref (p 0)), (1, .int (nI 3)), (2, .int a0), (3, .int b0), (4, .int c0)] dX4_axiom_22 (by decide) rfl ?_
  refine z_aload_n (pc := 24) hC 1 dX4_axiom_24 rfl ?_
  refine z_iload (pc := 25) hC 0 dX4_axiom_25 rfl ?_
  refine z_bipush (pc := 27) (v := (nI 100)) hC dX4_axiom_27 (by decide +kernel) ?_
  refine z_idiv (pc := 29) (v := (nI 1)) hC dX4_axiom_29 (by decide +kernel) (by decide +kernel) ?_
  refine z_iload_n (pc := 30) hC 3 dX4_axiom_30 rfl ?_
  refine z_callV_I (pc := 31) (y := yX4_fits) (wy := wsX4_fits) (rm := { frames := 1, cells := 0, slots := 0, locals := 21 }) (As := [.int (nI 1), .int a0]) (rest := []) (na := 2) (C := RX4) (T := TX4) (NF := 16) (ci := 5) (wc := [(p 0, .inr (5, [.int (nI n), .ref (p 1), .int (nI cnt), .int (bI (kn)), .ref (p 2), .ref (p 3), .ref (p 4), .ref (p 5), .int (nI rd), .int md, .ref (p 6), .int (nI fo), .ref (p 7), .int (nI ps), .int (nI 0), .ref (p 8)]))]) (wc2 := [(p 0, .inr (5, [.int (nI n), .ref (p 1), .int (nI cnt), .int (bI (kn)), .ref (p 2), .ref (p 3), .ref (p 4), .ref (p 5), .int (nI rd), .int md, .ref (p 6), .int (nI fo), .ref (p 7), .int (nI ps), .int (nI 0), .ref (p 8)]))]) hC hRm hDis hLis 0 rfl rfl gX4_axiom_X4_fits ⟨rfl, by decide +kernel, by decide +kernel⟩ rfl ⟨by decide, by decide⟩ ⟨by decide, by decide⟩ rfl (Nat.le_of_ble_eq_true rfl) (by decide +kernel) (c_X4_fits_1 _ _ cI cJ cZ (p) (n) (cnt) (kn) (rd) (md) (fo) (ps) (nI 0) (a0) ) [0] [1] [1, 0] [(p 1, .inl (cI, 320, .inl Ax))] rfl (by decide) rfl (by decide) (by decide) [(p 0, .inr (5, [.int (nI n), .ref (p 1), .int (nI cnt), .int (bI (kn)), .ref (p 2), .ref (p 3), .ref (p 4), .ref (p 5), .int (nI rd), .int md, .ref (p 6), .int (nI fo), .ref (p 7), .int (nI ps), .int (nI 0), .ref (p 8)])), (p 1, .inl (cI, 320, .inl Ax))] rfl (by decide) rfl dX4_axiom_31 ?_
  refine z_bif_eq (pc := 34) (tgt := 67) hC dX4_axiom_34 (by decide) (fun h34 => absurd hi (by rw [isAx_3 rfl, h34]; simp)) (fun h34 => ?_)
  refine z_aload_n (pc := 37) hC 1 dX4_axiom_37 rfl ?_
  refine z_iload (pc := 38) hC 0 dX4_axiom_38 rfl ?_
  refine z_bipush (pc := 40) (v := (nI 10)) hC dX4_axiom_40 (by decide +kernel) ?_
  refine z_idiv (pc := 42) (v := (nI 12)) hC dX4_axiom_42 (by decide +kernel) (by decide +kernel) ?_
  refine z_bipush (pc := 43) (v := (nI 10)) hC dX4_axiom_43 (by decide +kernel) ?_
  refine z_irem (pc := 45) (v := (nI 2)) hC dX4_axiom_45 (by decide +kernel) (by decide +kernel) ?_
  refine z_iload_n (pc := 46) hC 4 dX4_axiom_46 rfl ?_
  refine z_callV_I (pc := 47) (y := yX4_fits) (wy := wsX4_fits) (rm := { frames := 1, cells := 0, slots := 0, locals := 20 }) (As := [.int (nI 2), .int b0]) (rest := []) (na := 2) (C := RX4) (T := TX4) (NF := 16) (ci := 5) (wc := [(p 0, .inr (5, [.int (nI n), .ref (p 1), .int (nI cnt), .int (bI (kn)), .ref (p 2), .ref (p 3), .ref (p 4), .ref (p 5), .int (nI rd), .int md, .ref (p 6), .int (nI fo), .ref (p 7), .int (nI ps), .int (nI 0), .ref (p 8)]))]) (wc2 := [(p 0, .inr (5, [.int (nI n), .ref (p 1), .int (nI cnt), .int (bI (kn)), .ref (p 2), .ref (p 3), .ref (p 4), .ref (p 5), .int (nI rd), .int md, .ref (p 6), .int (nI fo), .ref (p 7), .int (nI ps), .int (nI 0), .ref (p 8)]))]) hC hRm hDis hLis 0 rfl rfl gX4_axiom_X4_fits ⟨rfl, by decide +kernel, by decide +kernel⟩ rfl ⟨by decide, by decide⟩ ⟨by decide, by decide⟩ rfl (Nat.le_of_ble_eq_true rfl) (by decide +kernel) (c_X4_fits_2 _ _ cI cJ cZ (p) (n) (cnt) (kn) (rd) (md) (fo) (ps) (nI 0) (b0) ) [0] [1] [1, 0] [(p 1, .inl (cI, 320, .inl Ax))] rfl (by decide) rfl (by decide) (by decide) [(p 0, .inr (5, [.int (nI n), .ref (p 1), .int (nI cnt), .int (bI (kn)), .ref (p 2), .ref (p 3), .ref (p 4), .ref (p 5), .int (nI rd), .int md, .ref (p 6), .int (nI fo), .ref (p 7), .int (nI ps), .int (nI 0), .ref (p 8)])), (p 1, .inl (cI, 320, .inl Ax))] rfl (by decide) rfl dX4_axiom_47 ?_
  refine z_bif_eq (pc := 50) (tgt := 67) hC dX4_axiom_50 (by decide) (fun h50 => absurd hi (by rw [isAx_3 rfl, h34, h50]; simp)) (fun h50 => ?_)
  refine z_aload_n (pc := 53) hC 1 dX4_axiom_53 rfl ?_
  refine z_iload (pc := 54) hC 0 dX4_axiom_54 rfl ?_
  refine z_bipush (pc := 56) (v := (nI 10)) hC dX4_axiom_56 (by decide +kernel) ?_
  refine z_irem (pc := 58) (v := (nI 1)) hC dX4_axiom_58 (by decide +kernel) (by decide +kernel) ?_
  refine z_iload (pc := 59) hC 5 dX4_axiom_59 rfl ?_
  refine z_callV_I (pc := 61) (y := yX4_fits) (wy := wsX4_fits) (rm := { frames := 1, cells := 0, slots := 0, locals := 21 }) (As := [.int (nI 1), .int c0]) (rest := []) (na := 2) (C := RX4) (T := TX4) (NF := 16) (ci := 5) (wc := [(p 0, .inr (5, [.int (nI n), .ref (p 1), .int (nI cnt), .int (bI (kn)), .ref (p 2), .ref (p 3), .ref (p 4), .ref (p 5), .int (nI rd), .int md, .ref (p 6), .int (nI fo), .ref (p 7), .int (nI ps), .int (nI 0), .ref (p 8)]))]) (wc2 := [(p 0, .inr (5, [.int (nI n), .ref (p 1), .int (nI cnt), .int (bI (kn)), .ref (p 2), .ref (p 3), .ref (p 4), .ref (p 5), .int (nI rd), .int md, .ref (p 6), .int (nI fo), .ref (p 7), .int (nI ps), .int (nI 0), .ref (p 8)]))]) hC hRm hDis hLis 0 rfl rfl gX4_axiom_X4_fits ⟨rfl, by decide +kernel, by decide +kernel⟩ rfl ⟨by decide, by decide⟩ ⟨by decide, by decide⟩ rfl (Nat.le_of_ble_eq_true rfl) (by decide +kernel) (c_X4_fits_1 _ _ cI cJ cZ (p) (n) (cnt) (kn) (rd) (md) (fo) (ps) (nI 0) (c0) ) [0] [1] [1, 0] [(p 1, .inl (cI, 320, .inl Ax))] rfl (by decide) rfl (by decide) (by decide) [(p 0, .inr (5, [.int (nI n), .ref (p 1), .int (nI cnt), .int (bI (kn)), .ref (p 2), .ref (p 3), .ref (p 4), .ref (p 5), .int (nI rd), .int md, .ref (p 6), .int (nI fo), .ref (p 7), .int (nI ps), .int (nI 0), .ref (p 8)])), (p 1, .inl (cI, 320, .inl Ax))] rfl (by decide) rfl dX4_axiom_61 ?_
  refine z_bif_ne (pc := 64) (tgt := 69) hC dX4_axiom_64 (by decide) (fun h64 => ?_) (fun h64 => absurd hi (by rw [isAx_3 rfl, h34, h50, h64]; simp))
  refine z_aload_n (pc := 69) hC 1 dX4_axiom_69 rfl ?_
  refine z_get (pc := 70) (C := RX4) (T := TX4) (N := 16) hC hinX4 0 rfl rfl 2 (by decide) (by decide +kernel) rfl dX4_axiom_70 ?_
  refine z_bipush (pc := 73) (v := (nI 80)) hC dX4_axiom_73 (by decide +kernel) ?_
  refine z_ncmp_ne (pc := 75) (tgt := 81) hC dX4_axiom_75 (by decide) (by omega) (by omega) (fun h75 => absurd h75 (by omega)) (fun h75 => ?_)
  refine z_bipush (pc := 78) (v := (-2)) hC dX4_axiom_78 (by decide +kernel) ?_
  exact z_iret (pc := 80) hC hQ hRT (rfl) (rfl) (rfl) dX4_axiom_80

set_option maxRecDepth 100000 in
set_option maxHeartbeats 4000000 in
theorem c_X4_axiom_ok_3 (l : Launch) (D : va_G) (cI cJ cZ : ClassId) (p : Nat → Nat) (n : Nat) (cnt : Nat) (kn : Bool) (rd : Nat) (md : Int32) (fo : Nat) (ps : Nat) (th : Int32) (Ax : Nat → Int32) (a0 : Int32) (b0 : Int32) (c0 : Int32) (hi : isAx n (nI 3) a0 b0 c0 = true) (hc : cnt < 80) : MI l yX4_axiom wsX4_axiom { frames := 2, cells := 0, slots := 0, locals := 43 } D (tyL cI cJ cZ) [.ref (p 0), .int (nI 3), .int a0, .int b0, .int c0] [(p 0, .inr (5, [.int (nI n), .ref (p 1), .int (nI cnt), .int (bI (kn)), .ref (p 2), .ref (p 3), .ref (p 4), .ref (p 5), .int (nI rd), .int md, .ref (p 6), .int (nI fo), .ref (p 7), .int (nI ps), .int th, .ref (p 8)])), (p 1, .inl (cI, 320, .inl Ax))] [(p 0, .inr (5, [.int (nI n), .ref (p 1), .int (nI (cnt + 1)), .int (bI (false)), .ref (p 2), .ref (p 3), .ref (p 4), .ref (p 5), .int (nI rd), .int md, .ref (p 6), .int (nI fo), .ref (p 7), .int (nI ps), .int (nI 0), .ref (p 8)])), (p 1, .inl (cI, 320, .inl (upd (upd (upd (upd Ax (4 * cnt) (nI 3)) (4 * cnt + 1) a0) (4 * cnt + 2) b0) (4 * cnt + 3) c0)))] (nI cnt) := by
  refine metI_of (cc := cX4_axiom) (maxL := 6) (ret := (some .int)) (by decide +kernel) rfl (Nat.le_of_ble_eq_true rfl) ?_
  intro K hC hRm hNL hDis hLis hRT hIni hQ
  have hinX4 : ∀ w ∈ wsX40, w ∈ wsX4_axiom := by decide +kernel
  refine z_aload_n (pc := 0) hC 0 dX4_axiom_0 rfl ?_
  refine z_iconst (pc := 1) (v := (nI 0)) hC dX4_axiom_1 (by decide +kernel) ?_
  refine z_put (pc := 2) (C := RX4) (T := TX4) (N := 16) hC hinX4 0 rfl rfl 14 (by decide) tyX4 tyX4_ok nmX4 (by decide +kernel) rfl (rfl) (rfl) (Nat.le_of_ble_eq_true rfl) [(p 0, .inr (5, [.int (nI n), .ref (p 1), .int (nI cnt), .int (bI (kn)), .ref (p 2), .ref (p 3), .ref (p 4), .ref (p 5), .int (nI rd), .int md, .ref (p 6), .int (nI fo), .ref (p 7), .int (nI ps), .int (nI 0), .ref (p 8)])), (p 1, .inl (cI, 320, .inl Ax))] rfl dX4_axiom_2 ?_
  refine z_iload_n (pc := 5) hC 1 dX4_axiom_5 rfl ?_
  refine z_iconst (pc := 6) (v := (nI 1)) hC dX4_axiom_6 (by decide +kernel) ?_
  refine z_ncmp_lt (pc := 7) (tgt := 16) hC dX4_axiom_7 (by decide) (by omega) (by omega) (fun h7 => absurd h7 (by decide)) (fun h7 => ?_)
  refine z_iload_n (pc := 10) hC 1 dX4_axiom_10 rfl ?_
  refine z_bipush (pc := 11) (v := (nI 7)) hC dX4_axiom_11 (by decide +kernel) ?_
  refine z_ncmp_le (pc := 13) (tgt := 18) hC dX4_axiom_13 (by decide) (by omega) (by omega) (fun h13 => ?_) (fun h13 => absurd h13 (by decide))
  refine z_iload_n (pc := 18) hC 1 dX4_axiom_18 rfl ?_
  refine z_callS_I (pc := 19) (y := yX4_wants) (wy := wsX4_wants) (rm := { frames := 0, cells := 0, slots := 0, locals := 0 }) (As := [.int (nI 3)]) (rest := []) (na := 1)  (wc := []) (wc2 := []) hC hRm hDis hLis gX4_axiom_X4_wants ⟨by decide +kernel, by decide +kernel⟩ rfl ⟨by decide, by decide⟩ ⟨by decide, by decide⟩ rfl (Nat.le_of_ble_eq_true rfl) (by decide +kernel) (c_X4_wants_3 _ _ cI cJ cZ  ) [] [0, 1] [0, 1] [(p 0, .inr (5, [.int (nI n), .ref (p 1), .int (nI cnt), .int (bI (kn)), .ref (p 2), .ref (p 3), .ref (p 4), .ref (p 5), .int (nI rd), .int md, .ref (p 6), .int (nI fo), .ref (p 7), .int (nI ps), .int (nI 0), .ref (p 8)])), (p 1, .inl (cI, 320, .inl Ax))] rfl (by decide) rfl (by decide) (by decide) [(p 0, .inr (5, [.int (nI n), .ref (p 1), .int (nI cnt), .int (bI (kn)), .ref (p 2), .ref (p 3), .ref (p 4), .ref (p 5), .int (nI rd), .int md, .ref (p 6), .int (nI fo), .ref (p 7), .int (nI ps), .int (nI 0), .ref (p 8)])), (p 1, .inl (cI, 320, .inl Ax))] rfl (by decide) rfl dX4_axiom_19 ?_
  refine z_istore (pc := 22) hC hNL [(5, .int (nI 121)), (0, .ref (p 0)), (1, .int (nI 3)), (2, .int a0), (3, .int b0), (4, .int c0)] dX4_axiom_22 (by decide) rfl ?_
  refine z_aload_n (pc := 24) hC 1 dX4_axiom_24 rfl ?_
  refine z_iload (pc := 25) hC 0 dX4_axiom_25 rfl ?_
  refine z_bipush (pc := 27) (v := (nI 100)) hC dX4_axiom_27 (by decide +kernel) ?_
  refine z_idiv (pc := 29) (v := (nI 1)) hC dX4_axiom_29 (by decide +kernel) (by decide +kernel) ?_
  refine z_iload_n (pc := 30) hC 3 dX4_axiom_30 rfl ?_
  refine z_callV_I (pc := 31) (y := yX4_fits) (wy := wsX4_fits) (rm := { frames := 1, cells := 0, slots := 0, locals := 21 }) (As := [.int (nI 1), .int a0]) (rest := []) (na := 2) (C := RX4) (T := TX4) (NF := 16) (ci := 5) (wc := [(p 0, .inr (5, [.int (nI n), .ref (p 1), .int (nI cnt), .int (bI (kn)), .ref (p 2), .ref (p 3), .ref (p 4), .ref (p 5), .int (nI rd), .int md, .ref (p 6), .int (nI fo), .ref (p 7), .int (nI ps), .int (nI 0), .ref (p 8)]))]) (wc2 := [(p 0, .inr (5, [.int (nI n), .ref (p 1), .int (nI cnt), .int (bI (kn)), .ref (p 2), .ref (p 3), .ref (p 4), .ref (p 5), .int (nI rd), .int md, .ref (p 6), .int (nI fo), .ref (p 7), .int (nI ps), .int (nI 0), .ref (p 8)]))]) hC hRm hDis hLis 0 rfl rfl gX4_axiom_X4_fits ⟨rfl, by decide +kernel, by decide +kernel⟩ rfl ⟨by decide, by decide⟩ ⟨by decide, by decide⟩ rfl (Nat.le_of_ble_eq_true rfl) (by decide +kernel) (c_X4_fits_1 _ _ cI cJ cZ (p) (n) (cnt) (kn) (rd) (md) (fo) (ps) (nI 0) (a0) ) [0] [1] [1, 0] [(p 1, .inl (cI, 320, .inl Ax))] rfl (by decide) rfl (by decide) (by decide) [(p 0, .inr (5, [.int (nI n), .ref (p 1), .int (nI cnt), .int (bI (kn)), .ref (p 2), .ref (p 3), .ref (p 4), .ref (p 5), .int (nI rd), .int md, .ref (p 6), .int (nI fo), .ref (p 7), .int (nI ps), .int (nI 0), .ref (p 8)])), (p 1, .inl (cI, 320, .inl Ax))] rfl (by decide) rfl dX4_axiom_31 ?_
  refine z_bif_eq (pc := 34) (tgt := 67) hC dX4_axiom_34 (by decide) (fun h34 => absurd hi (by rw [isAx_3 rfl, h34]; simp)) (fun h34 => ?_)
  refine z_aload_n (pc := 37) hC 1 dX4_axiom_37 rfl ?_
  refine z_iload (pc := 38) hC 0 dX4_axiom_38 rfl ?_
  refine z_bipush (pc := 40) (v := (nI 10)) hC dX4_axiom_40 (by decide +kernel) ?_
  refine z_idiv (pc := 42) (v := (nI 12)) hC dX4_axiom_42 (by decide +kernel) (by decide +kernel) ?_
  refine z_bipush (pc := 43) (v := (nI 10)) hC dX4_axiom_43 (by decide +kernel) ?_
  refine z_irem (pc := 45) (v := (nI 2)) hC dX4_axiom_45 (by decide +kernel) (by decide +kernel) ?_
  refine z_iload_n (pc := 46) hC 4 dX4_axiom_46 rfl ?_
  refine z_callV_I (pc := 47) (y := yX4_fits) (wy := wsX4_fits) (rm := { frames := 1, cells := 0, slots := 0, locals := 20 }) (As := [.int (nI 2), .int b0]) (rest := []) (na := 2) (C := RX4) (T := TX4) (NF := 16) (ci := 5) (wc := [(p 0, .inr (5, [.int (nI n), .ref (p 1), .int (nI cnt), .int (bI (kn)), .ref (p 2), .ref (p 3), .ref (p 4), .ref (p 5), .int (nI rd), .int md, .ref (p 6), .int (nI fo), .ref (p 7), .int (nI ps), .int (nI 0), .ref (p 8)]))]) (wc2 := [(p 0, .inr (5, [.int (nI n), .ref (p 1), .int (nI cnt), .int (bI (kn)), .ref (p 2), .ref (p 3), .ref (p 4), .ref (p 5), .int (nI rd), .int md, .ref (p 6), .int (nI fo), .ref (p 7), .int (nI ps), .int (nI 0), .ref (p 8)]))]) hC hRm hDis hLis 0 rfl rfl gX4_axiom_X4_fits ⟨rfl, by decide +kernel, by decide +kernel⟩ rfl ⟨by decide, by decide⟩ ⟨by decide, by decide⟩ rfl (Nat.le_of_ble_eq_true rfl) (by decide +kernel) (c_X4_fits_2 _ _ cI cJ cZ (p) (n) (cnt) (kn) (rd) (md) (fo) (ps) (nI 0) (b0) ) [0] [1] [1, 0] [(p 1, .inl (cI, 320, .inl Ax))] rfl (by decide) rfl (by decide) (by decide) [(p 0, .inr (5, [.int (nI n), .ref (p 1), .int (nI cnt), .int (bI (kn)), .ref (p 2), .ref (p 3), .ref (p 4), .ref (p 5), .int (nI rd), .int md, .ref (p 6), .int (nI fo), .ref (p 7), .int (nI ps), .int (nI 0), .ref (p 8)])), (p 1, .inl (cI, 320, .inl Ax))] rfl (by decide) rfl dX4_axiom_47 ?_
  refine z_bif_eq (pc := 50) (tgt := 67) hC dX4_axiom_50 (by decide) (fun h50 => absurd hi (by rw [isAx_3 rfl, h34, h50]; simp)) (fun h50 => ?_)
  refine z_aload_n (pc := 53) hC 1 dX4_axiom_53 rfl ?_
  refine z_iload (pc := 54) hC 0 dX4_axiom_54 rfl ?_
  refine z_bipush (pc := 56) (v := (nI 10)) hC dX4_axiom_56 (by decide +kernel) ?_
  refine z_irem (pc := 58) (v := (nI 1)) hC dX4_axiom_58 (by decide +kernel) (by decide +kernel) ?_
  refine z_iload (pc := 59) hC 5 dX4_axiom_59 rfl ?_
  refine z_callV_I (pc := 61) (y := yX4_fits) (wy := wsX4_fits) (rm := { frames := 1, cells := 0, slots := 0, locals := 21 }) (As := [.int (nI 1), .int c0]) (rest := []) (na := 2) (C := RX4) (T := TX4) (NF := 16) (ci := 5) (wc := [(p 0, .inr (5, [.int (nI n), .ref (p 1), .int (nI cnt), .int (bI (kn)), .ref (p 2), .ref (p 3), .ref (p 4), .ref (p 5), .int (nI rd), .int md, .ref (p 6), .int (nI fo), .ref (p 7), .int (nI ps), .int (nI 0), .ref (p 8)]))]) (wc2 := [(p 0, .inr (5, [.int (nI n), .ref (p 1), .int (nI cnt), .int (bI (kn)), .ref (p 2), .ref (p 3), .ref (p 4), .ref (p 5), .int (nI rd), .int md, .ref (p 6), .int (nI fo), .ref (p 7), .int (nI ps), .int (nI 0), .ref (p 8)]))]) hC hRm hDis hLis 0 rfl rfl gX4_axiom_X4_fits ⟨rfl, by decide +kernel, by decide +kernel⟩ rfl ⟨by decide, by decide⟩ ⟨by decide, by decide⟩ rfl (Nat.le_of_ble_eq_true rfl) (by decide +kernel) (c_X4_fits_1 _ _ cI cJ cZ (p) (n) (cnt) (kn) (rd) (md) (fo) (ps) (nI 0) (c0) ) [0] [1] [1, 0] [(p 1, .inl (cI, 320, .inl Ax))] rfl (by decide) rfl (by decide) (by decide) [(p 0, .inr (5, [.int (nI n), .ref (p 1), .int (nI cnt), .int (bI (kn)), .ref (p 2), .ref (p 3), .ref (p 4), .ref (p 5), .int (nI rd), .int md, .ref (p 6), .int (nI fo), .ref (p 7), .int (nI ps), .int (nI 0), .ref (p 8)])), (p 1, .inl (cI, 320, .inl Ax))] rfl (by decide) rfl dX4_axiom_61 ?_
  refine z_bif_ne (pc := 64) (tgt := 69) hC dX4_axiom_64 (by decide) (fun h64 => ?_) (fun h64 => absurd hi (by rw [isAx_3 rfl, h34, h50, h64]; simp))
  refine z_aload_n (pc := 69) hC 1 dX4_axiom_69 rfl ?_
  refine z_get (pc := 70) (C := RX4) (T := TX4) (N := 16) hC hinX4 0 rfl rfl 2 (by decide) (by decide +kernel) rfl dX4_axiom_70 ?_
  refine z_bipush (pc := 73) (v := (nI 80)) hC dX4_axiom_73 (by decide +kernel) ?_
  refine z_ncmp_ne (pc := 75) (tgt := 81) hC dX4_axiom_75 (by decide) (by omega) (by omega) (fun h75 => ?_) (fun h75 => absurd h75 (by omega))
  refine z_aload_n (pc := 81) hC 1 dX4_axiom_81 rfl ?_
  refine z_get (pc := 82) (C := RX4) (T := TX4) (N := 16) hC hinX4 0 rfl rfl 1 (by decide) (by decide +kernel) rfl dX4_axiom_82 ?_
  refine z_iconst (pc := 85) (v := (nI 4)) hC dX4_axiom_85 (by decide +kernel) ?_
  refine z_aload_n (pc := 86) hC 1 dX4_axiom_86 rfl ?_
  refine z_get (pc := 87) (C := RX4) (T := TX4) (N := 16) hC hinX4 0 rfl rfl 2 (by decide) (by decide +kernel) rfl dX4_axiom_87 ?_
  refine z_imul (pc := 90) (v := (nI (4 * cnt))) hC dX4_axiom_90 (pk_mul _ _) ?_
  refine z_iload_n (pc := 91) hC 2 dX4_axiom_91 rfl ?_
  refine z_iast (pc := 92) hC 1 0 rfl rfl (by omega) (by decide) [(p 0, .inr (5, [.int (nI n), .ref (p 1), .int (nI cnt), .int (bI (kn)), .ref (p 2), .ref (p 3), .ref (p 4), .ref (p 5), .int (nI rd), .int md, .ref (p 6), .int (nI fo), .ref (p 7), .int (nI ps), .int (nI 0), .ref (p 8)])), (p 1, .inl (cI, 320, .inl (upd Ax (4 * cnt) (nI 3))))] rfl dX4_axiom_92 ?_
  refine z_aload_n (pc := 93) hC 1 dX4_axiom_93 rfl ?_
  refine z_get (pc := 94) (C := RX4) (T := TX4) (N := 16) hC hinX4 0 rfl rfl 1 (by decide) (by decide +kernel) rfl dX4_axiom_94 ?_
  refine z_iconst (pc := 97) (v := (nI 4)) hC dX4_axiom_97 (by decide +kernel) ?_
  refine z_aload_n (pc := 98) hC 1 dX4_axiom_98 rfl ?_
  refine z_get (pc := 99) (C := RX4) (T := TX4) (N := 16) hC hinX4 0 rfl rfl 2 (by decide) (by decide +kernel) rfl dX4_axiom_99 ?_
  refine z_imul (pc := 102) (v := (nI (4 * cnt))) hC dX4_axiom_102 (pk_mul _ _) ?_
  refine z_iconst (pc := 103) (v := (nI 1)) hC dX4_axiom_103 (by decide +kernel) ?_
  refine z_iadd (pc := 104) (v := (nI (4 * cnt + 1))) hC dX4_axiom_104 (nI_add _ _) ?_
  refine z_iload_n (pc := 105) hC 3 dX4_axiom_105 rfl ?_
  refine z_iast (pc := 106) hC 1 0 rfl rfl (by omega) (by decide) [(p 0, .inr (5, [.int (nI n), .ref (p 1), .int (nI cnt), .int (bI (kn)), .ref (p 2), .ref (p 3), .ref (p 4), .ref (p 5), .int (nI rd), .int md, .ref (p 6), .int (nI fo), .ref (p 7), .int (nI ps), .int (nI 0), .ref (p 8)])), (p 1, .inl (cI, 320, .inl (upd (upd Ax (4 * cnt) (nI 3)) (4 * cnt + 1) a0)))] rfl dX4_axiom_106 ?_
  refine z_aload_n (pc := 107) hC 1 dX4_axiom_107 rfl ?_
  refine z_get (pc := 108) (C := RX4) (T := TX4) (N := 16) hC hinX4 0 rfl rfl 1 (by decide) (by decide +kernel) rfl dX4_axiom_108 ?_
  refine z_iconst (pc := 111) (v := (nI 4)) hC dX4_axiom_111 (by decide +kernel) ?_
  refine z_aload_n (pc := 112) hC 1 dX4_axiom_112 rfl ?_
  refine z_get (pc := 113) (C := RX4) (T := TX4) (N := 16) hC hinX4 0 rfl rfl 2 (by decide) (by decide +kernel) rfl dX4_axiom_113 ?_
  refine z_imul (pc := 116) (v := (nI (4 * cnt))) hC dX4_axiom_116 (pk_mul _ _) ?_
  refine z_iconst (pc := 117) (v := (nI 2)) hC dX4_axiom_117 (by decide +kernel) ?_
  refine z_iadd (pc := 118) (v := (nI (4 * cnt + 2))) hC dX4_axiom_118 (nI_add _ _) ?_
  refine z_iload_n (pc := 119) hC 4 dX4_axiom_119 rfl ?_
  refine z_iast (pc := 120) hC 1 0 rfl rfl (by omega) (by decide) [(p 0, .inr (5, [.int (nI n), .ref (p 1), .int (nI cnt), .int (bI (kn)), .ref (p 2), .ref (p 3), .ref (p 4), .ref (p 5), .int (nI rd), .int md, .ref (p 6), .int (nI fo), .ref (p 7), .int (nI ps), .int (nI 0), .ref (p 8)])), (p 1, .inl (cI, 320, .inl (upd (upd (upd Ax (4 * cnt) (nI 3)) (4 * cnt + 1) a0) (4 * cnt + 2) b0)))] rfl dX4_axiom_120 ?_
  refine z_aload_n (pc := 121) hC 1 dX4_axiom_121 rfl ?_
  refine z_get (pc := 122) (C := RX4) (T := TX4) (N := 16) hC hinX4 0 rfl rfl 1 (by decide) (by decide +kernel) rfl dX4_axiom_122 ?_
  refine z_iconst (pc := 125) (v := (nI 4)) hC dX4_axiom_125 (by decide +kernel) ?_
  refine z_aload_n (pc := 126) hC 1 dX4_axiom_126 rfl ?_
  refine z_get (pc := 127) (C := RX4) (T := TX4) (N := 16) hC hinX4 0 rfl rfl 2 (by decide) (by decide +kernel) rfl dX4_axiom_127 ?_
  refine z_imul (pc := 130) (v := (nI (4 * cnt))) hC dX4_axiom_130 (pk_mul _ _) ?_
  refine z_iconst (pc := 131) (v := (nI 3)) hC dX4_axiom_131 (by decide +kernel) ?_
  refine z_iadd (pc := 132) (v := (nI (4 * cnt + 3))) hC dX4_axiom_132 (nI_add _ _) ?_
  refine z_iload (pc := 133) hC 5 dX4_axiom_133 rfl ?_
  refine z_iast (pc := 135) hC 1 0 rfl rfl (by omega) (by decide) [(p 0, .inr (5, [.int (nI n), .ref (p 1), .int (nI cnt), .int (bI (kn)), .ref (p 2), .ref (p 3), .ref (p 4), .ref (p 5), .int (nI rd), .int md, .ref (p 6), .int (nI fo), .ref (p 7), .int (nI ps), .int (nI 0), .ref (p 8)])), (p 1, .inl (cI, 320, .inl (upd (upd (upd (upd Ax (4 * cnt) (nI 3)) (4 * cnt + 1) a0) (4 * cnt + 2) b0) (4 * cnt + 3) c0)))] rfl dX4_axiom_135 ?_
  refine z_aload_n (pc := 136) hC 1 dX4_axiom_136 rfl ?_
  refine z_dup (pc := 137) hC dX4_axiom_137 rfl ?_
  refine z_get (pc := 138) (C := RX4) (T := TX4) (N := 16) hC hinX4 0 rfl rfl 2 (by decide) (by decide +kernel) rfl dX4_axiom_138 ?_
  refine z_iconst (pc := 141) (v := (nI 1)) hC dX4_axiom_141 (by decide +kernel) ?_
  refine z_iadd (pc := 142) (v := (nI (cnt + 1))) hC dX4_axiom_142 (nI_add _ _) ?_
  refine z_put (pc := 143) (C := RX4) (T := TX4) (N := 16) hC hinX4 0 rfl rfl 2 (by decide) tyX4 tyX4_ok nmX4 (by decide +kernel) rfl (rfl) (rfl) (Nat.le_of_ble_eq_true rfl) [(p 0, .inr (5, [.int (nI n), .ref (p 1), .int (nI (cnt + 1)), .int (bI (kn)), .ref (p 2), .ref (p 3), .ref (p 4), .ref (p 5), .int (nI rd), .int md, .ref (p 6), .int (nI fo), .ref (p 7), .int (nI ps), .int (nI 0), .ref (p 8)])), (p 1, .inl (cI, 320, .inl (upd (upd (upd (upd Ax (4 * cnt) (nI 3)) (4 * cnt + 1) a0) (4 * cnt + 2) b0) (4 * cnt + 3) c0)))] rfl dX4_axiom_143 ?_
  refine z_aload_n (pc := 146) hC 1 dX4_axiom_146 rfl ?_
  refine z_iconst (pc := 147) (v := (nI 0)) hC dX4_axiom_147 (by decide +kernel) ?_
  refine z_topi (bI (false)) rfl ?_
  refine z_put (pc := 148) (C := RX4) (T := TX4) (N := 16) hC hinX4 0 rfl rfl 3 (by decide) tyX4 tyX4_ok nmX4 (by decide +kernel) rfl (by decide +kernel) (by decide +kernel) (Nat.le_of_ble_eq_true rfl) [(p 0, .inr (5, [.int (nI n), .ref (p 1), .int (nI (cnt + 1)), .int (bI (false)), .ref (p 2), .ref (p 3), .ref (p 4), .ref (p 5), .int (nI rd), .int md, .ref (p 6), .int (nI fo), .ref (p 7), .int (nI ps), .int (nI 0), .ref (p 8)])), (p 1, .inl (cI, 320, .inl (upd (upd (upd (upd Ax (4 * cnt) (nI 3)) (4 * cnt + 1) a0) (4 * cnt + 2) b0) (4 * cnt + 3) c0)))] rfl dX4_axiom_148 ?_
  refine z_aload_n (pc := 151) hC 1 dX4_axiom_151 rfl ?_
  refine z_get (pc := 152) (C := RX4) (T := TX4) (N := 16) hC hinX4 0 rfl rfl 2 (by decide) (by decide +kernel) rfl dX4_axiom_152 ?_
  refine z_iconst (pc := 155) (v := (nI 1)) hC dX4_axiom_155 (by decide +kernel) ?_
  refine z_isub (pc := 156) (v := (nI ((cnt + 1) - 1))) hC dX4_axiom_156 (pk_sub (by omega)) ?_
  exact z_iret (pc := 157) hC hQ hRT (rfl) (by rw [Nat.add_sub_cancel]) (rfl) dX4_axiom_157

set_option maxRecDepth 100000 in
set_option maxHeartbeats 4000000 in
theorem c_X4_axiom_bad_4 (l : Launch) (D : va_G) (cI cJ cZ : ClassId) (p : Nat → Nat) (n : Nat) (cnt : Nat) (kn : Bool) (rd : Nat) (md : Int32) (fo : Nat) (ps : Nat) (th : Int32) (Ax : Nat → Int32) (a0 : Int32) (b0 : Int32) (c0 : Int32) (hi : isAx n (nI 4) a0 b0 c0 = false) : MI l yX4_axiom wsX4_axiom { frames := 2, cells := 0, slots := 0, locals := 43 } D (tyL cI cJ cZ) [.ref (p 0), .int (nI 4), .int a0, .int b0, .int c0] [(p 0, .inr (5, [.int (nI n), .ref (p 1), .int (nI cnt), .int (bI (kn)), .ref (p 2), .ref (p 3), .ref (p 4), .ref (p 5), .int (nI rd), .int md, .ref (p 6), .int (nI fo), .ref (p 7), .int (nI ps), .int th, .ref (p 8)])), (p 1, .inl (cI, 320, .inl Ax))] [(p 0, .inr (5, [.int (nI n), .ref (p 1), .int (nI cnt), .int (bI (kn)), .ref (p 2), .ref (p 3), .ref (p 4), .ref (p 5), .int (nI rd), .int md, .ref (p 6), .int (nI fo), .ref (p 7), .int (nI ps), .int (nI 0), .ref (p 8)])), (p 1, .inl (cI, 320, .inl Ax))] (-1) := by
  refine metI_of (cc := cX4_axiom) (maxL := 6) (ret := (some .int)) (by decide +kernel) rfl (Nat.le_of_ble_eq_true rfl) ?_
  intro K hC hRm hNL hDis hLis hRT hIni hQ
  have hinX4 : ∀ w ∈ wsX40, w ∈ wsX4_axiom := by decide +kernel
  refine z_aload_n (pc := 0) hC 0 dX4_axiom_0 rfl ?_
  refine z_iconst (pc := 1) (v := (nI 0)) hC dX4_axiom_1 (by decide +kernel) ?_
  refine z_put (pc := 2) (C := RX4) (T := TX4) (N := 16) hC hinX4 0 rfl rfl 14 (by decide) tyX4 tyX4_ok nmX4 (by decide +kernel) rfl (rfl) (rfl) (Nat.le_of_ble_eq_true rfl) [(p 0, .inr (5, [.int (nI n), .ref (p 1), .int (nI cnt), .int (bI (kn)), .ref (p 2), .ref (p 3), .ref (p 4), .ref (p 5), .int (nI rd), .int md, .ref (p 6), .int (nI fo), .ref (p 7), .int (nI ps), .int (nI 0), .ref (p 8)])), (p 1, .inl (cI, 320, .inl Ax))] rfl dX4_axiom_2 ?_
  refine z_iload_n (pc := 5) hC 1 dX4_axiom_5 rfl ?_
  refine z_iconst (pc := 6) (v := (nI 1)) hC dX4_axiom_6 (by decide +kernel) ?_
  refine z_ncmp_lt (pc := 7) (tgt := 16) hC dX4_axiom_7 (by decide) (by omega) (by omega) (fun h7 => absurd h7 (by decide)) (fun h7 => ?_)
  refine z_iload_n (pc := 10) hC 1 dX4_axiom_10 rfl ?_
  refine z_bipush (pc := 11) (v := (nI 7)) hC dX4_axiom_11 (by decide +kernel) ?_
  refine z_ncmp_le (pc := 13) (tgt := 18) hC dX4_axiom_13 (by decide) (by omega) (by omega) (fun h13 => ?_) (fun h13 => absurd h13 (by decide))
  refine z_iload_n (pc := 18) hC 1 dX4_axiom_18 rfl ?_
  refine z_callS_I (pc := 19) (y := yX4_wants) (wy := wsX4_wants) (rm := { frames := 0, cells := 0, slots := 0, locals := 0 }) (As := [.int (nI 4)]) (rest := []) (na := 1)  (wc := []) (wc2 := []) hC hRm hDis hLis gX4_axiom_X4_wants ⟨by decide +kernel, by decide +kernel⟩ rfl ⟨by decide, by decide⟩ ⟨by decide, by decide⟩ rfl (Nat.le_of_ble_eq_true rfl) (by decide +kernel) (c_X4_wants_4 _ _ cI cJ cZ  ) [] [0, 1] [0, 1] [(p 0, .inr (5, [.int (nI n), .ref (p 1), .int (nI cnt), .int (bI (kn)), .ref (p 2), .ref (p 3), .ref (p 4), .ref (p 5), .int (nI rd), .int md, .ref (p 6), .int (nI fo), .ref (p 7), .int (nI ps), .int (nI 0), .ref (p 8)])), (p 1, .inl (cI, 320, .inl Ax))] rfl (by decide) rfl (by decide) (by decide) [(p 0, .inr (5, [.int (nI n), .ref (p 1), .int (nI cnt), .int (bI (kn)), .ref (p 2), .ref (p 3), .ref (p 4), .ref (p 5), .int (nI rd), .int md, .ref (p 6), .int (nI fo), .ref (p 7), .int (nI ps), .int (nI 0), .ref (p 8)])), (p 1, .inl (cI, 320, .inl Ax))] rfl (by decide) rfl dX4_axiom_19 ?_
  refine z_istore (pc := 22) hC hNL [(5, .int (nI 211)), (0, .ref (p 0)), (1, .int (nI 4)), (2, .int a0), (3, .int b0), (4, .int c0)] dX4_axiom_22 (by decide) rfl ?_
  refine z_aload_n (pc := 24) hC 1 dX4_axiom_24 rfl ?_
  refine z_iload (pc := 25) hC 0 dX4_axiom_25 rfl ?_
  refine z_bipush (pc := 27) (v := (nI 100)) hC dX4_axiom_27 (by decide +kernel) ?_
  refine z_idiv (pc := 29) (v := (nI 2)) hC dX4_axiom_29 (by decide +kernel) (by decide +kernel) ?_
  refine z_iload_n (pc := 30) hC 3 dX4_axiom_30 rfl ?_
  refine z_callV_I (pc := 31) (y := yX4_fits) (wy := wsX4_fits) (rm := { frames := 1, cells := 0, slots := 0, locals := 20 }) (As := [.int (nI 2), .int a0]) (rest := []) (na := 2) (C := RX4) (T := TX4) (NF := 16) (ci := 5) (wc := [(p 0, .inr (5, [.int (nI n), .ref (p 1), .int (nI cnt), .int (bI (kn)), .ref (p 2), .ref (p 3), .ref (p 4), .ref (p 5), .int (nI rd), .int md, .ref (p 6), .int (nI fo), .ref (p 7), .int (nI ps), .int (nI 0), .ref (p 8)]))]) (wc2 := [(p 0, .inr (5, [.int (nI n), .ref (p 1), .int (nI cnt), .int (bI (kn)), .ref (p 2), .ref (p 3), .ref (p 4), .ref (p 5), .int (nI rd), .int md, .ref (p 6), .int (nI fo), .ref (p 7), .int (nI ps), .int (nI 0), .ref (p 8)]))]) hC hRm hDis hLis 0 rfl rfl gX4_axiom_X4_fits ⟨rfl, by decide +kernel, by decide +kernel⟩ rfl ⟨by decide, by decide⟩ ⟨by decide, by decide⟩ rfl (Nat.le_of_ble_eq_true rfl) (by decide +kernel) (c_X4_fits_2 _ _ cI cJ cZ (p) (n) (cnt) (kn) (rd) (md) (fo) (ps) (nI 0) (a0) ) [0] [1] [1, 0] [(p 1, .inl (cI, 320, .inl Ax))] rfl (by decide) rfl (by decide) (by decide) [(p 0, .inr (5, [.int (nI n), .ref (p 1), .int (nI cnt), .int (bI (kn)), .ref (p 2), .ref (p 3), .ref (p 4), .ref (p 5), .int (nI rd), .int md, .ref (p 6), .int (nI fo), .ref (p 7), .int (nI ps), .int (nI 0), .ref (p 8)])), (p 1, .inl (cI, 320, .inl Ax))] rfl (by decide) rfl dX4_axiom_31 ?_
  refine z_bif_eq (pc := 34) (tgt := 67) hC dX4_axiom_34 (by decide) (fun h34 => ?_) (fun h34 => ?_)
  · refine z_iconst (pc := 67) (v := (-1)) hC dX4_axiom_67 (by decide +kernel) ?_
    exact z_iret (pc := 68) hC hQ hRT (rfl) (rfl) (rfl) dX4_axiom_68
  · refine z_aload_n (pc := 37) hC 1 dX4_axiom_37 rfl ?_
    refine z_iload (pc := 38) hC 0 dX4_axiom_38 rfl ?_
    refine z_bipush (pc := 40) (v := (nI 10)) hC dX4_axiom_40 (by decide +kernel) ?_
    refine z_idiv (pc := 42) (v := (nI 21)) hC dX4_axiom_42 (by decide +kernel) (by decide +kernel) ?_
    refine z_bipush (pc := 43) (v := (nI 10)) hC dX4_axiom_43 (by decide +kernel) ?_
    refine z_irem (pc := 45) (v := (nI 1)) hC dX4_axiom_45 (by decide +kernel) (by decide +kernel) ?_
    refine z_iload_n (pc := 46) hC 4 dX4_axiom_46 rfl ?_
    refine z_callV_I (pc := 47) (y := yX4_fits) (wy := wsX4_fits) (rm := { frames := 1, cells := 0, slots := 0, locals := 21 }) (As := [.int (nI 1), .int b0]) (rest := []) (na := 2) (C := RX4) (T := TX4) (NF := 16) (ci := 5) (wc := [(p 0, .inr (5, [.int (nI n), .ref (p 1), .int (nI cnt), .int (bI (kn)), .ref (p 2), .ref (p 3), .ref (p 4), .ref (p 5), .int (nI rd), .int md, .ref (p 6), .int (nI fo), .ref (p 7), .int (nI ps), .int (nI 0), .ref (p 8)]))]) (wc2 := [(p 0, .inr (5, [.int (nI n), .ref (p 1), .int (nI cnt), .int (bI (kn)), .ref (p 2), .ref (p 3), .ref (p 4), .ref (p 5), .int (nI rd), .int md, .ref (p 6), .int (nI fo), .ref (p 7), .int (nI ps), .int (nI 0), .ref (p 8)]))]) hC hRm hDis hLis 0 rfl rfl gX4_axiom_X4_fits ⟨rfl, by decide +kernel, by decide +kernel⟩ rfl ⟨by decide, by decide⟩ ⟨by decide, by decide⟩ rfl (Nat.le_of_ble_eq_true rfl) (by decide +kernel) (c_X4_fits_1 _ _ cI cJ cZ (p) (n) (cnt) (kn) (rd) (md) (fo) (ps) (nI 0) (b0) ) [0] [1] [1, 0] [(p 1, .inl (cI, 320, .inl Ax))] rfl (by decide) rfl (by decide) (by decide) [(p 0, .inr (5, [.int (nI n), .ref (p 1), .int (nI cnt), .int (bI (kn)), .ref (p 2), .ref (p 3), .ref (p 4), .ref (p 5), .int (nI rd), .int md, .ref (p 6), .int (nI fo), .ref (p 7), .int (nI ps), .int (nI 0), .ref (p 8)])), (p 1, .inl (cI, 320, .inl Ax))] rfl (by decide) rfl dX4_axiom_47 ?_
    refine z_bif_eq (pc := 50) (tgt := 67) hC dX4_axiom_50 (by decide) (fun h50 => ?_) (fun h50 => ?_)
    · refine z_iconst (pc := 67) (v := (-1)) hC dX4_axiom_67 (by decide +kernel) ?_
      exact z_iret (pc := 68) hC hQ hRT (rfl) (rfl) (rfl) dX4_axiom_68
    · refine z_aload_n (pc := 53) hC 1 dX4_axiom_53 rfl ?_
      refine z_iload (pc := 54) hC 0 dX4_axiom_54 rfl ?_
      refine z_bipush (pc := 56) (v := (nI 10)) hC dX4_axiom_56 (by decide +kernel) ?_
      refine z_irem (pc := 58) (v := (nI 1)) hC dX4_axiom_58 (by decide +kernel) (by decide +kernel) ?_
      refine z_iload (pc := 59) hC 5 dX4_axiom_59 rfl ?_
      refine z_callV_I (pc := 61) (y := yX4_fits) (wy := wsX4_fits) (rm := { frames := 1, cells := 0, slots := 0, locals := 21 }) (As := [.int (nI 1), .int c0]) (rest := []) (na := 2) (C := RX4) (T := TX4) (NF := 16) (ci := 5) (wc := [(p 0, .inr (5, [.int (nI n), .ref (p 1), .int (nI cnt), .int (bI (kn)), .ref (p 2), .ref (p 3), .ref (p 4), .ref (p 5), .int (nI rd), .int md, .ref (p 6), .int (nI fo), .ref (p 7), .int (nI ps), .int (nI 0), .ref (p 8)]))]) (wc2 := [(p 0, .inr (5, [.int (nI n), .ref (p 1), .int (nI cnt), .int (bI (kn)), .ref (p 2), .ref (p 3), .ref (p 4), .ref (p 5), .int (nI rd), .int md, .ref (p 6), .int (nI fo), .ref (p 7), .int (nI ps), .int (nI 0), .ref (p 8)]))]) hC hRm hDis hLis 0 rfl rfl gX4_axiom_X4_fits ⟨rfl, by decide +kernel, by decide +kernel⟩ rfl ⟨by decide, by decide⟩ ⟨by decide, by decide⟩ rfl (Nat.le_of_ble_eq_true rfl) (by decide +kernel) (c_X4_fits_1 _ _ cI cJ cZ (p) (n) (cnt) (kn) (rd) (md) (fo) (ps) (nI 0) (c0) ) [0] [1] [1, 0] [(p 1, .inl (cI, 320, .inl Ax))] rfl (by decide) rfl (by decide) (by decide) [(p 0, .inr (5, [.int (nI n), .ref (p 1), .int (nI cnt), .int (bI (kn)), .ref (p 2), .ref (p 3), .ref (p 4), .ref (p 5), .int (nI rd), .int md, .ref (p 6), .int (nI fo), .ref (p 7), .int (nI ps), .int (nI 0), .ref (p 8)])), (p 1, .inl (cI, 320, .inl Ax))] rfl (by decide) rfl dX4_axiom_61 ?_
      refine z_bif_ne (pc := 64) (tgt := 69) hC dX4_axiom_64 (by decide) (fun h64 => absurd hi (by rw [isAx_4 rfl, h34, h50, h64]; decide)) (fun h64 => ?_)
      refine z_iconst (pc := 67) (v := (-1)) hC dX4_axiom_67 (by decide +kernel) ?_
      exact z_iret (pc := 68) hC hQ hRT (rfl) (rfl) (rfl) dX4_axiom_68

set_option maxRecDepth 100000 in
set_option maxHeartbeats 4000000 in
theorem c_X4_axiom_full_4 (l : Launch) (D : va_G) (cI cJ cZ : ClassId) (p : Nat → Nat) (n : Nat) (cnt : Nat) (kn : Bool) (rd : Nat) (md : Int32) (fo : Nat) (ps : Nat) (th : Int32) (Ax : Nat → Int32) (a0 : Int32) (b0 : Int32) (c0 : Int32) (hi : isAx n (nI 4) a0 b0 c0 = true) (hc : cnt = 80) : MI l yX4_axiom wsX4_axiom { frames := 2, cells := 0, slots := 0, locals := 43 } D (tyL cI cJ cZ) [.ref (p 0), .int (nI 4), .int a0, .int b0, .int c0] [(p 0, .inr (5, [.int (nI n), .ref (p 1), .int (nI cnt), .int (bI (kn)), .ref (p 2), .ref (p 3), .ref (p 4), .ref (p 5), .int (nI rd), .int md, .ref (p 6), .int (nI fo), .ref (p 7), .int (nI ps), .int th, .ref (p 8)])), (p 1, .inl (cI, 320, .inl Ax))] [(p 0, .inr (5, [.int (nI n), .ref (p 1), .int (nI cnt), .int (bI (kn)), .ref (p 2), .ref (p 3), .ref (p 4), .ref (p 5), .int (nI rd), .int md, .ref (p 6), .int (nI fo), .ref (p 7), .int (nI ps), .int (nI 0), .ref (p 8)])), (p 1, .inl (cI, 320, .inl Ax))] (-2) := by
  refine metI_of (cc := cX4_axiom) (maxL := 6) (ret := (some .int)) (by decide +kernel) rfl (Nat.le_of_ble_eq_true rfl) ?_
  intro K hC hRm hNL hDis hLis hRT hIni hQ
  have hinX4 : ∀ w ∈ wsX40, w ∈ wsX4_axiom := by decide +kernel
  refine z_aload_n (pc := 0) hC 0 dX4_axiom_0 rfl ?_
  refine z_iconst (pc := 1) (v := (nI 0)) hC dX4_axiom_1 (by decide +kernel) ?_
  refine z_put (pc := 2) (C := RX4) (T := TX4) (N := 16) hC hinX4 0 rfl rfl 14 (by decide) tyX4 tyX4_ok nmX4 (by decide +kernel) rfl (rfl) (rfl) (Nat.le_of_ble_eq_true rfl) [(p 0, .inr (5, [.int (nI n), .ref (p 1), .int (nI cnt), .int (bI (kn)), .ref (p 2), .ref (p 3), .ref (p 4), .ref (p 5), .int (nI rd), .int md, .ref (p 6), .int (nI fo), .ref (p 7), .int (nI ps), .int (nI 0), .ref (p 8)])), (p 1, .inl (cI, 320, .inl Ax))] rfl dX4_axiom_2 ?_
  refine z_iload_n (pc := 5) hC 1 dX4_axiom_5 rfl ?_
  refine z_iconst (pc := 6) (v := (nI 1)) hC dX4_axiom_6 (by decide +kernel) ?_
  refine z_ncmp_lt (pc := 7) (tgt := 16) hC dX4_axiom_7 (by decide) (by omega) (by omega) (fun h7 => absurd h7 (by decide)) (fun h7 => ?_)
  refine z_iload_n (pc := 10) hC 1 dX4_axiom_10 rfl ?_
  refine z_bipush (pc := 11) (v := (nI 7)) hC dX4_axiom_11 (by decide +kernel) ?_
  refine z_ncmp_le (pc := 13) (tgt := 18) hC dX4_axiom_13 (by decide) (by omega) (by omega) (fun h13 => ?_) (fun h13 => absurd h13 (by decide))
  refine z_iload_n (pc := 18) hC 1 dX4_axiom_18 rfl ?_
  refine z_callS_I (pc := 19) (y := yX4_wants) (wy := wsX4_wants) (rm := { frames := 0, cells := 0, slots := 0, locals := 0 }) (As := [.int (nI 4)]) (rest := []) (na := 1)  (wc := []) (wc2 := []) hC hRm hDis hLis gX4_axiom_X4_wants ⟨by decide +kernel, by decide +kernel⟩ rfl ⟨by decide, by decide⟩ ⟨by decide, by decide⟩ rfl (Nat.le_of_ble_eq_true rfl) (by decide +kernel) (c_X4_wants_4 _ _ cI cJ cZ  ) [] [0, 1] [0, 1] [(p 0, .inr (5, [.int (nI n), .ref (p 1), .int (nI cnt), .int (bI (kn)), .ref (p 2), .ref (p 3), .ref (p 4), .ref (p 5), .int (nI rd), .int md, .ref (p 6), .int (nI fo), .ref (p 7), .int (nI ps), .int (nI 0), .ref (p 8)])), (p 1, .inl (cI, 320, .inl Ax))] rfl (by decide) rfl (by decide) (by decide) [(p 0, .inr (5, [.int (nI n), .ref (p 1), .int (nI cnt), .int (bI (kn)), .ref (p 2), .ref (p 3), .ref (p 4), .ref (p 5), .int (nI rd), .int md, .ref (p 6), .int (nI fo), .ref (p 7), .int (nI ps), .int (nI 0), .ref (p 8)])), (p 1, .inl (cI, 320, .inl Ax))] rfl (by decide) rfl dX4_axiom_19 ?_
  refine z_istore (pc := 22) hC hNL [(5, .int (nI 211)), (0, .ref (p 0)), (1, .int (nI 4)), (2, .int a0), (3, .int b0), (4, .int c0)] dX4_axiom_22 (by decide) rfl ?_
  refine z_aload_n (pc := 24) hC 1 dX4_axiom_24 rfl ?_
  refine z_iload (pc := 25) hC 0 dX4_axiom_25 rfl ?_
  refine z_bipush (pc := 27) (v := (nI 100)) hC dX4_axiom_27 (by decide +kernel) ?_
  refine z_idiv (pc := 29) (v := (nI 2)) hC dX4_axiom_29 (by decide +kernel) (by decide +kernel) ?_
  refine z_iload_n (pc := 30) hC 3 dX4_axiom_30 rfl ?_
  refine z_callV_I (pc := 31) (y := yX4_fits) (wy := wsX4_fits) (rm := { frames := 1, cells := 0, slots := 0, locals := 20 }) (As := [.int (nI 2), .int a0]) (rest := []) (na := 2) (C := RX4) (T := TX4) (NF := 16) (ci := 5) (wc := [(p 0, .inr (5, [.int (nI n), .ref (p 1), .int (nI cnt), .int (bI (kn)), .ref (p 2), .ref (p 3), .ref (p 4), .ref (p 5), .int (nI rd), .int md, .ref (p 6), .int (nI fo), .ref (p 7), .int (nI ps), .int (nI 0), .ref (p 8)]))]) (wc2 := [(p 0, .inr (5, [.int (nI n), .ref (p 1), .int (nI cnt), .int (bI (kn)), .ref (p 2), .ref (p 3), .ref (p 4), .ref (p 5), .int (nI rd), .int md, .ref (p 6), .int (nI fo), .ref (p 7), .int (nI ps), .int (nI 0), .ref (p 8)]))]) hC hRm hDis hLis 0 rfl rfl gX4_axiom_X4_fits ⟨rfl, by decide +kernel, by decide +kernel⟩ rfl ⟨by decide, by decide⟩ ⟨by decide, by decide⟩ rfl (Nat.le_of_ble_eq_true rfl) (by decide +kernel) (c_X4_fits_2 _ _ cI cJ cZ (p) (n) (cnt) (kn) (rd) (md) (fo) (ps) (nI 0) (a0) ) [0] [1] [1, 0] [(p 1, .inl (cI, 320, .inl Ax))] rfl (by decide) rfl (by decide) (by decide) [(p 0, .inr (5, [.int (nI n), .ref (p 1), .int (nI cnt), .int (bI (kn)), .ref (p 2), .ref (p 3), .ref (p 4), .ref (p 5), .int (nI rd), .int md, .ref (p 6), .int (nI fo), .ref (p 7), .int (nI ps), .int (nI 0), .ref (p 8)])), (p 1, .inl (cI, 320, .inl Ax))] rfl (by decide) rfl dX4_axiom_31 ?_
  refine z_bif_eq (pc := 34) (tgt := 67) hC dX4_axiom_34 (by decide) (fun h34 => absurd hi (by rw [isAx_4 rfl, h34]; simp)) (fun h34 => ?_)
  refine z_aload_n (pc := 37) hC 1 dX4_axiom_37 rfl ?_
  refine z_iload (pc := 38) hC 0 dX4_axiom_38 rfl ?_
  refine z_bipush (pc := 40) (v := (nI 10)) hC dX4_axiom_40 (by decide +kernel) ?_
  refine z_idiv (pc := 42) (v := (nI 21)) hC dX4_axiom_42 (by decide +kernel) (by decide +kernel) ?_
  refine z_bipush (pc := 43) (v := (nI 10)) hC dX4_axiom_43 (by decide +kernel) ?_
  refine z_irem (pc := 45) (v := (nI 1)) hC dX4_axiom_45 (by decide +kernel) (by decide +kernel) ?_
  refine z_iload_n (pc := 46) hC 4 dX4_axiom_46 rfl ?_
  refine z_callV_I (pc := 47) (y := yX4_fits) (wy := wsX4_fits) (rm := { frames := 1, cells := 0, slots := 0, locals := 21 }) (As := [.int (nI 1), .int b0]) (rest := []) (na := 2) (C := RX4) (T := TX4) (NF := 16) (ci := 5) (wc := [(p 0, .inr (5, [.int (nI n), .ref (p 1), .int (nI cnt), .int (bI (kn)), .ref (p 2), .ref (p 3), .ref (p 4), .ref (p 5), .int (nI rd), .int md, .ref (p 6), .int (nI fo), .ref (p 7), .int (nI ps), .int (nI 0), .ref (p 8)]))]) (wc2 := [(p 0, .inr (5, [.int (nI n), .ref (p 1), .int (nI cnt), .int (bI (kn)), .ref (p 2), .ref (p 3), .ref (p 4), .ref (p 5), .int (nI rd), .int md, .ref (p 6), .int (nI fo), .ref (p 7), .int (nI ps), .int (nI 0), .ref (p 8)]))]) hC hRm hDis hLis 0 rfl rfl gX4_axiom_X4_fits ⟨rfl, by decide +kernel, by decide +kernel⟩ rfl ⟨by decide, by decide⟩ ⟨by decide, by decide⟩ rfl (Nat.le_of_ble_eq_true rfl) (by decide +kernel) (c_X4_fits_1 _ _ cI cJ cZ (p) (n) (cnt) (kn) (rd) (md) (fo) (ps) (nI 0) (b0) ) [0] [1] [1, 0] [(p 1, .inl (cI, 320, .inl Ax))] rfl (by decide) rfl (by decide) (by decide) [(p 0, .inr (5, [.int (nI n), .ref (p 1), .int (nI cnt), .int (bI (kn)), .ref (p 2), .ref (p 3), .ref (p 4), .ref (p 5), .int (nI rd), .int md, .ref (p 6), .int (nI fo), .ref (p 7), .int (nI ps), .int (nI 0), .ref (p 8)])), (p 1, .inl (cI, 320, .inl Ax))] rfl (by decide) rfl dX4_axiom_47 ?_
  refine z_bif_eq (pc := 50) (tgt := 67) hC dX4_axiom_50 (by decide) (fun h50 => absurd hi (by rw [isAx_4 rfl, h34, h50]; simp)) (fun h50 => ?_)
  refine z_aload_n (pc := 53) hC 1 dX4_axiom_53 rfl ?_
  refine z_iload (pc := 54) hC 0 dX4_axiom_54 rfl ?_
  refine z_bipush (pc := 56) (v := (nI 10)) hC dX4_axiom_56 (by decide +kernel) ?_
  refine z_irem (pc := 58) (v := (nI 1)) hC dX4_axiom_58 (by decide +kernel) (by decide +kernel) ?_
  refine z_iload (pc := 59) hC 5 dX4_axiom_59 rfl ?_
  refine z_callV_I (pc := 61) (y := yX4_fits) (wy := wsX4_fits) (rm := { frames := 1, cells := 0, slots := 0, locals := 21 }) (As := [.int (nI 1), .int c0]) (rest := []) (na := 2) (C := RX4) (T := TX4) (NF := 16) (ci := 5) (wc := [(p 0, .inr (5, [.int (nI n), .ref (p 1), .int (nI cnt), .int (bI (kn)), .ref (p 2), .ref (p 3), .ref (p 4), .ref (p 5), .int (nI rd), .int md, .ref (p 6), .int (nI fo), .ref (p 7), .int (nI ps), .int (nI 0), .ref (p 8)]))]) (wc2 := [(p 0, .inr (5, [.int (nI n), .ref (p 1), .int (nI cnt), .int (bI (kn)), .ref (p 2), .ref (p 3), .ref (p 4), .ref (p 5), .int (nI rd), .int md, .ref (p 6), .int (nI fo), .ref (p 7), .int (nI ps), .int (nI 0), .ref (p 8)]))]) hC hRm hDis hLis 0 rfl rfl gX4_axiom_X4_fits ⟨rfl, by decide +kernel, by decide +kernel⟩ rfl ⟨by decide, by decide⟩ ⟨by decide, by decide⟩ rfl (Nat.le_of_ble_eq_true rfl) (by decide +kernel) (c_X4_fits_1 _ _ cI cJ cZ (p) (n) (cnt) (kn) (rd) (md) (fo) (ps) (nI 0) (c0) ) [0] [1] [1, 0] [(p 1, .inl (cI, 320, .inl Ax))] rfl (by decide) rfl (by decide) (by decide) [(p 0, .inr (5, [.int (nI n), .ref (p 1), .int (nI cnt), .int (bI (kn)), .ref (p 2), .ref (p 3), .ref (p 4), .ref (p 5), .int (nI rd), .int md, .ref (p 6), .int (nI fo), .ref (p 7), .int (nI ps), .int (nI 0), .ref (p 8)])), (p 1, .inl (cI, 320, .inl Ax))] rfl (by decide) rfl dX4_axiom_61 ?_
  refine z_bif_ne (pc := 64) (tgt := 69) hC dX4_axiom_64 (by decide) (fun h64 => ?_) (fun h64 => absurd hi (by rw [isAx_4 rfl, h34, h50, h64]; simp))
  refine z_aload_n (pc := 69) hC 1 dX4_axiom_69 rfl ?_
  refine z_get (pc := 70) (C := RX4) (T := TX4) (N := 16) hC hinX4 0 rfl rfl 2 (by decide) (by decide +kernel) rfl dX4_axiom_70 ?_
  refine z_bipush (pc := 73) (v := (nI 80)) hC dX4_axiom_73 (by decide +kernel) ?_
  refine z_ncmp_ne (pc := 75) (tgt := 81) hC dX4_axiom_75 (by decide) (by omega) (by omega) (fun h75 => absurd h75 (by omega)) (fun h75 => ?_)
  refine z_bipush (pc := 78) (v := (-2)) hC dX4_axiom_78 (by decide +kernel) ?_
  exact z_iret (pc := 80) hC hQ hRT (rfl) (rfl) (rfl) dX4_axiom_80

set_option maxRecDepth 100000 in
set_option maxHeartbeats 4000000 in
theorem c_X4_axiom_ok_4 (l : Launch) (D : va_G) (cI cJ cZ : ClassId) (p : Nat → Nat) (n : Nat) (cnt : Nat) (kn : Bool) (rd : Nat) (md : Int32) (fo : Nat) (ps : Nat) (th : Int32) (Ax : Nat → Int32) (a0 : Int32) (b0 : Int32) (c0 : Int32) (hi : isAx n (nI 4) a0 b0 c0 = true) (hc : cnt < 80) : MI l yX4_axiom wsX4_axiom { frames := 2, cells := 0, slots := 0, locals := 43 } D (tyL cI cJ cZ) [.ref (p 0), .int (nI 4), .int a0, .int b0, .int c0] [(p 0, .inr (5, [.int (nI n), .ref (p 1), .int (nI cnt), .int (bI (kn)), .ref (p 2), .ref (p 3), .ref (p 4), .ref (p 5), .int (nI rd), .int md, .ref (p 6), .int (nI fo), .ref (p 7), .int (nI ps), .int th, .ref (p 8)])), (p 1, .inl (cI, 320, .inl Ax))] [(p 0, .inr (5, [.int (nI n), .ref (p 1), .int (nI (cnt + 1)), .int (bI (false)), .ref (p 2), .ref (p 3), .ref (p 4), .ref (p 5), .int (nI rd), .int md, .ref (p 6), .int (nI fo), .ref (p 7), .int (nI ps), .int (nI 0), .ref (p 8)])), (p 1, .inl (cI, 320, .inl (upd (upd (upd (upd Ax (4 * cnt) (nI 4)) (4 * cnt + 1) a0) (4 * cnt + 2) b0) (4 * cnt + 3) c0)))] (nI cnt) := by
  refine metI_of (cc := cX4_axiom) (maxL := 6) (ret := (some .int)) (by decide +kernel) rfl (Nat.le_of_ble_eq_true rfl) ?_
  intro K hC hRm hNL hDis hLis hRT hIni hQ
  have hinX4 : ∀ w ∈ wsX40, w ∈ wsX4_axiom := by decide +kernel
  refine z_aload_n (pc := 0) hC 0 dX4_axiom_0 rfl ?_
  refine z_iconst (pc := 1) (v := (nI 0)) hC dX4_axiom_1 (by decide +kernel) ?_
  refine z_put (pc := 2) (C := RX4) (T := TX4) (N := 16) hC hinX4 0 rfl rfl 14 (by decide) tyX4 tyX4_ok nmX4 (by decide +kernel) rfl (rfl) (rfl) (Nat.le_of_ble_eq_true rfl) [(p 0, .inr (5, [.int (nI n), .ref (p 1), .int (nI cnt), .int (bI (kn)), .ref (p 2), .ref (p 3), .ref (p 4), .ref (p 5), .int (nI rd), .int md, .ref (p 6), .int (nI fo), .ref (p 7), .int (nI ps), .int (nI 0), .ref (p 8)])), (p 1, .inl (cI, 320, .inl Ax))] rfl dX4_axiom_2 ?_
  refine z_iload_n (pc := 5) hC 1 dX4_axiom_5 rfl ?_
  refine z_iconst (pc := 6) (v := (nI 1)) hC dX4_axiom_6 (by decide +kernel) ?_
  refine z_ncmp_lt (pc := 7) (tgt := 16) hC dX4_axiom_7 (by decide) (by omega) (by omega) (fun h7 => absurd h7 (by decide)) (fun h7 => ?_)
  refine z_iload_n (pc := 10) hC 1 dX4_axiom_10 rfl ?_
  refine z_bipush (pc := 11) (v := (nI 7)) hC dX4_axiom_11 (by decide +kernel) ?_
  refine z_ncmp_le (pc := 13) (tgt := 18) hC dX4_axiom_13 (by decide) (by omega) (by omega) (fun h13 => ?_) (fun h13 => absurd h13 (by decide))
  refine z_iload_n (pc := 18) hC 1 dX4_axiom_18 rfl ?_
  refine z_callS_I (pc := 19) (y := yX4_wants) (wy := wsX4_wants) (rm := { frames := 0, cells := 0, slots := 0, locals := 0 }) (As := [.int (nI 4)]) (rest := []) (na := 1)  (wc := []) (wc2 := []) hC hRm hDis hLis gX4_axiom_X4_wants ⟨by decide +kernel, by decide +kernel⟩ rfl ⟨by decide, by decide⟩ ⟨by decide, by decide⟩ rfl (Nat.le_of_ble_eq_true rfl) (by decide +kernel) (c_X4_wants_4 _ _ cI cJ cZ  ) [] [0, 1] [0, 1] [(p 0, .inr (5, [.int (nI n), .ref (p 1), .int (nI cnt), .int (bI (kn)), .ref (p 2), .ref (p 3), .ref (p 4), .ref (p 5), .int (nI rd), .int md, .ref (p 6), .int (nI fo), .ref (p 7), .int (nI ps), .int (nI 0), .ref (p 8)])), (p 1, .inl (cI, 320, .inl Ax))] rfl (by decide) rfl (by decide) (by decide) [(p 0, .inr (5, [.int (nI n), .ref (p 1), .int (nI cnt), .int (bI (kn)), .ref (p 2), .ref (p 3), .ref (p 4), .ref (p 5), .int (nI rd), .int md, .ref (p 6), .int (nI fo), .ref (p 7), .int (nI ps), .int (nI 0), .ref (p 8)])), (p 1, .inl (cI, 320, .inl Ax))] rfl (by decide) rfl dX4_axiom_19 ?_
  refine z_istore (pc := 22) hC hNL [(5, .int (nI 211)), (0, .ref (p 0)), (1, .int (nI 4)), (2, .int a0), (3, .int b0), (4, .int c0)] dX4_axiom_22 (by decide) rfl ?_
  refine z_aload_n (pc := 24) hC 1 dX4_axiom_24 rfl ?_
  refine z_iload (pc := 25) hC 0 dX4_axiom_25 rfl ?_
  refine z_bipush (pc := 27) (v := (nI 100)) hC dX4_axiom_27 (by decide +kernel) ?_
  refine z_idiv (pc := 29) (v := (nI 2)) hC dX4_axiom_29 (by decide +kernel) (by decide +kernel) ?_
  refine z_iload_n (pc := 30) hC 3 dX4_axiom_30 rfl ?_
  refine z_callV_I (pc := 31) (y := yX4_fits) (wy := wsX4_fits) (rm := { frames := 1, cells := 0, slots := 0, locals := 20 }) (As := [.int (nI 2), .int a0]) (rest := []) (na := 2) (C := RX4) (T := TX4) (NF := 16) (ci := 5) (wc := [(p 0, .inr (5, [.int (nI n), .ref (p 1), .int (nI cnt), .int (bI (kn)), .ref (p 2), .ref (p 3), .ref (p 4), .ref (p 5), .int (nI rd), .int md, .ref (p 6), .int (nI fo), .ref (p 7), .int (nI ps), .int (nI 0), .ref (p 8)]))]) (wc2 := [(p 0, .inr (5, [.int (nI n), .ref (p 1), .int (nI cnt), .int (bI (kn)), .ref (p 2), .ref (p 3), .ref (p 4), .ref (p 5), .int (nI rd), .int md, .ref (p 6), .int (nI fo), .ref (p 7), .int (nI ps), .int (nI 0), .ref (p 8)]))]) hC hRm hDis hLis 0 rfl rfl gX4_axiom_X4_fits ⟨rfl, by decide +kernel, by decide +kernel⟩ rfl ⟨by decide, by decide⟩ ⟨by decide, by decide⟩ rfl (Nat.le_of_ble_eq_true rfl) (by decide +kernel) (c_X4_fits_2 _ _ cI cJ cZ (p) (n) (cnt) (kn) (rd) (md) (fo) (ps) (nI 0) (a0) ) [0] [1] [1, 0] [(p 1, .inl (cI, 320, .inl Ax))] rfl (by decide) rfl (by decide) (by decide) [(p 0, .inr (5, [.int (nI n), .ref (p 1), .int (nI cnt), .int (bI (kn)), .ref (p 2), .ref (p 3), .ref (p 4), .ref (p 5), .int (nI rd), .int md, .ref (p 6), .int (nI fo), .ref (p 7), .int (nI ps), .int (nI 0), .ref (p 8)])), (p 1, .inl (cI, 320, .inl Ax))] rfl (by decide) rfl dX4_axiom_31 ?_
  refine z_bif_eq (pc := 34) (tgt := 67) hC dX4_axiom_34 (by decide) (fun h34 => absurd hi (by rw [isAx_4 rfl, h34]; simp)) (fun h34 => ?_)
  refine z_aload_n (pc := 37) hC 1 dX4_axiom_37 rfl ?_
  refine z_iload (pc := 38) hC 0 dX4_axiom_38 rfl ?_
  refine z_bipush (pc := 40) (v := (nI 10)) hC dX4_axiom_40 (by decide +kernel) ?_
  refine z_idiv (pc := 42) (v := (nI 21)) hC dX4_axiom_42 (by decide +kernel) (by decide +kernel) ?_
  refine z_bipush (pc := 43) (v := (nI 10)) hC dX4_axiom_43 (by decide +kernel) ?_
  refine z_irem (pc := 45) (v := (nI 1)) hC dX4_axiom_45 (by decide +kernel) (by decide +kernel) ?_
  refine z_iload_n (pc := 46) hC 4 dX4_axiom_46 rfl ?_
  refine z_callV_I (pc := 47) (y := yX4_fits) (wy := wsX4_fits) (rm := { frames := 1, cells := 0, slots := 0, locals := 21 }) (As := [.int (nI 1), .int b0]) (rest := []) (na := 2) (C := RX4) (T := TX4) (NF := 16) (ci := 5) (wc := [(p 0, .inr (5, [.int (nI n), .ref (p 1), .int (nI cnt), .int (bI (kn)), .ref (p 2), .ref (p 3), .ref (p 4), .ref (p 5), .int (nI rd), .int md, .ref (p 6), .int (nI fo), .ref (p 7), .int (nI ps), .int (nI 0), .ref (p 8)]))]) (wc2 := [(p 0, .inr (5, [.int (nI n), .ref (p 1), .int (nI cnt), .int (bI (kn)), .ref (p 2), .ref (p 3), .ref (p 4), .ref (p 5), .int (nI rd), .int md, .ref (p 6), .int (nI fo), .ref (p 7), .int (nI ps), .int (nI 0), .ref (p 8)]))]) hC hRm hDis hLis 0 rfl rfl gX4_axiom_X4_fits ⟨rfl, by decide +kernel, by decide +kernel⟩ rfl ⟨by decide, by decide⟩ ⟨by decide, by decide⟩ rfl (Nat.le_of_ble_eq_true rfl) (by decide +kernel) (c_X4_fits_1 _ _ cI cJ cZ (p) (n) (cnt) (kn) (rd) (md) (fo) (ps) (nI 0) (b0) ) [0] [1] [1, 0] [(p 1, .inl (cI, 320, .inl Ax))] rfl (by decide) rfl (by decide) (by decide) [(p 0, .inr (5, [.int (nI n), .ref (p 1), .int (nI cnt), .int (bI (kn)), .ref (p 2), .ref (p 3), .ref (p 4), .ref (p 5), .int (nI rd), .int md, .ref (p 6), .int (nI fo), .ref (p 7), .int (nI ps), .int (nI 0), .ref (p 8)])), (p 1, .inl (cI, 320, .inl Ax))] rfl (by decide) rfl dX4_axiom_47 ?_
  refine z_bif_eq (pc := 50) (tgt := 67) hC dX4_axiom_50 (by decide) (fun h50 => absurd hi (by rw [isAx_4 rfl, h34, h50]; simp)) (fun h50 => ?_)
  refine z_aload_n (pc := 53) hC 1 dX4_axiom_53 rfl ?_
  refine z_iload (pc := 54) hC 0 dX4_axiom_54 rfl ?_
  refine z_bipush (pc := 56) (v := (nI 10)) hC dX4_axiom_56 (by decide +kernel) ?_
  refine z_irem (pc := 58) (v := (nI 1)) hC dX4_axiom_58 (by decide +kernel) (by decide +kernel) ?_
  refine z_iload (pc := 59) hC 5 dX4_axiom_59 rfl ?_
  refine z_callV_I (pc := 61) (y := yX4_fits) (wy := wsX4_fits) (rm := { frames := 1, cells := 0, slots := 0, locals := 21 }) (As := [.int (nI 1), .int c0]) (rest := []) (na := 2) (C := RX4) (T := TX4) (NF := 16) (ci := 5) (wc := [(p 0, .inr (5, [.int (nI n), .ref (p 1), .int (nI cnt), .int (bI (kn)), .ref (p 2), .ref (p 3), .ref (p 4), .ref (p 5), .int (nI rd), .int md, .ref (p 6), .int (nI fo), .ref (p 7), .int (nI ps), .int (nI 0), .ref (p 8)]))]) (wc2 := [(p 0, .inr (5, [.int (nI n), .ref (p 1), .int (nI cnt), .int (bI (kn)), .ref (p 2), .ref (p 3), .ref (p 4), .ref (p 5), .int (nI rd), .int md, .ref (p 6), .int (nI fo), .ref (p 7), .int (nI ps), .int (nI 0), .ref (p 8)]))]) hC hRm hDis hLis 0 rfl rfl gX4_axiom_X4_fits ⟨rfl, by decide +kernel, by decide +kernel⟩ rfl ⟨by decide, by decide⟩ ⟨by decide, by decide⟩ rfl (Nat.le_of_ble_eq_true rfl) (by decide +kernel) (c_X4_fits_1 _ _ cI cJ cZ (p) (n) (cnt) (kn) (rd) (md) (fo) (ps) (nI 0) (c0) ) [0] [1] [1, 0] [(p 1, .inl (cI, 320, .inl Ax))] rfl (by decide) rfl (by decide) (by decide) [(p 0, .inr (5, [.int (nI n), .ref (p 1), .int (nI cnt), .int (bI (kn)), .ref (p 2), .ref (p 3), .ref (p 4), .ref (p 5), .int (nI rd), .int md, .ref (p 6), .int (nI fo), .ref (p 7), .int (nI ps), .int (nI 0), .ref (p 8)])), (p 1, .inl (cI, 320, .inl Ax))] rfl (by decide) rfl dX4_axiom_61 ?_
  refine z_bif_ne (pc := 64) (tgt := 69) hC dX4_axiom_64 (by decide) (fun h64 => ?_) (fun h64 => absurd hi (by rw [isAx_4 rfl, h34, h50, h64]; simp))
  refine z_aload_n (pc := 69) hC 1 dX4_axiom_69 rfl ?_
  refine z_get (pc := 70) (C := RX4) (T := TX4) (N := 16) hC hinX4 0 rfl rfl 2 (by decide) (by decide +kernel) rfl dX4_axiom_70 ?_
  refine z_bipush (pc := 73) (v := (nI 80)) hC dX4_axiom_73 (by decide +kernel) ?_
  refine z_ncmp_ne (pc := 75) (tgt := 81) hC dX4_axiom_75 (by decide) (by omega) (by omega) (fun h75 => ?_) (fun h75 => absurd h75 (by omega))
  refine z_aload_n (pc := 81) hC 1 dX4_axiom_81 rfl ?_
  refine z_get (pc := 82) (C := RX4) (T := TX4) (N := 16) hC hinX4 0 rfl rfl 1 (by decide) (by decide +kernel) rfl dX4_axiom_82 ?_
  refine z_iconst (pc := 85) (v := (nI 4)) hC dX4_axiom_85 (by decide +kernel) ?_
  refine z_aload_n (pc := 86) hC 1 dX4_axiom_86 rfl ?_
  refine z_get (pc := 87) (C := RX4) (T := TX4) (N := 16) hC hinX4 0 rfl rfl 2 (by decide) (by decide +kernel) rfl dX4_axiom_87 ?_
  refine z_imul (pc := 90) (v := (nI (4 * cnt))) hC dX4_axiom_90 (pk_mul _ _) ?_
  refine z_iload_n (pc := 91) hC 2 dX4_axiom_91 rfl ?_
  refine z_iast (pc := 92) hC 1 0 rfl rfl (by omega) (by decide) [(p 0, .inr (5, [.int (nI n), .ref (p 1), .int (nI cnt), .int (bI (kn)), .ref (p 2), .ref (p 3), .ref (p 4), .ref (p 5), .int (nI rd), .int md, .ref (p 6), .int (nI fo), .ref (p 7), .int (nI ps), .int (nI 0), .ref (p 8)])), (p 1, .inl (cI, 320, .inl (upd Ax (4 * cnt) (nI 4))))] rfl dX4_axiom_92 ?_
  refine z_aload_n (pc := 93) hC 1 dX4_axiom_93 rfl ?_
  refine z_get (pc := 94) (C := RX4) (T := TX4) (N := 16) hC hinX4 0 rfl rfl 1 (by decide) (by decide +kernel) rfl dX4_axiom_94 ?_
  refine z_iconst (pc := 97) (v := (nI 4)) hC dX4_axiom_97 (by decide +kernel) ?_
  refine z_aload_n (pc := 98) hC 1 dX4_axiom_98 rfl ?_
  refine z_get (pc := 99) (C := RX4) (T := TX4) (N := 16) hC hinX4 0 rfl rfl 2 (by decide) (by decide +kernel) rfl dX4_axiom_99 ?_
  refine z_imul (pc := 102) (v := (nI (4 * cnt))) hC dX4_axiom_102 (pk_mul _ _) ?_
  refine z_iconst (pc := 103) (v := (nI 1)) hC dX4_axiom_103 (by decide +kernel) ?_
  refine z_iadd (pc := 104) (v := (nI (4 * cnt + 1))) hC dX4_axiom_104 (nI_add _ _) ?_
  refine z_iload_n (pc := 105) hC 3 dX4_axiom_105 rfl ?_
  refine z_iast (pc := 106) hC 1 0 rfl rfl (by omega) (by decide) [(p 0, .inr (5, [.int (nI n), .ref (p 1), .int (nI cnt), .int (bI (kn)), .ref (p 2), .ref (p 3), .ref (p 4), .ref (p 5), .int (nI rd), .int md, .ref (p 6), .int (nI fo), .ref (p 7), .int (nI ps), .int (nI 0), .ref (p 8)])), (p 1, .inl (cI, 320, .inl (upd (upd Ax (4 * cnt) (nI 4)) (4 * cnt + 1) a0)))] rfl dX4_axiom_106 ?_
  refine z_aload_n (pc := 107) hC 1 dX4_axiom_107 rfl ?_
  refine z_get (pc := 108) (C := RX4) (T := TX4) (N := 16) hC hinX4 0 rfl rfl 1 (by decide) (by decide +kernel) rfl dX4_axiom_108 ?_
  refine z_iconst (pc := 111) (v := (nI 4)) hC dX4_axiom_111 (by decide +kernel) ?_
  refine z_aload_n (pc := 112) hC 1 dX4_axiom_112 rfl ?_
  refine z_get (pc := 113) (C := RX4) (T := TX4) (N := 16) hC hinX4 0 rfl rfl 2 (by decide) (by decide +kernel) rfl dX4_axiom_113 ?_
  refine z_imul (pc := 116) (v := (nI (4 * cnt))) hC dX4_axiom_116 (pk_mul _ _) ?_
  refine z_iconst (pc := 117) (v := (nI 2)) hC dX4_axiom_117 (by decide +kernel) ?_
  refine z_iadd (pc := 118) (v := (nI (4 * cnt + 2))) hC dX4_axiom_118 (nI_add _ _) ?_
  refine z_iload_n (pc := 119) hC 4 dX4_axiom_119 rfl ?_
  refine z_iast (pc := 120) hC 1 0 rfl rfl (by omega) (by decide) [(p 0, .inr (5, [.int (nI n), .ref (p 1), .int (nI cnt), .int (bI (kn)), .ref (p 2), .ref (p 3), .ref (p 4), .ref (p 5), .int (nI rd), .int md, .ref (p 6), .int (nI fo), .ref (p 7), .int (nI ps), .int (nI 0), .ref (p 8)])), (p 1, .inl (cI, 320, .inl (upd (upd (upd Ax (4 * cnt) (nI 4)) (4 * cnt + 1) a0) (4 * cnt + 2) b0)))] rfl dX4_axiom_120 ?_
  refine z_aload_n (pc := 121) hC 1 dX4_axiom_121 rfl ?_
  refine z_get (pc := 122) (C := RX4) (T := TX4) (N := 16) hC hinX4 0 rfl rfl 1 (by decide) (by decide +kernel) rfl dX4_axiom_122 ?_
  refine z_iconst (pc := 125) (v := (nI 4)) hC dX4_axiom_125 (by decide +kernel) ?_
  refine z_aload_n (pc := 126) hC 1 dX4_axiom_126 rfl ?_
  refine z_get (pc := 127) (C := RX4) (T := TX4) (N := 16) hC hinX4 0 rfl rfl 2 (by decide) (by decide +kernel) rfl dX4_axiom_127 ?_
  refine z_imul (pc := 130) (v := (nI (4 * cnt))) hC dX4_axiom_130 (pk_mul _ _) ?_
  refine z_iconst (pc := 131) (v := (nI 3)) hC dX4_axiom_131 (by decide +kernel) ?_
  refine z_iadd (pc := 132) (v := (nI (4 * cnt + 3))) hC dX4_axiom_132 (nI_add _ _) ?_
  refine z_iload (pc := 133) hC 5 dX4_axiom_133 rfl ?_
  refine z_iast (pc := 135) hC 1 0 rfl rfl (by omega) (by decide) [(p 0, .inr (5, [.int (nI n), .ref (p 1), .int (nI cnt), .int (bI (kn)), .ref (p 2), .ref (p 3), .ref (p 4), .ref (p 5), .int (nI rd), .int md, .ref (p 6), .int (nI fo), .ref (p 7), .int (nI ps), .int (nI 0), .ref (p 8)])), (p 1, .inl (cI, 320, .inl (upd (upd (upd (upd Ax (4 * cnt) (nI 4)) (4 * cnt + 1) a0) (4 * cnt + 2) b0) (4 * cnt + 3) c0)))] rfl dX4_axiom_135 ?_
  refine z_aload_n (pc := 136) hC 1 dX4_axiom_136 rfl ?_
  refine z_dup (pc := 137) hC dX4_axiom_137 rfl ?_
  refine z_get (pc := 138) (C := RX4) (T := TX4) (N := 16) hC hinX4 0 rfl rfl 2 (by decide) (by decide +kernel) rfl dX4_axiom_138 ?_
  refine z_iconst (pc := 141) (v := (nI 1)) hC dX4_axiom_141 (by decide +kernel) ?_
  refine z_iadd (pc := 142) (v := (nI (cnt + 1))) hC dX4_axiom_142 (nI_add _ _) ?_
  refine z_put (pc := 143) (C := RX4) (T := TX4) (N := 16) hC hinX4 0 rfl rfl 2 (by decide) tyX4 tyX4_ok nmX4 (by decide +kernel) rfl (rfl) (rfl) (Nat.le_of_ble_eq_true rfl) [(p 0, .inr (5, [.int (nI n), .ref (p 1), .int (nI (cnt + 1)), .int (bI (kn)), .ref (p 2), .ref (p 3), .ref (p 4), .ref (p 5), .int (nI rd), .int md, .ref (p 6), .int (nI fo), .ref (p 7), .int (nI ps), .int (nI 0), .ref (p 8)])), (p 1, .inl (cI, 320, .inl (upd (upd (upd (upd Ax (4 * cnt) (nI 4)) (4 * cnt + 1) a0) (4 * cnt + 2) b0) (4 * cnt + 3) c0)))] rfl dX4_axiom_143 ?_
  refine z_aload_n (pc := 146) hC 1 dX4_axiom_146 rfl ?_
  refine z_iconst (pc := 147) (v := (nI 0)) hC dX4_axiom_147 (by decide +kernel) ?_
  refine z_topi (bI (false)) rfl ?_
  refine z_put (pc := 148) (C := RX4) (T := TX4) (N := 16) hC hinX4 0 rfl rfl 3 (by decide) tyX4 tyX4_ok nmX4 (by decide +kernel) rfl (by decide +kernel) (by decide +kernel) (Nat.le_of_ble_eq_true rfl) [(p 0, .inr (5, [.int (nI n), .ref (p 1), .int (nI (cnt + 1)), .int (bI (false)), .ref (p 2), .ref (p 3), .ref (p 4), .ref (p 5), .int (nI rd), .int md, .ref (p 6), .int (nI fo), .ref (p 7), .int (nI ps), .int (nI 0), .ref (p 8)])), (p 1, .inl (cI, 320, .inl (upd (upd (upd (upd Ax (4 * cnt) (nI 4)) (4 * cnt + 1) a0) (4 * cnt + 2) b0) (4 * cnt + 3) c0)))] rfl dX4_axiom_148 ?_
  refine z_aload_n (pc := 151) hC 1 dX4_axiom_151 rfl ?_
  refine z_get (pc := 152) (C := RX4) (T := TX4) (N := 16) hC hinX4 0 rfl rfl 2 (by decide) (by decide +kernel) rfl dX4_axiom_152 ?_
  refine z_iconst (pc := 155) (v := (nI 1)) hC dX4_axiom_155 (by decide +kernel) ?_
  refine z_isub (pc := 156) (v := (nI ((cnt + 1) - 1))) hC dX4_axiom_156 (pk_sub (by omega)) ?_
  exact z_iret (pc := 157) hC hQ hRT (rfl) (by rw [Nat.add_sub_cancel]) (rfl) dX4_axiom_157

set_option maxRecDepth 100000 in
set_option maxHeartbeats 4000000 in
theorem c_X4_axiom_bad_5 (l : Launch) (D : va_G) (cI cJ cZ : ClassId) (p : Nat → Nat) (n : Nat) (cnt : Nat) (kn : Bool) (rd : Nat) (md : Int32) (fo : Nat) (ps : Nat) (th : Int32) (Ax : Nat → Int32) (a0 : Int32) (b0 : Int32) (c0 : Int32) (hi : isAx n (nI 5) a0 b0 c0 = false) : MI l yX4_axiom wsX4_axiom { frames := 2, cells := 0, slots := 0, locals := 43 } D (tyL cI cJ cZ) [.ref (p 0), .int (nI 5), .int a0, .int b0, .int c0] [(p 0, .inr (5, [.int (nI n), .ref (p 1), .int (nI cnt), .int (bI (kn)), .ref (p 2), .ref (p 3), .ref (p 4), .ref (p 5), .int (nI rd), .int md, .ref (p 6), .int (nI fo), .ref (p 7), .int (nI ps), .int th, .ref (p 8)])), (p 1, .inl (cI, 320, .inl Ax))] [(p 0, .inr (5, [.int (nI n), .ref (p 1), .int (nI cnt), .int (bI (kn)), .ref (p 2), .ref (p 3), .ref (p 4), .ref (p 5), .int (nI rd), .int md, .ref (p 6), .int (nI fo), .ref (p 7), .int (nI ps), .int (nI 0), .ref (p 8)])), (p 1, .inl (cI, 320, .inl Ax))] (-1) := by
  refine metI_of (cc := cX4_axiom) (maxL := 6) (ret := (some .int)) (by decide +kernel) rfl (Nat.le_of_ble_eq_true rfl) ?_
  intro K hC hRm hNL hDis hLis hRT hIni hQ
  have hinX4 : ∀ w ∈ wsX40, w ∈ wsX4_axiom := by decide +kernel
  refine z_aload_n (pc := 0) hC 0 dX4_axiom_0 rfl ?_
  refine z_iconst (pc := 1) (v := (nI 0)) hC dX4_axiom_1 (by decide +kernel) ?_
  refine z_put (pc := 2) (C := RX4) (T := TX4) (N := 16) hC hinX4 0 rfl rfl 14 (by decide) tyX4 tyX4_ok nmX4 (by decide +kernel) rfl (rfl) (rfl) (Nat.le_of_ble_eq_true rfl) [(p 0, .inr (5, [.int (nI n), .ref (p 1), .int (nI cnt), .int (bI (kn)), .ref (p 2), .ref (p 3), .ref (p 4), .ref (p 5), .int (nI rd), .int md, .ref (p 6), .int (nI fo), .ref (p 7), .int (nI ps), .int (nI 0), .ref (p 8)])), (p 1, .inl (cI, 320, .inl Ax))] rfl dX4_axiom_2 ?_
  refine z_iload_n (pc := 5) hC 1 dX4_axiom_5 rfl ?_
  refine z_iconst (pc := 6) (v := (nI 1)) hC dX4_axiom_6 (by decide +kernel) ?_
  refine z_ncmp_lt (pc := 7) (tgt := 16) hC dX4_axiom_7 (by decide) (by omega) (by omega) (fun h7 => absurd h7 (by decide)) (fun h7 => ?_)
  refine z_iload_n (pc := 10) hC 1 dX4_axiom_10 rfl ?_
  refine z_bipush (pc := 11) (v := (nI 7)) hC dX4_axiom_11 (by decide +kernel) ?_
  refine z_ncmp_le (pc := 13) (tgt := 18) hC dX4_axiom_13 (by decide) (by omega) (by omega) (fun h13 => ?_) (fun h13 => absurd h13 (by decide))
  refine z_iload_n (pc := 18) hC 1 dX4_axiom_18 rfl ?_
  refine z_callS_I (pc := 19) (y := yX4_wants) (wy := wsX4_wants) (rm := { frames := 0, cells := 0, slots := 0, locals := 0 }) (As := [.int (nI 5)]) (rest := []) (na := 1)  (wc := []) (wc2 := []) hC hRm hDis hLis gX4_axiom_X4_wants ⟨by decide +kernel, by decide +kernel⟩ rfl ⟨by decide, by decide⟩ ⟨by decide, by decide⟩ rfl (Nat.le_of_ble_eq_true rfl) (by decide +kernel) (c_X4_wants_5 _ _ cI cJ cZ  ) [] [0, 1] [0, 1] [(p 0, .inr (5, [.int (nI n), .ref (p 1), .int (nI cnt), .int (bI (kn)), .ref (p 2), .ref (p 3), .ref (p 4), .ref (p 5), .int (nI rd), .int md, .ref (p 6), .int (nI fo), .ref (p 7), .int (nI ps), .int (nI 0), .ref (p 8)])), (p 1, .inl (cI, 320, .inl Ax))] rfl (by decide) rfl (by decide) (by decide) [(p 0, .inr (5, [.int (nI n), .ref (p 1), .int (nI cnt), .int (bI (kn)), .ref (p 2), .ref (p 3), .ref (p 4), .ref (p 5), .int (nI rd), .int md, .ref (p 6), .int (nI fo), .ref (p 7), .int (nI ps), .int (nI 0), .ref (p 8)])), (p 1, .inl (cI, 320, .inl Ax))] rfl (by decide) rfl dX4_axiom_19 ?_
  refine z_istore (pc := 22) hC hNL [(5, .int (nI 220)), (0, .ref (p 0)), (1, .int (nI 5)), (2, .int a0), (3, .int b0), (4, .int c0)] dX4_axiom_22 (by decide) rfl ?_
  refine z_aload_n (pc := 24) hC 1 dX4_axiom_24 rfl ?_
  refine z_iload (pc := 25) hC 0 dX4_axiom_25 rfl ?_
  refine z_bipush (pc := 27) (v := (nI 100)) hC dX4_axiom_27 (by decide +kernel) ?_
  refine z_idiv (pc := 29) (v := (nI 2)) hC dX4_axiom_29 (by decide +kernel) (by decide +kernel) ?_
  refine z_iload_n (pc := 30) hC 3 dX4_axiom_30 rfl ?_
  refine z_callV_I (pc := 31) (y := yX4_fits) (wy := wsX4_fits) (rm := { frames := 1, cells := 0, slots := 0, locals := 20 }) (As := [.int (nI 2), .int a0]) (rest := []) (na := 2) (C := RX4) (T := TX4) (NF := 16) (ci := 5) (wc := [(p 0, .inr (5, [.int (nI n), .ref (p 1), .int (nI cnt), .int (bI (kn)), .ref (p 2), .ref (p 3), .ref (p 4), .ref (p 5), .int (nI rd), .int md, .ref (p 6), .int (nI fo), .ref (p 7), .int (nI ps), .int (nI 0), .ref (p 8)]))]) (wc2 := [(p 0, .inr (5, [.int (nI n), .ref (p 1), .int (nI cnt), .int (bI (kn)), .ref (p 2), .ref (p 3), .ref (p 4), .ref (p 5), .int (nI rd), .int md, .ref (p 6), .int (nI fo), .ref (p 7), .int (nI ps), .int (nI 0), .ref (p 8)]))]) hC hRm hDis hLis 0 rfl rfl gX4_axiom_X4_fits ⟨rfl, by decide +kernel, by decide +kernel⟩ rfl ⟨by decide, by decide⟩ ⟨by decide, by decide⟩ rfl (Nat.le_of_ble_eq_true rfl) (by decide +kernel) (c_X4_fits_2 _ _ cI cJ cZ (p) (n) (cnt) (kn) (rd) (md) (fo) (ps) (nI 0) (a0) ) [0] [1] [1, 0] [(p 1, .inl (cI, 320, .inl Ax))] rfl (by decide) rfl (by decide) (by decide) [(p 0, .inr (5, [.int (nI n), .ref (p 1), .int (nI cnt), .int (bI (kn)), .ref (p 2), .ref (p 3), .ref (p 4), .ref (p 5), .int (nI rd), .int md, .ref (p 6), .int (nI fo), .ref (p 7), .int (nI ps), .int (nI 0), .ref (p 8)])), (p 1, .inl (cI, 320, .inl Ax))] rfl (by decide) rfl dX4_axiom_31 ?_
  refine z_bif_eq (pc := 34) (tgt := 67) hC dX4_axiom_34 (by decide) (fun h34 => ?_) (fun h34 => ?_)
  · refine z_iconst (pc := 67) (v := (-1)) hC dX4_axiom_67 (by decide +kernel) ?_
    exact z_iret (pc := 68) hC hQ hRT (rfl) (rfl) (rfl) dX4_axiom_68
  · refine z_aload_n (pc := 37) hC 1 dX4_axiom_37 rfl ?_
    refine z_iload (pc := 38) hC 0 dX4_axiom_38 rfl ?_
    refine z_bipush (pc := 40) (v := (nI 10)) hC dX4_axiom_40 (by decide +kernel) ?_
    refine z_idiv (pc := 42) (v := (nI 22)) hC dX4_axiom_42 (by decide +kernel) (by decide +kernel) ?_
    refine z_bipush (pc := 43) (v := (nI 10)) hC dX4_axiom_43 (by decide +kernel) ?_
    refine z_irem (pc := 45) (v := (nI 2)) hC dX4_axiom_45 (by decide +kernel) (by decide +kernel) ?_
    refine z_iload_n (pc := 46) hC 4 dX4_axiom_46 rfl ?_
    refine z_callV_I (pc := 47) (y := yX4_fits) (wy := wsX4_fits) (rm := { frames := 1, cells := 0, slots := 0, locals := 20 }) (As := [.int (nI 2), .int b0]) (rest := []) (na := 2) (C := RX4) (T := TX4) (NF := 16) (ci := 5) (wc := [(p 0, .inr (5, [.int (nI n), .ref (p 1), .int (nI cnt), .int (bI (kn)), .ref (p 2), .ref (p 3), .ref (p 4), .ref (p 5), .int (nI rd), .int md, .ref (p 6), .int (nI fo), .ref (p 7), .int (nI ps), .int (nI 0), .ref (p 8)]))]) (wc2 := [(p 0, .inr (5, [.int (nI n), .ref (p 1), .int (nI cnt), .int (bI (kn)), .ref (p 2), .ref (p 3), .ref (p 4), .ref (p 5), .int (nI rd), .int md, .ref (p 6), .int (nI fo), .ref (p 7), .int (nI ps), .int (nI 0), .ref (p 8)]))]) hC hRm hDis hLis 0 rfl rfl gX4_axiom_X4_fits ⟨rfl, by decide +kernel, by decide +kernel⟩ rfl ⟨by decide, by decide⟩ ⟨by decide, by decide⟩ rfl (Nat.le_of_ble_eq_true rfl) (by decide +kernel) (c_X4_fits_2 _ _ cI cJ cZ (p) (n) (cnt) (kn) (rd) (md) (fo) (ps) (nI 0) (b0) ) [0] [1] [1, 0] [(p 1, .inl (cI, 320, .inl Ax))] rfl (by decide) rfl (by decide) (by decide) [(p 0, .inr (5, [.int (nI n), .ref (p 1), .int (nI cnt), .int (bI (kn)), .ref (p 2), .ref (p 3), .ref (p 4), .ref (p 5), .int (nI rd), .int md, .ref (p 6), .int (nI fo), .ref (p 7), .int (nI ps), .int (nI 0), .ref (p 8)])), (p 1, .inl (cI, 320, .inl Ax))] rfl (by decide) rfl dX4_axiom_47 ?_
    refine z_bif_eq (pc := 50) (tgt := 67) hC dX4_axiom_50 (by decide) (fun h50 => ?_) (fun h50 => absurd hi (by rw [isAx_5 rfl, h34, h50]; decide))
    refine z_iconst (pc := 67) (v := (-1)) hC dX4_axiom_67 (by decide +kernel) ?_
    exact z_iret (pc := 68) hC hQ hRT (rfl) (rfl) (rfl) dX4_axiom_68

set_option maxRecDepth 100000 in
set_option maxHeartbeats 4000000 in
theorem c_X4_axiom_full_5 (l : Launch) (D : va_G) (cI cJ cZ : ClassId) (p : Nat → Nat) (n : Nat) (cnt : Nat) (kn : Bool) (rd : Nat) (md : Int32) (fo : Nat) (ps : Nat) (th : Int32) (Ax : Nat → Int32) (a0 : Int32) (b0 : Int32) (c0 : Int32) (hi : isAx n (nI 5) a0 b0 c0 = true) (hc : cnt = 80) : MI l yX4_axiom wsX4_axiom { frames := 2, cells := 0, slots := 0, locals := 43 } D (tyL cI cJ cZ) [.ref (p 0), .int (nI 5), .int a0, .int b0, .int c0] [(p 0, .inr (5, [.int (nI n), .ref (p 1), .int (nI cnt), .int (bI (kn)), .ref (p 2), .ref (p 3), .ref (p 4), .ref (p 5), .int (nI rd), .int md, .ref (p 6), .int (nI fo), .ref (p 7), .int (nI ps), .int th, .ref (p 8)])), (p 1, .inl (cI, 320, .inl Ax))] [(p 0, .inr (5, [.int (nI n), .ref (p 1), .int (nI cnt), .int (bI (kn)), .ref (p 2), .ref (p 3), .ref (p 4), .ref (p 5), .int (nI rd), .int md, .ref (p 6), .int (nI fo), .ref (p 7), .int (nI ps), .int (nI 0), .ref (p 8)])), (p 1, .inl (cI, 320, .inl Ax))] (-2) := by
  refine metI_of (cc := cX4_axiom) (maxL := 6) (ret := (some .int)) (by decide +kernel) rfl (Nat.le_of_ble_eq_true rfl) ?_
  intro K hC hRm hNL hDis hLis hRT hIni hQ
  have hinX4 : ∀ w ∈ wsX40, w ∈ wsX4_axiom := by decide +kernel
  refine z_aload_n (pc := 0) hC 0 dX4_axiom_0 rfl ?_
  refine z_iconst (pc := 1) (v := (nI 0)) hC dX4_axiom_1 (by decide +kernel) ?_
  refine z_put (pc := 2) (C := RX4) (T := TX4) (N := 16) hC hinX4 0 rfl rfl 14 (by decide) tyX4 tyX4_ok nmX4 (by decide +kernel) rfl (rfl) (rfl) (Nat.le_of_ble_eq_true rfl) [(p 0, .inr (5, [.int (nI n), .ref (p 1), .int (nI cnt), .int (bI (kn)), .ref (p 2), .ref (p 3), .ref (p 4), .ref (p 5), .int (nI rd), .int md, .ref (p 6), .int (nI fo), .ref (p 7), .int (nI ps), .int (nI 0), .ref (p 8)])), (p 1, .inl (cI, 320, .inl Ax))] rfl dX4_axiom_2 ?_
  refine z_iload_n (pc := 5) hC 1 dX4_axiom_5 rfl ?_
  refine z_iconst (pc := 6) (v := (nI 1)) hC dX4_axiom_6 (by decide +kernel) ?_
  refine z_ncmp_lt (pc := 7) (tgt := 16) hC dX4_axiom_7 (by decide) (by omega) (by omega) (fun h7 => absurd h7 (by decide)) (fun h7 => ?_)
  refine z_iload_n (pc := 10) hC 1 dX4_axiom_10 rfl ?_
  refine z_bipush (pc := 11) (v := (nI 7)) hC dX4_axiom_11 (by decide +kernel) ?_
  refine z_ncmp_le (pc := 13) (tgt := 18) hC dX4_axiom_13 (by decide) (by omega) (by omega) (fun h13 => ?_) (fun h13 => absurd h13 (by decide))
  refine z_iload_n (pc := 18) hC 1 dX4_axiom_18 rfl ?_
  refine z_callS_I (pc := 19) (y := yX4_wants) (wy := wsX4_wants) (rm := { frames := 0, cells := 0, slots := 0, locals := 0 }) (As := [.int (nI 5)]) (rest := []) (na := 1)  (wc := []) (wc2 := []) hC hRm hDis hLis gX4_axiom_X4_wants ⟨by decide +kernel, by decide +kernel⟩ rfl ⟨by decide, by decide⟩ ⟨by decide, by decide⟩ rfl (Nat.le_of_ble_eq_true rfl) (by decide +kernel) (c_X4_wants_5 _ _ cI cJ cZ  ) [] [0, 1] [0, 1] [(p 0, .inr (5, [.int (nI n), .ref (p 1), .int (nI cnt), .int (bI (kn)), .ref (p 2), .ref (p 3), .ref (p 4), .ref (p 5), .int (nI rd), .int md, .ref (p 6), .int (nI fo), .ref (p 7), .int (nI ps), .int (nI 0), .ref (p 8)])), (p 1, .inl (cI, 320, .inl Ax))] rfl (by decide) rfl (by decide) (by decide) [(p 0, .inr (5, [.int (nI n), .ref (p 1), .int (nI cnt), .int (bI (kn)), .ref (p 2), .ref (p 3), .ref (p 4), .ref (p 5), .int (nI rd), .int md, .ref (p 6), .int (nI fo), .ref (p 7), .int (nI ps), .int (nI 0), .ref (p 8)])), (p 1, .inl (cI, 320, .inl Ax))] rfl (by decide) rfl dX4_axiom_19 ?_
  refine z_istore (pc := 22) hC hNL [(5, .int (nI 220)), (0, .ref (p 0)), (1, .int (nI 5)), (2, .int a0), (3, .int b0), (4, .int c0)] dX4_axiom_22 (by decide) rfl ?_
  refine z_aload_n (pc := 24) hC 1 dX4_axiom_24 rfl ?_
  refine z_iload (pc := 25) hC 0 dX4_axiom_25 rfl ?_
  refine z_bipush (pc := 27) (v := (nI 100)) hC dX4_axiom_27 (by decide +kernel) ?_
  refine z_idiv (pc := 29) (v := (nI 2)) hC dX4_axiom_29 (by decide +kernel) (by decide +kernel) ?_
  refine z_iload_n (pc := 30) hC 3 dX4_axiom_30 rfl ?_
  refine z_callV_I (pc := 31) (y := yX4_fits) (wy := wsX4_fits) (rm := { frames := 1, cells := 0, slots := 0, locals := 20 }) (As := [.int (nI 2), .int a0]) (rest := []) (na := 2) (C := RX4) (T := TX4) (NF := 16) (ci := 5) (wc := [(p 0, .inr (5, [.int (nI n), .ref (p 1), .int (nI cnt), .int (bI (kn)), .ref (p 2), .ref (p 3), .ref (p 4), .ref (p 5), .int (nI rd), .int md, .ref (p 6), .int (nI fo), .ref (p 7), .int (nI ps), .int (nI 0), .ref (p 8)]))]) (wc2 := [(p 0, .inr (5, [.int (nI n), .ref (p 1), .int (nI cnt), .int (bI (kn)), .ref (p 2), .ref (p 3), .ref (p 4), .ref (p 5), .int (nI rd), .int md, .ref (p 6), .int (nI fo), .ref (p 7), .int (nI ps), .int (nI 0), .ref (p 8)]))]) hC hRm hDis hLis 0 rfl rfl gX4_axiom_X4_fits ⟨rfl, by decide +kernel, by decide +kernel⟩ rfl ⟨by decide, by decide⟩ ⟨by decide, by decide⟩ rfl (Nat.le_of_ble_eq_true rfl) (by decide +kernel) (c_X4_fits_2 _ _ cI cJ cZ (p) (n) (cnt) (kn) (rd) (md) (fo) (ps) (nI 0) (a0) ) [0] [1] [1, 0] [(p 1, .inl (cI, 320, .inl Ax))] rfl (by decide) rfl (by decide) (by decide) [(p 0, .inr (5, [.int (nI n), .ref (p 1), .int (nI cnt), .int (bI (kn)), .ref (p 2), .ref (p 3), .ref (p 4), .ref (p 5), .int (nI rd), .int md, .ref (p 6), .int (nI fo), .ref (p 7), .int (nI ps), .int (nI 0), .ref (p 8)])), (p 1, .inl (cI, 320, .inl Ax))] rfl (by decide) rfl dX4_axiom_31 ?_
  refine z_bif_eq (pc := 34) (tgt := 67) hC dX4_axiom_34 (by decide) (fun h34 => absurd hi (by rw [isAx_5 rfl, h34]; simp)) (fun h34 => ?_)
  refine z_aload_n (pc := 37) hC 1 dX4_axiom_37 rfl ?_
  refine z_iload (pc := 38) hC 0 dX4_axiom_38 rfl ?_
  refine z_bipush (pc := 40) (v := (nI 10)) hC dX4_axiom_40 (by decide +kernel) ?_
  refine z_idiv (pc := 42) (v := (nI 22)) hC dX4_axiom_42 (by decide +kernel) (by decide +kernel) ?_
  refine z_bipush (pc := 43) (v := (nI 10)) hC dX4_axiom_43 (by decide +kernel) ?_
  refine z_irem (pc := 45) (v := (nI 2)) hC dX4_axiom_45 (by decide +kernel) (by decide +kernel) ?_
  refine z_iload_n (pc := 46) hC 4 dX4_axiom_46 rfl ?_
  refine z_callV_I (pc := 47) (y := yX4_fits) (wy := wsX4_fits) (rm := { frames := 1, cells := 0, slots := 0, locals := 20 }) (As := [.int (nI 2), .int b0]) (rest := []) (na := 2) (C := RX4) (T := TX4) (NF := 16) (ci := 5) (wc := [(p 0, .inr (5, [.int (nI n), .ref (p 1), .int (nI cnt), .int (bI (kn)), .ref (p 2), .ref (p 3), .ref (p 4), .ref (p 5), .int (nI rd), .int md, .ref (p 6), .int (nI fo), .ref (p 7), .int (nI ps), .int (nI 0), .ref (p 8)]))]) (wc2 := [(p 0, .inr (5, [.int (nI n), .ref (p 1), .int (nI cnt), .int (bI (kn)), .ref (p 2), .ref (p 3), .ref (p 4), .ref (p 5), .int (nI rd), .int md, .ref (p 6), .int (nI fo), .ref (p 7), .int (nI ps), .int (nI 0), .ref (p 8)]))]) hC hRm hDis hLis 0 rfl rfl gX4_axiom_X4_fits ⟨rfl, by decide +kernel, by decide +kernel⟩ rfl ⟨by decide, by decide⟩ ⟨by decide, by decide⟩ rfl (Nat.le_of_ble_eq_true rfl) (by decide +kernel) (c_X4_fits_2 _ _ cI cJ cZ (p) (n) (cnt) (kn) (rd) (md) (fo) (ps) (nI 0) (b0) ) [0] [1] [1, 0] [(p 1, .inl (cI, 320, .inl Ax))] rfl (by decide) rfl (by decide) (by decide) [(p 0, .inr (5, [.int (nI n), .ref (p 1), .int (nI cnt), .int (bI (kn)), .ref (p 2), .ref (p 3), .ref (p 4), .ref (p 5), .int (nI rd), .int md, .ref (p 6), .int (nI fo), .ref (p 7), .int (nI ps), .int (nI 0), .ref (p 8)])), (p 1, .inl (cI, 320, .inl Ax))] rfl (by decide) rfl dX4_axiom_47 ?_
  refine z_bif_eq (pc := 50) (tgt := 67) hC dX4_axiom_50 (by decide) (fun h50 => absurd hi (by rw [isAx_5 rfl, h34, h50]; simp)) (fun h50 => ?_)
  refine z_aload_n (pc := 53) hC 1 dX4_axiom_53 rfl ?_
  refine z_iload (pc := 54) hC 0 dX4_axiom_54 rfl ?_
  refine z_bipush (pc := 56) (v := (nI 10)) hC dX4_axiom_56 (by decide +kernel) ?_
  refine z_irem (pc := 58) (v := (nI 0)) hC dX4_axiom_58 (by decide +kernel) (by decide +kernel) ?_
  refine z_iload (pc := 59) hC 5 dX4_axiom_59 rfl ?_
  refine z_callV_I (pc := 61) (y := yX4_fits) (wy := wsX4_fits) (rm := { frames := 0, cells := 0, slots := 0, locals := 0 }) (As := [.int (nI 0), .int c0]) (rest := []) (na := 2) (C := RX4) (T := TX4) (NF := 16) (ci := 5) (wc := [(p 0, .inr (5, [.int (nI n), .ref (p 1), .int (nI cnt), .int (bI (kn)), .ref (p 2), .ref (p 3), .ref (p 4), .ref (p 5), .int (nI rd), .int md, .ref (p 6), .int (nI fo), .ref (p 7), .int (nI ps), .int (nI 0), .ref (p 8)]))]) (wc2 := [(p 0, .inr (5, [.int (nI n), .ref (p 1), .int (nI cnt), .int (bI (kn)), .ref (p 2), .ref (p 3), .ref (p 4), .ref (p 5), .int (nI rd), .int md, .ref (p 6), .int (nI fo), .ref (p 7), .int (nI ps), .int (nI 0), .ref (p 8)]))]) hC hRm hDis hLis 0 rfl rfl gX4_axiom_X4_fits ⟨rfl, by decide +kernel, by decide +kernel⟩ rfl ⟨by decide, by decide⟩ ⟨by decide, by decide⟩ rfl (Nat.le_of_ble_eq_true rfl) (by decide +kernel) (c_X4_fits_0 _ _ cI cJ cZ (p) (n) (cnt) (kn) (rd) (md) (fo) (ps) (nI 0) (c0) ) [0] [1] [1, 0] [(p 1, .inl (cI, 320, .inl Ax))] rfl (by decide) rfl (by decide) (by decide) [(p 0, .inr (5, [.int (nI n), .ref (p 1), .int (nI cnt), .int (bI (kn)), .ref (p 2), .ref (p 3), .ref (p 4), .ref (p 5), .int (nI rd), .int md, .ref (p 6), .int (nI fo), .ref (p 7), .int (nI ps), .int (nI 0), .ref (p 8)])), (p 1, .inl (cI, 320, .inl Ax))] rfl (by decide) rfl dX4_axiom_61 ?_
  refine z_bif_ne (pc := 64) (tgt := 69) hC dX4_axiom_64 (by decide) (fun h64 => ?_) (fun h64 => absurd h64 (by decide))
  refine z_aload_n (pc := 69) hC 1 dX4_axiom_69 rfl ?_
  refine z_get (pc := 70) (C := RX4) (T := TX4) (N := 16) hC hinX4 0 rfl rfl 2 (by decide) (by decide +kernel) rfl dX4_axiom_70 ?_
  refine z_bipush (pc := 73) (v := (nI 80)) hC dX4_axiom_73 (by decide +kernel) ?_
  refine z_ncmp_ne (pc := 75) (tgt := 81) hC dX4_axiom_75 (by decide) (by omega) (by omega) (fun h75 => absurd h75 (by omega)) (fun h75 => ?_)
  refine z_bipush (pc := 78) (v := (-2)) hC dX4_axiom_78 (by decide +kernel) ?_
  exact z_iret (pc := 80) hC hQ hRT (rfl) (rfl) (rfl) dX4_axiom_80

set_option maxRecDepth 100000 in
set_option maxHeartbeats 4000000 in
theorem c_X4_axiom_ok_5 (l : Launch) (D : va_G) (cI cJ cZ : ClassId) (p : Nat → Nat) (n : Nat) (cnt : Nat) (kn : Bool) (rd : Nat) (md : Int32) (fo : Nat) (ps : Nat) (th : Int32) (Ax : Nat → Int32) (a0 : Int32) (b0 : Int32) (c0 : Int32) (hi : isAx n (nI 5) a0 b0 c0 = true) (hc : cnt < 80) : MI l yX4_axiom wsX4_axiom { frames := 2, cells := 0, slots := 0, locals := 43 } D (tyL cI cJ cZ) [.ref (p 0), .int (nI 5), .int a0, .int b0, .int c0] [(p 0, .inr (5, [.int (nI n), .ref (p 1), .int (nI cnt), .int (bI (kn)), .ref (p 2), .ref (p 3), .ref (p 4), .ref (p 5), .int (nI rd), .int md, .ref (p 6), .int (nI fo), .ref (p 7), .int (nI ps), .int th, .ref (p 8)])), (p 1, .inl (cI, 320, .inl Ax))] [(p 0, .inr (5, [.int (nI n), .ref (p 1), .int (nI (cnt + 1)), .int (bI (false)), .ref (p 2), .ref (p 3), .ref (p 4), .ref (p 5), .int (nI rd), .int md, .ref (p 6), .int (nI fo), .ref (p 7), .int (nI ps), .int (nI 0), .ref (p 8)])), (p 1, .inl (cI, 320, .inl (upd (upd (upd (upd Ax (4 * cnt) (nI 5)) (4 * cnt + 1) a0) (4 * cnt + 2) b0) (4 * cnt + 3) c0)))] (nI cnt) := by
  refine metI_of (cc := cX4_axiom) (maxL := 6) (ret := (some .int)) (by decide +kernel) rfl (Nat.le_of_ble_eq_true rfl) ?_
  intro K hC hRm hNL hDis hLis hRT hIni hQ
  have hinX4 : ∀ w ∈ wsX40, w ∈ wsX4_axiom := by decide +kernel
  refine z_aload_n (pc := 0) hC 0 dX4_axiom_0 rfl ?_
  refine z_iconst (pc := 1) (v := (nI 0)) hC dX4_axiom_1 (by decide +kernel) ?_
  refine z_put (pc := 2) (C := RX4) (T := TX4) (N := 16) hC hinX4 0 rfl rfl 14 (by decide) tyX4 tyX4_ok nmX4 (by decide +kernel) rfl (rfl) (rfl) (Nat.le_of_ble_eq_true rfl) [(p 0, .inr (5, [.int (nI n), .ref (p 1), .int (nI cnt), .int (bI (kn)), .ref (p 2), .ref (p 3), .ref (p 4), .ref (p 5), .int (nI rd), .int md, .ref (p 6), .int (nI fo), .ref (p 7), .int (nI ps), .int (nI 0), .ref (p 8)])), (p 1, .inl (cI, 320, .inl Ax))] rfl dX4_axiom_2 ?_
  refine z_iload_n (pc := 5) hC 1 dX4_axiom_5 rfl ?_
  refine z_iconst (pc := 6) (v := (nI 1)) hC dX4_axiom_6 (by decide +kernel) ?_
  refine z_ncmp_lt (pc := 7) (tgt := 16) hC dX4_axiom_7 (by decide) (by omega) (by omega) (fun h7 => absurd h7 (by decide)) (fun h7 => ?_)
  refine z_iload_n (pc := 10) hC 1 dX4_axiom_10 rfl ?_
  refine z_bipush (pc := 11) (v := (nI 7)) hC dX4_axiom_11 (by decide +kernel) ?_
  refine z_ncmp_le (pc := 13) (tgt := 18) hC dX4_axiom_13 (by decide) (by omega) (by omega) (fun h13 => ?_) (fun h13 => absurd h13 (by decide))
  refine z_iload_n (pc := 18) hC 1 dX4_axiom_18 rfl ?_
  refine z_callS_I (pc := 19) (y := yX4_wants) (wy := wsX4_wants) (rm := { frames := 0, cells := 0, slots := 0, locals := 0 }) (As := [.int (nI 5)]) (rest := []) (na := 1)  (wc := []) (wc2 := []) hC hRm hDis hLis gX4_axiom_X4_wants ⟨by decide +kernel, by decide +kernel⟩ rfl ⟨by decide, by decide⟩ ⟨by decide, by decide⟩ rfl (Nat.le_of_ble_eq_true rfl) (by decide +kernel) (c_X4_wants_5 _ _ cI cJ cZ  ) [] [0, 1] [0, 1] [(p 0, .inr (5, [.int (nI n), .ref (p 1), .int (nI cnt), .int (bI (kn)), .ref (p 2), .ref (p 3), .ref (p 4), .ref (p 5), .int (nI rd), .int md, .ref (p 6), .int (nI fo), .ref (p 7), .int (nI ps), .int (nI 0), .ref (p 8)])), (p 1, .inl (cI, 320, .inl Ax))] rfl (by decide) rfl (by decide) (by decide) [(p 0, .inr (5, [.int (nI n), .ref (p 1), .int (nI cnt), .int (bI (kn)), .ref (p 2), .ref (p 3), .ref (p 4), .ref (p 5), .int (nI rd), .int md, .ref (p 6), .int (nI fo), .ref (p 7), .int (nI ps), .int (nI 0), .ref (p 8)])), (p 1, .inl (cI, 320, .inl Ax))] rfl (by decide) rfl dX4_axiom_19 ?_
  refine z_istore (pc := 22) hC hNL [(5, .int (nI 220)), (0, .ref (p 0)), (1, .int (nI 5)), (2, .int a0), (3, .int b0), (4, .int c0)] dX4_axiom_22 (by decide) rfl ?_
  refine z_aload_n (pc := 24) hC 1 dX4_axiom_24 rfl ?_
  refine z_iload (pc := 25) hC 0 dX4_axiom_25 rfl ?_
  refine z_bipush (pc := 27) (v := (nI 100)) hC dX4_axiom_27 (by decide +kernel) ?_
  refine z_idiv (pc := 29) (v := (nI 2)) hC dX4_axiom_29 (by decide +kernel) (by decide +kernel) ?_
  refine z_iload_n (pc := 30) hC 3 dX4_axiom_30 rfl ?_
  refine z_callV_I (pc := 31) (y := yX4_fits) (wy := wsX4_fits) (rm := { frames := 1, cells := 0, slots := 0, locals := 20 }) (As := [.int (nI 2), .int a0]) (rest := []) (na := 2) (C := RX4) (T := TX4) (NF := 16) (ci := 5) (wc := [(p 0, .inr (5, [.int (nI n), .ref (p 1), .int (nI cnt), .int (bI (kn)), .ref (p 2), .ref (p 3), .ref (p 4), .ref (p 5), .int (nI rd), .int md, .ref (p 6), .int (nI fo), .ref (p 7), .int (nI ps), .int (nI 0), .ref (p 8)]))]) (wc2 := [(p 0, .inr (5, [.int (nI n), .ref (p 1), .int (nI cnt), .int (bI (kn)), .ref (p 2), .ref (p 3), .ref (p 4), .ref (p 5), .int (nI rd), .int md, .ref (p 6), .int (nI fo), .ref (p 7), .int (nI ps), .int (nI 0), .ref (p 8)]))]) hC hRm hDis hLis 0 rfl rfl gX4_axiom_X4_fits ⟨rfl, by decide +kernel, by decide +kernel⟩ rfl ⟨by decide, by decide⟩ ⟨by decide, by decide⟩ rfl (Nat.le_of_ble_eq_true rfl) (by decide +kernel) (c_X4_fits_2 _ _ cI cJ cZ (p) (n) (cnt) (kn) (rd) (md) (fo) (ps) (nI 0) (a0) ) [0] [1] [1, 0] [(p 1, .inl (cI, 320, .inl Ax))] rfl (by decide) rfl (by decide) (by decide) [(p 0, .inr (5, [.int (nI n), .ref (p 1), .int (nI cnt), .int (bI (kn)), .ref (p 2), .ref (p 3), .ref (p 4), .ref (p 5), .int (nI rd), .int md, .ref (p 6), .int (nI fo), .ref (p 7), .int (nI ps), .int (nI 0), .ref (p 8)])), (p 1, .inl (cI, 320, .inl Ax))] rfl (by decide) rfl dX4_axiom_31 ?_
  refine z_bif_eq (pc := 34) (tgt := 67) hC dX4_axiom_34 (by decide) (fun h34 => absurd hi (by rw [isAx_5 rfl, h34]; simp)) (fun h34 => ?_)
  refine z_aload_n (pc := 37) hC 1 dX4_axiom_37 rfl ?_
  refine z_iload (pc := 38) hC 0 dX4_axiom_38 rfl ?_
  refine z_bipush (pc := 40) (v := (nI 10)) hC dX4_axiom_40 (by decide +kernel) ?_
  refine z_idiv (pc := 42) (v := (nI 22)) hC dX4_axiom_42 (by decide +kernel) (by decide +kernel) ?_
  refine z_bipush (pc := 43) (v := (nI 10)) hC dX4_axiom_43 (by decide +kernel) ?_
  refine z_irem (pc := 45) (v := (nI 2)) hC dX4_axiom_45 (by decide +kernel) (by decide +kernel) ?_
  refine z_iload_n (pc := 46) hC 4 dX4_axiom_46 rfl ?_
  refine z_callV_I (pc := 47) (y := yX4_fits) (wy := wsX4_fits) (rm := { frames := 1, cells := 0, slots := 0, locals := 20 }) (As := [.int (nI 2), .int b0]) (rest := []) (na := 2) (C := RX4) (T := TX4) (NF := 16) (ci := 5) (wc := [(p 0, .inr (5, [.int (nI n), .ref (p 1), .int (nI cnt), .int (bI (kn)), .ref (p 2), .ref (p 3), .ref (p 4), .ref (p 5), .int (nI rd), .int md, .ref (p 6), .int (nI fo), .ref (p 7), .int (nI ps), .int (nI 0), .ref (p 8)]))]) (wc2 := [(p 0, .inr (5, [.int (nI n), .ref (p 1), .int (nI cnt), .int (bI (kn)), .ref (p 2), .ref (p 3), .ref (p 4), .ref (p 5), .int (nI rd), .int md, .ref (p 6), .int (nI fo), .ref (p 7), .int (nI ps), .int (nI 0), .ref (p 8)]))]) hC hRm hDis hLis 0 rfl rfl gX4_axiom_X4_fits ⟨rfl, by decide +kernel, by decide +kernel⟩ rfl ⟨by decide, by decide⟩ ⟨by decide, by decide⟩ rfl (Nat.le_of_ble_eq_true rfl) (by decide +kernel) (c_X4_fits_2 _ _ cI cJ cZ (p) (n) (cnt) (kn) (rd) (md) (fo) (ps) (nI 0) (b0) ) [0] [1] [1, 0] [(p 1, .inl (cI, 320, .inl Ax))] rfl (by decide) rfl (by decide) (by decide) [(p 0, .inr (5, [.int (nI n), .ref (p 1), .int (nI cnt), .int (bI (kn)), .ref (p 2), .ref (p 3), .ref (p 4), .ref (p 5), .int (nI rd), .int md, .ref (p 6), .int (nI fo), .ref (p 7), .int (nI ps), .int (nI 0), .ref (p 8)])), (p 1, .inl (cI, 320, .inl Ax))] rfl (by decide) rfl dX4_axiom_47 ?_
  refine z_bif_eq (pc := 50) (tgt := 67) hC dX4_axiom_50 (by decide) (fun h50 => absurd hi (by rw [isAx_5 rfl, h34, h50]; simp)) (fun h50 => ?_)
  refine z_aload_n (pc := 53) hC 1 dX4_axiom_53 rfl ?_
  refine z_iload (pc := 54) hC 0 dX4_axiom_54 rfl ?_
  refine z_bipush (pc := 56) (v := (nI 10)) hC dX4_axiom_56 (by decide +kernel) ?_
  refine z_irem (pc := 58) (v := (nI 0)) hC dX4_axiom_58 (by decide +kernel) (by decide +kernel) ?_
  refine z_iload (pc := 59) hC 5 dX4_axiom_59 rfl ?_
  refine z_callV_I (pc := 61) (y := yX4_fits) (wy := wsX4_fits) (rm := { frames := 0, cells := 0, slots := 0, locals := 0 }) (As := [.int (nI 0), .int c0]) (rest := []) (na := 2) (C := RX4) (T := TX4) (NF := 16) (ci := 5) (wc := [(p 0, .inr (5, [.int (nI n), .ref (p 1), .int (nI cnt), .int (bI (kn)), .ref (p 2), .ref (p 3), .ref (p 4), .ref (p 5), .int (nI rd), .int md, .ref (p 6), .int (nI fo), .ref (p 7), .int (nI ps), .int (nI 0), .ref (p 8)]))]) (wc2 := [(p 0, .inr (5, [.int (nI n), .ref (p 1), .int (nI cnt), .int (bI (kn)), .ref (p 2), .ref (p 3), .ref (p 4), .ref (p 5), .int (nI rd), .int md, .ref (p 6), .int (nI fo), .ref (p 7), .int (nI ps), .int (nI 0), .ref (p 8)]))]) hC hRm hDis hLis 0 rfl rfl gX4_axiom_X4_fits ⟨rfl, by decide +kernel, by decide +kernel⟩ rfl ⟨by decide, by decide⟩ ⟨by decide, by decide⟩ rfl (Nat.le_of_ble_eq_true rfl) (by decide +kernel) (c_X4_fits_0 _ _ cI cJ cZ (p) (n) (cnt) (kn) (rd) (md) (fo) (ps) (nI 0) (c0) ) [0] [1] [1, 0] [(p 1, .inl (cI, 320, .inl Ax))] rfl (by decide) rfl (by decide) (by decide) [(p 0, .inr (5, [.int (nI n), .ref (p 1), .int (nI cnt), .int (bI (kn)), .ref (p 2), .ref (p 3), .ref (p 4), .ref (p 5), .int (nI rd), .int md, .ref (p 6), .int (nI fo), .ref (p 7), .int (nI ps), .int (nI 0), .ref (p 8)])), (p 1, .inl (cI, 320, .inl Ax))] rfl (by decide) rfl dX4_axiom_61 ?_
  refine z_bif_ne (pc := 64) (tgt := 69) hC dX4_axiom_64 (by decide) (fun h64 => ?_) (fun h64 => absurd h64 (by decide))
  refine z_aload_n (pc := 69) hC 1 dX4_axiom_69 rfl ?_
  refine z_get (pc := 70) (C := RX4) (T := TX4) (N := 16) hC hinX4 0 rfl rfl 2 (by decide) (by decide +kernel) rfl dX4_axiom_70 ?_
  refine z_bipush (pc := 73) (v := (nI 80)) hC dX4_axiom_73 (by decide +kernel) ?_
  refine z_ncmp_ne (pc := 75) (tgt := 81) hC dX4_axiom_75 (by decide) (by omega) (by omega) (fun h75 => ?_) (fun h75 => absurd h75 (by omega))
  refine z_aload_n (pc := 81) hC 1 dX4_axiom_81 rfl ?_
  refine z_get (pc := 82) (C := RX4) (T := TX4) (N := 16) hC hinX4 0 rfl rfl 1 (by decide) (by decide +kernel) rfl dX4_axiom_82 ?_
  refine z_iconst (pc := 85) (v := (nI 4)) hC dX4_axiom_85 (by decide +kernel) ?_
  refine z_aload_n (pc := 86) hC 1 dX4_axiom_86 rfl ?_
  refine z_get (pc := 87) (C := RX4) (T := TX4) (N := 16) hC hinX4 0 rfl rfl 2 (by decide) (by decide +kernel) rfl dX4_axiom_87 ?_
  refine z_imul (pc := 90) (v := (nI (4 * cnt))) hC dX4_axiom_90 (pk_mul _ _) ?_
  refine z_iload_n (pc := 91) hC 2 dX4_axiom_91 rfl ?_
  refine z_iast (pc := 92) hC 1 0 rfl rfl (by omega) (by decide) [(p 0, .inr (5, [.int (nI n), .ref (p 1), .int (nI cnt), .int (bI (kn)), .ref (p 2), .ref (p 3), .ref (p 4), .ref (p 5), .int (nI rd), .int md, .ref (p 6), .int (nI fo), .ref (p 7), .int (nI ps), .int (nI 0), .ref (p 8)])), (p 1, .inl (cI, 320, .inl (upd Ax (4 * cnt) (nI 5))))] rfl dX4_axiom_92 ?_
  refine z_aload_n (pc := 93) hC 1 dX4_axiom_93 rfl ?_
  refine z_get (pc := 94) (C := RX4) (T := TX4) (N := 16) hC hinX4 0 rfl rfl 1 (by decide) (by decide +kernel) rfl dX4_axiom_94 ?_
  refine z_iconst (pc := 97) (v := (nI 4)) hC dX4_axiom_97 (by decide +kernel) ?_
  refine z_aload_n (pc := 98) hC 1 dX4_axiom_98 rfl ?_
  refine z_get (pc := 99) (C := RX4) (T := TX4) (N := 16) hC hinX4 0 rfl rfl 2 (by decide) (by decide +kernel) rfl dX4_axiom_99 ?_
  refine z_imul (pc := 102) (v := (nI (4 * cnt))) hC dX4_axiom_102 (pk_mul _ _) ?_
  refine z_iconst (pc := 103) (v := (nI 1)) hC dX4_axiom_103 (by decide +kernel) ?_
  refine z_iadd (pc := 104) (v := (nI (4 * cnt + 1))) hC dX4_axiom_104 (nI_add _ _) ?_
  refine z_iload_n (pc := 105) hC 3 dX4_axiom_105 rfl ?_
  refine z_iast (pc := 106) hC 1 0 rfl rfl (by omega) (by decide) [(p 0, .inr (5, [.int (nI n), .ref (p 1), .int (nI cnt), .int (bI (kn)), .ref (p 2), .ref (p 3), .ref (p 4), .ref (p 5), .int (nI rd), .int md, .ref (p 6), .int (nI fo), .ref (p 7), .int (nI ps), .int (nI 0), .ref (p 8)])), (p 1, .inl (cI, 320, .inl (upd (upd Ax (4 * cnt) (nI 5)) (4 * cnt + 1) a0)))] rfl dX4_axiom_106 ?_
  refine z_aload_n (pc := 107) hC 1 dX4_axiom_107 rfl ?_
  refine z_get (pc := 108) (C := RX4) (T := TX4) (N := 16) hC hinX4 0 rfl rfl 1 (by decide) (by decide +kernel) rfl dX4_axiom_108 ?_
  refine z_iconst (pc := 111) (v := (nI 4)) hC dX4_axiom_111 (by decide +kernel) ?_
  refine z_aload_n (pc := 112) hC 1 dX4_axiom_112 rfl ?_
  refine z_get (pc := 113) (C := RX4) (T := TX4) (N := 16) hC hinX4 0 rfl rfl 2 (by decide) (by decide +kernel) rfl dX4_axiom_113 ?_
  refine z_imul (pc := 116) (v := (nI (4 * cnt))) hC dX4_axiom_116 (pk_mul _ _) ?_
  refine z_iconst (pc := 117) (v := (nI 2)) hC dX4_axiom_117 (by decide +kernel) ?_
  refine z_iadd (pc := 118) (v := (nI (4 * cnt + 2))) hC dX4_axiom_118 (nI_add _ _) ?_
  refine z_iload_n (pc := 119) hC 4 dX4_axiom_119 rfl ?_
  refine z_iast (pc := 120) hC 1 0 rfl rfl (by omega) (by decide) [(p 0, .inr (5, [.int (nI n), .ref (p 1), .int (nI cnt), .int (bI (kn)), .ref (p 2), .ref (p 3), .ref (p 4), .ref (p 5), .int (nI rd), .int md, .ref (p 6), .int (nI fo), .ref (p 7), .int (nI ps), .int (nI 0), .ref (p 8)])), (p 1, .inl (cI, 320, .inl (upd (upd (upd Ax (4 * cnt) (nI 5)) (4 * cnt + 1) a0) (4 * cnt + 2) b0)))] rfl dX4_axiom_120 ?_
  refine z_aload_n (pc := 121) hC 1 dX4_axiom_121 rfl ?_
  refine z_get (pc := 122) (C := RX4) (T := TX4) (N := 16) hC hinX4 0 rfl rfl 1 (by decide) (by decide +kernel) rfl dX4_axiom_122 ?_
  refine z_iconst (pc := 125) (v := (nI 4)) hC dX4_axiom_125 (by decide +kernel) ?_
  refine z_aload_n (pc := 126) hC 1 dX4_axiom_126 rfl ?_
  refine z_get (pc := 127) (C := RX4) (T := TX4) (N := 16) hC hinX4 0 rfl rfl 2 (by decide) (by decide +kernel) rfl dX4_axiom_127 ?_
  refine z_imul (pc := 130) (v := (nI (4 * cnt))) hC dX4_axiom_130 (pk_mul _ _) ?_
  refine z_iconst (pc := 131) (v := (nI 3)) hC dX4_axiom_131 (by decide +kernel) ?_
  refine z_iadd (pc := 132) (v := (nI (4 * cnt + 3))) hC dX4_axiom_132 (nI_add _ _) ?_
  refine z_iload (pc := 133) hC 5 dX4_axiom_133 rfl ?_
  refine z_iast (pc := 135) hC 1 0 rfl rfl (by omega) (by decide) [(p 0, .inr (5, [.int (nI n), .ref (p 1), .int (nI cnt), .int (bI (kn)), .ref (p 2), .ref (p 3), .ref (p 4), .ref (p 5), .int (nI rd), .int md, .ref (p 6), .int (nI fo), .ref (p 7), .int (nI ps), .int (nI 0), .ref (p 8)])), (p 1, .inl (cI, 320, .inl (upd (upd (upd (upd Ax (4 * cnt) (nI 5)) (4 * cnt + 1) a0) (4 * cnt + 2) b0) (4 * cnt + 3) c0)))] rfl dX4_axiom_135 ?_
  refine z_aload_n (pc := 136) hC 1 dX4_axiom_136 rfl ?_
  refine z_dup (pc := 137) hC dX4_axiom_137 rfl ?_
  refine z_get (pc := 138) (C := RX4) (T := TX4) (N := 16) hC hinX4 0 rfl rfl 2 (by decide) (by decide +kernel) rfl dX4_axiom_138 ?_
  refine z_iconst (pc := 141) (v := (nI 1)) hC dX4_axiom_141 (by decide +kernel) ?_
  refine z_iadd (pc := 142) (v := (nI (cnt + 1))) hC dX4_axiom_142 (nI_add _ _) ?_
  refine z_put (pc := 143) (C := RX4) (T := TX4) (N := 16) hC hinX4 0 rfl rfl 2 (by decide) tyX4 tyX4_ok nmX4 (by decide +kernel) rfl (rfl) (rfl) (Nat.le_of_ble_eq_true rfl) [(p 0, .inr (5, [.int (nI n), .ref (p 1), .int (nI (cnt + 1)), .int (bI (kn)), .ref (p 2), .ref (p 3), .ref (p 4), .ref (p 5), .int (nI rd), .int md, .ref (p 6), .int (nI fo), .ref (p 7), .int (nI ps), .int (nI 0), .ref (p 8)])), (p 1, .inl (cI, 320, .inl (upd (upd (upd (upd Ax (4 * cnt) (nI 5)) (4 * cnt + 1) a0) (4 * cnt + 2) b0) (4 * cnt + 3) c0)))] rfl dX4_axiom_143 ?_
  refine z_aload_n (pc := 146) hC 1 dX4_axiom_146 rfl ?_
  refine z_iconst (pc := 147) (v := (nI 0)) hC dX4_axiom_147 (by decide +kernel) ?_
  refine z_topi (bI (false)) rfl ?_
  refine z_put (pc := 148) (C := RX4) (T := TX4) (N := 16) hC hinX4 0 rfl rfl 3 (by decide) tyX4 tyX4_ok nmX4 (by decide +kernel) rfl (by decide +kernel) (by decide +kernel) (Nat.le_of_ble_eq_true rfl) [(p 0, .inr (5, [.int (nI n), .ref (p 1), .int (nI (cnt + 1)), .int (bI (false)), .ref (p 2), .ref (p 3), .ref (p 4), .ref (p 5), .int (nI rd), .int md, .ref (p 6), .int (nI fo), .ref (p 7), .int (nI ps), .int (nI 0), .ref (p 8)])), (p 1, .inl (cI, 320, .inl (upd (upd (upd (upd Ax (4 * cnt) (nI 5)) (4 * cnt + 1) a0) (4 * cnt + 2) b0) (4 * cnt + 3) c0)))] rfl dX4_axiom_148 ?_
  refine z_aload_n (pc := 151) hC 1 dX4_axiom_151 rfl ?_
  refine z_get (pc := 152) (C := RX4) (T := TX4) (N := 16) hC hinX4 0 rfl rfl 2 (by decide) (by decide +kernel) rfl dX4_axiom_152 ?_
  refine z_iconst (pc := 155) (v := (nI 1)) hC dX4_axiom_155 (by decide +kernel) ?_
  refine z_isub (pc := 156) (v := (nI ((cnt + 1) - 1))) hC dX4_axiom_156 (pk_sub (by omega)) ?_
  exact z_iret (pc := 157) hC hQ hRT (rfl) (by rw [Nat.add_sub_cancel]) (rfl) dX4_axiom_157

set_option maxRecDepth 100000 in
set_option maxHeartbeats 4000000 in
theorem c_X4_axiom_bad_6 (l : Launch) (D : va_G) (cI cJ cZ : ClassId) (p : Nat → Nat) (n : Nat) (cnt : Nat) (kn : Bool) (rd : Nat) (md : Int32) (fo : Nat) (ps : Nat) (th : Int32) (Ax : Nat → Int32) (a0 : Int32) (b0 : Int32) (c0 : Int32) (hi : isAx n (nI 6) a0 b0 c0 = false) : MI l yX4_axiom wsX4_axiom { frames := 2, cells := 0, slots := 0, locals := 43 } D (tyL cI cJ cZ) [.ref (p 0), .int (nI 6), .int a0, .int b0, .int c0] [(p 0, .inr (5, [.int (nI n), .ref (p 1), .int (nI cnt), .int (bI (kn)), .ref (p 2), .ref (p 3), .ref (p 4), .ref (p 5), .int (nI rd), .int md, .ref (p 6), .int (nI fo), .ref (p 7), .int (nI ps), .int th, .ref (p 8)])), (p 1, .inl (cI, 320, .inl Ax))] [(p 0, .inr (5, [.int (nI n), .ref (p 1), .int (nI cnt), .int (bI (kn)), .ref (p 2), .ref (p 3), .ref (p 4), .ref (p 5), .int (nI rd), .int md, .ref (p 6), .int (nI fo), .ref (p 7), .int (nI ps), .int (nI 0), .ref (p 8)])), (p 1, .inl (cI, 320, .inl Ax))] (-1) := by
  refine metI_of (cc := cX4_axiom) (maxL := 6) (ret := (some .int)) (by decide +kernel) rfl (Nat.le_of_ble_eq_true rfl) ?_
  intro K hC hRm hNL hDis hLis hRT hIni hQ
  have hinX4 : ∀ w ∈ wsX40, w ∈ wsX4_axiom := by decide +kernel
  refine z_aload_n (pc := 0) hC 0 dX4_axiom_0 rfl ?_
  refine z_iconst (pc := 1) (v := (nI 0)) hC dX4_axiom_1 (by decide +kernel) ?_
  refine z_put (pc := 2) (C := RX4) (T := TX4) (N := 16) hC hinX4 0 rfl rfl 14 (by decide) tyX4 tyX4_ok nmX4 (by decide +kernel) rfl (rfl) (rfl) (Nat.le_of_ble_eq_true rfl) [(p 0, .inr (5, [.int (nI n), .ref (p 1), .int (nI cnt), .int (bI (kn)), .ref (p 2), .ref (p 3), .ref (p 4), .ref (p 5), .int (nI rd), .int md, .ref (p 6), .int (nI fo), .ref (p 7), .int (nI ps), .int (nI 0), .ref (p 8)])), (p 1, .inl (cI, 320, .inl Ax))] rfl dX4_axiom_2 ?_
  refine z_iload_n (pc := 5) hC 1 dX4_axiom_5 rfl ?_
  refine z_iconst (pc := 6) (v := (nI 1)) hC dX4_axiom_6 (by decide +kernel) ?_
  refine z_ncmp_lt (pc := 7) (tgt := 16) hC dX4_axiom_7 (by decide) (by omega) (by omega) (fun h7 => absurd h7 (by decide)) (fun h7 => ?_)
  refine z_iload_n (pc := 10) hC 1 dX4_axiom_10 rfl ?_
  refine z_bipush (pc := 11) (v := (nI 7)) hC dX4_axiom_11 (by decide +kernel) ?_
  refine z_ncmp_le (pc := 13) (tgt := 18) hC dX4_axiom_13 (by decide) (by omega) (by omega) (fun h13 => ?_) (fun h13 => absurd h13 (by decide))
  refine z_iload_n (pc := 18) hC 1 dX4_axiom_18 rfl ?_
  refine z_callS_I (pc := 19) (y := yX4_wants) (wy := wsX4_wants) (rm := { frames := 0, cells := 0, slots := 0, locals := 0 }) (As := [.int (nI 6)]) (rest := []) (na := 1)  (wc := []) (wc2 := []) hC hRm hDis hLis gX4_axiom_X4_wants ⟨by decide +kernel, by decide +kernel⟩ rfl ⟨by decide, by decide⟩ ⟨by decide, by decide⟩ rfl (Nat.le_of_ble_eq_true rfl) (by decide +kernel) (c_X4_wants_6 _ _ cI cJ cZ  ) [] [0, 1] [0, 1] [(p 0, .inr (5, [.int (nI n), .ref (p 1), .int (nI cnt), .int (bI (kn)), .ref (p 2), .ref (p 3), .ref (p 4), .ref (p 5), .int (nI rd), .int md, .ref (p 6), .int (nI fo), .ref (p 7), .int (nI ps), .int (nI 0), .ref (p 8)])), (p 1, .inl (cI, 320, .inl Ax))] rfl (by decide) rfl (by decide) (by decide) [(p 0, .inr (5, [.int (nI n), .ref (p 1), .int (nI cnt), .int (bI (kn)), .ref (p 2), .ref (p 3), .ref (p 4), .ref (p 5), .int (nI rd), .int md, .ref (p 6), .int (nI fo), .ref (p 7), .int (nI ps), .int (nI 0), .ref (p 8)])), (p 1, .inl (cI, 320, .inl Ax))] rfl (by decide) rfl dX4_axiom_19 ?_
  refine z_istore (pc := 22) hC hNL [(5, .int (nI 222)), (0, .ref (p 0)), (1, .int (nI 6)), (2, .int a0), (3, .int b0), (4, .int c0)] dX4_axiom_22 (by decide) rfl ?_
  refine z_aload_n (pc := 24) hC 1 dX4_axiom_24 rfl ?_
  refine z_iload (pc := 25) hC 0 dX4_axiom_25 rfl ?_
  refine z_bipush (pc := 27) (v := (nI 100)) hC dX4_axiom_27 (by decide +kernel) ?_
  refine z_idiv (pc := 29) (v := (nI 2)) hC dX4_axiom_29 (by decide +kernel) (by decide +kernel) ?_
  refine z_iload_n (pc := 30) hC 3 dX4_axiom_30 rfl ?_
  refine z_callV_I (pc := 31) (y := yX4_fits) (wy := wsX4_fits) (rm := { frames := 1, cells := 0, slots := 0, locals := 20 }) (As := [.int (nI 2), .int a0]) (rest := []) (na := 2) (C := RX4) (T := TX4) (NF := 16) (ci := 5) (wc := [(p 0, .inr (5, [.int (nI n), .ref (p 1), .int (nI cnt), .int (bI (kn)), .ref (p 2), .ref (p 3), .ref (p 4), .ref (p 5), .int (nI rd), .int md, .ref (p 6), .int (nI fo), .ref (p 7), .int (nI ps), .int (nI 0), .ref (p 8)]))]) (wc2 := [(p 0, .inr (5, [.int (nI n), .ref (p 1), .int (nI cnt), .int (bI (kn)), .ref (p 2), .ref (p 3), .ref (p 4), .ref (p 5), .int (nI rd), .int md, .ref (p 6), .int (nI fo), .ref (p 7), .int (nI ps), .int (nI 0), .ref (p 8)]))]) hC hRm hDis hLis 0 rfl rfl gX4_axiom_X4_fits ⟨rfl, by decide +kernel, by decide +kernel⟩ rfl ⟨by decide, by decide⟩ ⟨by decide, by decide⟩ rfl (Nat.le_of_ble_eq_true rfl) (by decide +kernel) (c_X4_fits_2 _ _ cI cJ cZ (p) (n) (cnt) (kn) (rd) (md) (fo) (ps) (nI 0) (a0) ) [0] [1] [1, 0] [(p 1, .inl (cI, 320, .inl Ax))] rfl (by decide) rfl (by decide) (by decide) [(p 0, .inr (5, [.int (nI n), .ref (p 1), .int (nI cnt), .int (bI (kn)), .ref (p 2), .ref (p 3), .ref (p 4), .ref (p 5), .int (nI rd), .int md, .ref (p 6), .int (nI fo), .ref (p 7), .int (nI ps), .int (nI 0), .ref (p 8)])), (p 1, .inl (cI, 320, .inl Ax))] rfl (by decide) rfl dX4_axiom_31 ?_
  refine z_bif_eq (pc := 34) (tgt := 67) hC dX4_axiom_34 (by decide) (fun h34 => ?_) (fun h34 => ?_)
  · refine z_iconst (pc := 67) (v := (-1)) hC dX4_axiom_67 (by decide +kernel) ?_
    exact z_iret (pc := 68) hC hQ hRT (rfl) (rfl) (rfl) dX4_axiom_68
  · refine z_aload_n (pc := 37) hC 1 dX4_axiom_37 rfl ?_
    refine z_iload (pc := 38) hC 0 dX4_axiom_38 rfl ?_
    refine z_bipush (pc := 40) (v := (nI 10)) hC dX4_axiom_40 (by decide +kernel) ?_
    refine z_idiv (pc := 42) (v := (nI 22)) hC dX4_axiom_42 (by decide +kernel) (by decide +kernel) ?_
    refine z_bipush (pc := 43) (v := (nI 10)) hC dX4_axiom_43 (by decide +kernel) ?_
    refine z_irem (pc := 45) (v := (nI 2)) hC dX4_axiom_45 (by decide +kernel) (by decide +kernel) ?_
    refine z_iload_n (pc := 46) hC 4 dX4_axiom_46 rfl ?_
    refine z_callV_I (pc := 47) (y := yX4_fits) (wy := wsX4_fits) (rm := { frames := 1, cells := 0, slots := 0, locals := 20 }) (As := [.int (nI 2), .int b0]) (rest := []) (na := 2) (C := RX4) (T := TX4) (NF := 16) (ci := 5) (wc := [(p 0, .inr (5, [.int (nI n), .ref (p 1), .int (nI cnt), .int (bI (kn)), .ref (p 2), .ref (p 3), .ref (p 4), .ref (p 5), .int (nI rd), .int md, .ref (p 6), .int (nI fo), .ref (p 7), .int (nI ps), .int (nI 0), .ref (p 8)]))]) (wc2 := [(p 0, .inr (5, [.int (nI n), .ref (p 1), .int (nI cnt), .int (bI (kn)), .ref (p 2), .ref (p 3), .ref (p 4), .ref (p 5), .int (nI rd), .int md, .ref (p 6), .int (nI fo), .ref (p 7), .int (nI ps), .int (nI 0), .ref (p 8)]))]) hC hRm hDis hLis 0 rfl rfl gX4_axiom_X4_fits ⟨rfl, by decide +kernel, by decide +kernel⟩ rfl ⟨by decide, by decide⟩ ⟨by decide, by decide⟩ rfl (Nat.le_of_ble_eq_true rfl) (by decide +kernel) (c_X4_fits_2 _ _ cI cJ cZ (p) (n) (cnt) (kn) (rd) (md) (fo) (ps) (nI 0) (b0) ) [0] [1] [1, 0] [(p 1, .inl (cI, 320, .inl Ax))] rfl (by decide) rfl (by decide) (by decide) [(p 0, .inr (5, [.int (nI n), .ref (p 1), .int (nI cnt), .int (bI (kn)), .ref (p 2), .ref (p 3), .ref (p 4), .ref (p 5), .int (nI rd), .int md, .ref (p 6), .int (nI fo), .ref (p 7), .int (nI ps), .int (nI 0), .ref (p 8)])), (p 1, .inl (cI, 320, .inl Ax))] rfl (by decide) rfl dX4_axiom_47 ?_
    refine z_bif_eq (pc := 50) (tgt := 67) hC dX4_axiom_50 (by decide) (fun h50 => ?_) (fun h50 => ?_)
    · refine z_iconst (pc := 67) (v := (-1)) hC dX4_axiom_67 (by decide +kernel) ?_
      exact z_iret (pc := 68) hC hQ hRT (rfl) (rfl) (rfl) dX4_axiom_68
    · refine z_aload_n (pc := 53) hC 1 dX4_axiom_53 rfl ?_
      refine z_iload (pc := 54) hC 0 dX4_axiom_54 rfl ?_
      refine z_bipush (pc := 56) (v := (nI 10)) hC dX4_axiom_56 (by decide +kernel) ?_
      refine z_irem (pc := 58) (v := (nI 2)) hC dX4_axiom_58 (by decide +kernel) (by decide +kernel) ?_
      refine z_iload (pc := 59) hC 5 dX4_axiom_59 rfl ?_
      refine z_callV_I (pc := 61) (y := yX4_fits) (wy := wsX4_fits) (rm := { frames := 1, cells := 0, slots := 0, locals := 20 }) (As := [.int (nI 2), .int c0]) (rest := []) (na := 2) (C := RX4) (T := TX4) (NF := 16) (ci := 5) (wc := [(p 0, .inr (5, [.int (nI n), .ref (p 1), .int (nI cnt), .int (bI (kn)), .ref (p 2), .ref (p 3), .ref (p 4), .ref (p 5), .int (nI rd), .int md, .ref (p 6), .int (nI fo), .ref (p 7), .int (nI ps), .int (nI 0), .ref (p 8)]))]) (wc2 := [(p 0, .inr (5, [.int (nI n), .ref (p 1), .int (nI cnt), .int (bI (kn)), .ref (p 2), .ref (p 3), .ref (p 4), .ref (p 5), .int (nI rd), .int md, .ref (p 6), .int (nI fo), .ref (p 7), .int (nI ps), .int (nI 0), .ref (p 8)]))]) hC hRm hDis hLis 0 rfl rfl gX4_axiom_X4_fits ⟨rfl, by decide +kernel, by decide +kernel⟩ rfl ⟨by decide, by decide⟩ ⟨by decide, by decide⟩ rfl (Nat.le_of_ble_eq_true rfl) (by decide +kernel) (c_X4_fits_2 _ _ cI cJ cZ (p) (n) (cnt) (kn) (rd) (md) (fo) (ps) (nI 0) (c0) ) [0] [1] [1, 0] [(p 1, .inl (cI, 320, .inl Ax))] rfl (by decide) rfl (by decide) (by decide) [(p 0, .inr (5, [.int (nI n), .ref (p 1), .int (nI cnt), .int (bI (kn)), .ref (p 2), .ref (p 3), .ref (p 4), .ref (p 5), .int (nI rd), .int md, .ref (p 6), .int (nI fo), .ref (p 7), .int (nI ps), .int (nI 0), .ref (p 8)])), (p 1, .inl (cI, 320, .inl Ax))] rfl (by decide) rfl dX4_axiom_61 ?_
      refine z_bif_ne (pc := 64) (tgt := 69) hC dX4_axiom_64 (by decide) (fun h64 => absurd hi (by rw [isAx_6 rfl, h34, h50, h64]; decide)) (fun h64 => ?_)
      refine z_iconst (pc := 67) (v := (-1)) hC dX4_axiom_67 (by decide +kernel) ?_
      exact z_iret (pc := 68) hC hQ hRT (rfl) (rfl) (rfl) dX4_axiom_68

set_option maxRecDepth 100000 in
set_option maxHeartbeats 4000000 in
theorem c_X4_axiom_full_6 (l : Launch) (D : va_G) (cI cJ cZ : ClassId) (p : Nat → Nat) (n : Nat) (cnt : Nat) (kn : Bool) (rd : Nat) (md : Int32) (fo : Nat) (ps : Nat) (th : Int32) (Ax : Nat → Int32) (a0 : Int32) (b0 : Int32) (c0 : Int32) (hi : isAx n (nI 6) a0 b0 c0 = true) (hc : cnt = 80) : MI l yX4_axiom wsX4_axiom { frames := 2, cells := 0, slots := 0, locals := 43 } D (tyL cI cJ cZ) [.ref (p 0), .int (nI 6), .int a0, .int b0, .int c0] [(p 0, .inr (5, [.int (nI n), .ref (p 1), .int (nI cnt), .int (bI (kn)), .ref (p 2), .ref (p 3), .ref (p 4), .ref (p 5), .int (nI rd), .int md, .ref (p 6), .int (nI fo), .ref (p 7), .int (nI ps), .int th, .ref (p 8)])), (p 1, .inl (cI, 320, .inl Ax))] [(p 0, .inr (5, [.int (nI n), .ref (p 1), .int (nI cnt), .int (bI (kn)), .ref (p 2), .ref (p 3), .ref (p 4), .ref (p 5), .int (nI rd), .int md, .ref (p 6), .int (nI fo), .ref (p 7), .int (nI ps), .int (nI 0), .ref (p 8)])), (p 1, .inl (cI, 320, .inl Ax))] (-2) := by
  refine metI_of (cc := cX4_axiom) (maxL := 6) (ret := (some .int)) (by decide +kernel) rfl (Nat.le_of_ble_eq_true rfl) ?_
  intro K hC hRm hNL hDis hLis hRT hIni hQ
  have hinX4 : ∀ w ∈ wsX40, w ∈ wsX4_axiom := by decide +kernel
  refine z_aload_n (pc := 0) hC 0 dX4_axiom_0 rfl ?_
  refine z_iconst (pc := 1) (v := (nI 0)) hC dX4_axiom_1 (by decide +kernel) ?_
  refine z_put (pc := 2) (C := RX4) (T := TX4) (N := 16) hC hinX4 0 rfl rfl 14 (by decide) tyX4 tyX4_ok nmX4 (by decide +kernel) rfl (rfl) (rfl) (Nat.le_of_ble_eq_true rfl) [(p 0, .inr (5, [.int (nI n), .ref (p 1), .int (nI cnt), .int (bI (kn)), .ref (p 2), .ref (p 3), .ref (p 4), .ref (p 5), .int (nI rd), .int md, .ref (p 6), .int (nI fo), .ref (p 7), .int (nI ps), .int (nI 0), .ref (p 8)])), (p 1, .inl (cI, 320, .inl Ax))] rfl dX4_axiom_2 ?_
  refine z_iload_n (pc := 5) hC 1 dX4_axiom_5 rfl ?_
  refine z_iconst (pc := 6) (v := (nI 1)) hC dX4_axiom_6 (by decide +kernel) ?_
  refine z_ncmp_lt (pc := 7) (tgt := 16) hC dX4_axiom_7 (by decide) (by omega) (by omega) (fun h7 => absurd h7 (by decide)) (fun h7 => ?_)
  refine z_iload_n (pc := 10) hC 1 dX4_axiom_10 rfl ?_
  refine z_bipush (pc := 11) (v := (nI 7)) hC dX4_axiom_11 (by decide +kernel) ?_
  refine z_ncmp_le (pc := 13) (tgt := 18) hC dX4_axiom_13 (by decide) (by omega) (by omega) (fun h13 => ?_) (fun h13 => absurd h13 (by decide))
  refine z_iload_n (pc := 18) hC 1 dX4_axiom_18 rfl ?_
  refine z_callS_I (pc := 19) (y := yX4_wants) (wy := wsX4_wants) (rm := { frames := 0, cells := 0, slots := 0, locals := 0 }) (As := [.int (nI 6)]) (rest := []) (na := 1)  (wc := []) (wc2 := []) hC hRm hDis hLis gX4_axiom_X4_wants ⟨by decide +kernel, by decide +kernel⟩ rfl ⟨by decide, by decide⟩ ⟨by decide, by decide⟩ rfl (Nat.le_of_ble_eq_true rfl) (by decide +kernel) (c_X4_wants_6 _ _ cI cJ cZ  ) [] [0, 1] [0, 1] [(p 0, .inr (5, [.int (nI n), .ref (p 1), .int (nI cnt), .int (bI (kn)), .ref (p 2), .ref (p 3), .ref (p 4), .ref (p 5), .int (nI rd), .int md, .ref (p 6), .int (nI fo), .ref (p 7), .int (nI ps), .int (nI 0), .ref (p 8)])), (p 1, .inl (cI, 320, .inl Ax))] rfl (by decide) rfl (by decide) (by decide) [(p 0, .inr (5, [.int (nI n), .ref (p 1), .int (nI cnt), .int (bI (kn)), .ref (p 2), .ref (p 3), .ref (p 4), .ref (p 5), .int (nI rd), .int md, .ref (p 6), .int (nI fo), .ref (p 7), .int (nI ps), .int (nI 0), .ref (p 8)])), (p 1, .inl (cI, 320, .inl Ax))] rfl (by decide) rfl dX4_axiom_19 ?_
  refine z_istore (pc := 22) hC hNL [(5, .int (nI 222)), (0, .ref (p 0)), (1, .int (nI 6)), (2, .int a0), (3, .int b0), (4, .int c0)] dX4_axiom_22 (by decide) rfl ?_
  refine z_aload_n (pc := 24) hC 1 dX4_axiom_24 rfl ?_
  refine z_iload (pc := 25) hC 0 dX4_axiom_25 rfl ?_
  refine z_bipush (pc := 27) (v := (nI 100)) hC dX4_axiom_27 (by decide +kernel) ?_
  refine z_idiv (pc := 29) (v := (nI 2)) hC dX4_axiom_29 (by decide +kernel) (by decide +kernel) ?_
  refine z_iload_n (pc := 30) hC 3 dX4_axiom_30 rfl ?_
  refine z_callV_I (pc := 31) (y := yX4_fits) (wy := wsX4_fits) (rm := { frames := 1, cells := 0, slots := 0, locals := 20 }) (As := [.int (nI 2), .int a0]) (rest := []) (na := 2) (C := RX4) (T := TX4) (NF := 16) (ci := 5) (wc := [(p 0, .inr (5, [.int (nI n), .ref (p 1), .int (nI cnt), .int (bI (kn)), .ref (p 2), .ref (p 3), .ref (p 4), .ref (p 5), .int (nI rd), .int md, .ref (p 6), .int (nI fo), .ref (p 7), .int (nI ps), .int (nI 0), .ref (p 8)]))]) (wc2 := [(p 0, .inr (5, [.int (nI n), .ref (p 1), .int (nI cnt), .int (bI (kn)), .ref (p 2), .ref (p 3), .ref (p 4), .ref (p 5), .int (nI rd), .int md, .ref (p 6), .int (nI fo), .ref (p 7), .int (nI ps), .int (nI 0), .ref (p 8)]))]) hC hRm hDis hLis 0 rfl rfl gX4_axiom_X4_fits ⟨rfl, by decide +kernel, by decide +kernel⟩ rfl ⟨by decide, by decide⟩ ⟨by decide, by decide⟩ rfl (Nat.le_of_ble_eq_true rfl) (by decide +kernel) (c_X4_fits_2 _ _ cI cJ cZ (p) (n) (cnt) (kn) (rd) (md) (fo) (ps) (nI 0) (a0) ) [0] [1] [1, 0] [(p 1, .inl (cI, 320, .inl Ax))] rfl (by decide) rfl (by decide) (by decide) [(p 0, .inr (5, [.int (nI n), .ref (p 1), .int (nI cnt), .int (bI (kn)), .ref (p 2), .ref (p 3), .ref (p 4), .ref (p 5), .int (nI rd), .int md, .ref (p 6), .int (nI fo), .ref (p 7), .int (nI ps), .int (nI 0), .ref (p 8)])), (p 1, .inl (cI, 320, .inl Ax))] rfl (by decide) rfl dX4_axiom_31 ?_
  refine z_bif_eq (pc := 34) (tgt := 67) hC dX4_axiom_34 (by decide) (fun h34 => absurd hi (by rw [isAx_6 rfl, h34]; simp)) (fun h34 => ?_)
  refine z_aload_n (pc := 37) hC 1 dX4_axiom_37 rfl ?_
  refine z_iload (pc := 38) hC 0 dX4_axiom_38 rfl ?_
  refine z_bipush (pc := 40) (v := (nI 10)) hC dX4_axiom_40 (by decide +kernel) ?_
  refine z_idiv (pc := 42) (v := (nI 22)) hC dX4_axiom_42 (by decide +kernel) (by decide +kernel) ?_
  refine z_bipush (pc := 43) (v := (nI 10)) hC dX4_axiom_43 (by decide +kernel) ?_
  refine z_irem (pc := 45) (v := (nI 2)) hC dX4_axiom_45 (by decide +kernel) (by decide +kernel) ?_
  refine z_iload_n (pc := 46) hC 4 dX4_axiom_46 rfl ?_
  refine z_callV_I (pc := 47) (y := yX4_fits) (wy := wsX4_fits) (rm := { frames := 1, cells := 0, slots := 0, locals := 20 }) (As := [.int (nI 2), .int b0]) (rest := []) (na := 2) (C := RX4) (T := TX4) (NF := 16) (ci := 5) (wc := [(p 0, .inr (5, [.int (nI n), .ref (p 1), .int (nI cnt), .int (bI (kn)), .ref (p 2), .ref (p 3), .ref (p 4), .ref (p 5), .int (nI rd), .int md, .ref (p 6), .int (nI fo), .ref (p 7), .int (nI ps), .int (nI 0), .ref (p 8)]))]) (wc2 := [(p 0, .inr (5, [.int (nI n), .ref (p 1), .int (nI cnt), .int (bI (kn)), .ref (p 2), .ref (p 3), .ref (p 4), .ref (p 5), .int (nI rd), .int md, .ref (p 6), .int (nI fo), .ref (p 7), .int (nI ps), .int (nI 0), .ref (p 8)]))]) hC hRm hDis hLis 0 rfl rfl gX4_axiom_X4_fits ⟨rfl, by decide +kernel, by decide +kernel⟩ rfl ⟨by decide, by decide⟩ ⟨by decide, by decide⟩ rfl (Nat.le_of_ble_eq_true rfl) (by decide +kernel) (c_X4_fits_2 _ _ cI cJ cZ (p) (n) (cnt) (kn) (rd) (md) (fo) (ps) (nI 0) (b0) ) [0] [1] [1, 0] [(p 1, .inl (cI, 320, .inl Ax))] rfl (by decide) rfl (by decide) (by decide) [(p 0, .inr (5, [.int (nI n), .ref (p 1), .int (nI cnt), .int (bI (kn)), .ref (p 2), .ref (p 3), .ref (p 4), .ref (p 5), .int (nI rd), .int md, .ref (p 6), .int (nI fo), .ref (p 7), .int (nI ps), .int (nI 0), .ref (p 8)])), (p 1, .inl (cI, 320, .inl Ax))] rfl (by decide) rfl dX4_axiom_47 ?_
  refine z_bif_eq (pc := 50) (tgt := 67) hC dX4_axiom_50 (by decide) (fun h50 => absurd hi (by rw [isAx_6 rfl, h34, h50]; simp)) (fun h50 => ?_)
  refine z_aload_n (pc := 53) hC 1 dX4_axiom_53 rfl ?_
  refine z_iload (pc := 54) hC 0 dX4_axiom_54 rfl ?_
  refine z_bipush (pc := 56) (v := (nI 10)) hC dX4_axiom_56 (by decide +kernel) ?_
  refine z_irem (pc := 58) (v := (nI 2)) hC dX4_axiom_58 (by decide +kernel) (by decide +kernel) ?_
  refine z_iload (pc := 59) hC 5 dX4_axiom_59 rfl ?_
  refine z_callV_I (pc := 61) (y := yX4_fits) (wy := wsX4_fits) (rm := { frames := 1, cells := 0, slots := 0, locals := 20 }) (As := [.int (nI 2), .int c0]) (rest := []) (na := 2) (C := RX4) (T := TX4) (NF := 16) (ci := 5) (wc := [(p 0, .inr (5, [.int (nI n), .ref (p 1), .int (nI cnt), .int (bI (kn)), .ref (p 2), .ref (p 3), .ref (p 4), .ref (p 5), .int (nI rd), .int md, .ref (p 6), .int (nI fo), .ref (p 7), .int (nI ps), .int (nI 0), .ref (p 8)]))]) (wc2 := [(p 0, .inr (5, [.int (nI n), .ref (p 1), .int (nI cnt), .int (bI (kn)), .ref (p 2), .ref (p 3), .ref (p 4), .ref (p 5), .int (nI rd), .int md, .ref (p 6), .int (nI fo), .ref (p 7), .int (nI ps), .int (nI 0), .ref (p 8)]))]) hC hRm hDis hLis 0 rfl rfl gX4_axiom_X4_fits ⟨rfl, by decide +kernel, by decide +kernel⟩ rfl ⟨by decide, by decide⟩ ⟨by decide, by decide⟩ rfl (Nat.le_of_ble_eq_true rfl) (by decide +kernel) (c_X4_fits_2 _ _ cI cJ cZ (p) (n) (cnt) (kn) (rd) (md) (fo) (ps) (nI 0) (c0) ) [0] [1] [1, 0] [(p 1, .inl (cI, 320, .inl Ax))] rfl (by decide) rfl (by decide) (by decide) [(p 0, .inr (5, [.int (nI n), .ref (p 1), .int (nI cnt), .int (bI (kn)), .ref (p 2), .ref (p 3), .ref (p 4), .ref (p 5), .int (nI rd), .int md, .ref (p 6), .int (nI fo), .ref (p 7), .int (nI ps), .int (nI 0), .ref (p 8)])), (p 1, .inl (cI, 320, .inl Ax))] rfl (by decide) rfl dX4_axiom_61 ?_
  refine z_bif_ne (pc := 64) (tgt := 69) hC dX4_axiom_64 (by decide) (fun h64 => ?_) (fun h64 => absurd hi (by rw [isAx_6 rfl, h34, h50, h64]; simp))
  refine z_aload_n (pc := 69) hC 1 dX4_axiom_69 rfl ?_
  refine z_get (pc := 70) (C := RX4) (T := TX4) (N := 16) hC hinX4 0 rfl rfl 2 (by decide) (by decide +kernel) rfl dX4_axiom_70 ?_
  refine z_bipush (pc := 73) (v := (nI 80)) hC dX4_axiom_73 (by decide +kernel) ?_
  refine z_ncmp_ne (pc := 75) (tgt := 81) hC dX4_axiom_75 (by decide) (by omega) (by omega) (fun h75 => absurd h75 (by omega)) (fun h75 => ?_)
  refine z_bipush (pc := 78) (v := (-2)) hC dX4_axiom_78 (by decide +kernel) ?_
  exact z_iret (pc := 80) hC hQ hRT (rfl) (rfl) (rfl) dX4_axiom_80

set_option maxRecDepth 100000 in
set_option maxHeartbeats 4000000 in
theorem c_X4_axiom_ok_6 (l : Launch) (D : va_G) (cI cJ cZ : ClassId) (p : Nat → Nat) (n : Nat) (cnt : Nat) (kn : Bool) (rd : Nat) (md : Int32) (fo : Nat) (ps : Nat) (th : Int32) (Ax : Nat → Int32) (a0 : Int32) (b0 : Int32) (c0 : Int32) (hi : isAx n (nI 6) a0 b0 c0 = true) (hc : cnt < 80) : MI l yX4_axiom wsX4_axiom { frames := 2, cells := 0, slots := 0, locals := 43 } D (tyL cI cJ cZ) [.ref (p 0), .int (nI 6), .int a0, .int b0, .int c0] [(p 0, .inr (5, [.int (nI n), .ref (p 1), .int (nI cnt), .int (bI (kn)), .ref (p 2), .ref (p 3), .ref (p 4), .ref (p 5), .int (nI rd), .int md, .ref (p 6), .int (nI fo), .ref (p 7), .int (nI ps), .int th, .ref (p 8)])), (p 1, .inl (cI, 320, .inl Ax))] [(p 0, .inr (5, [.int (nI n), .ref (p 1), .int (nI (cnt + 1)), .int (bI (false)), .ref (p 2), .ref (p 3), .ref (p 4), .ref (p 5), .int (nI rd), .int md, .ref (p 6), .int (nI fo), .ref (p 7), .int (nI ps), .int (nI 0), .ref (p 8)])), (p 1, .inl (cI, 320, .inl (upd (upd (upd (upd Ax (4 * cnt) (nI 6)) (4 * cnt + 1) a0) (4 * cnt + 2) b0) (4 * cnt + 3) c0)))] (nI cnt) := by
  refine metI_of (cc := cX4_axiom) (maxL := 6) (ret := (some .int)) (by decide +kernel) rfl (Nat.le_of_ble_eq_true rfl) ?_
  intro K hC hRm hNL hDis hLis hRT hIni hQ
  have hinX4 : ∀ w ∈ wsX40, w ∈ wsX4_axiom := by decide +kernel
  refine z_aload_n (pc := 0) hC 0 dX4_axiom_0 rfl ?_
  refine z_iconst (pc := 1) (v := (nI 0)) hC dX4_axiom_1 (by decide +kernel) ?_
  refine z_put (pc := 2) (C := RX4) (T := TX4) (N := 16) hC hinX4 0 rfl rfl 14 (by decide) tyX4 tyX4_ok nmX4 (by decide +kernel) rfl (rfl) (rfl) (Nat.le_of_ble_eq_true rfl) [(p 0, .inr (5, [.int (nI n), .ref (p 1), .int (nI cnt), .int (bI (kn)), .ref (p 2), .ref (p 3), .ref (p 4), .ref (p 5), .int (nI rd), .int md, .ref (p 6), .int (nI fo), .ref (p 7), .int (nI ps), .int (nI 0), .ref (p 8)])), (p 1, .inl (cI, 320, .inl Ax))] rfl dX4_axiom_2 ?_
  refine z_iload_n (pc := 5) hC 1 dX4_axiom_5 rfl ?_
  refine z_iconst (pc := 6) (v := (nI 1)) hC dX4_axiom_6 (by decide +kernel) ?_
  refine z_ncmp_lt (pc := 7) (tgt := 16) hC dX4_axiom_7 (by decide) (by omega) (by omega) (fun h7 => absurd h7 (by decide)) (fun h7 => ?_)
  refine z_iload_n (pc := 10) hC 1 dX4_axiom_10 rfl ?_
  refine z_bipush (pc := 11) (v := (nI 7)) hC dX4_axiom_11 (by decide +kernel) ?_
  refine z_ncmp_le (pc := 13) (tgt := 18) hC dX4_axiom_13 (by decide) (by omega) (by omega) (fun h13 => ?_) (fun h13 => absurd h13 (by decide))
  refine z_iload_n (pc := 18) hC 1 dX4_axiom_18 rfl ?_
  refine z_callS_I (pc := 19) (y := yX4_wants) (wy := wsX4_wants) (rm := { frames := 0, cells := 0, slots := 0, locals := 0 }) (As := [.int (nI 6)]) (rest := []) (na := 1)  (wc := []) (wc2 := []) hC hRm hDis hLis gX4_axiom_X4_wants ⟨by decide +kernel, by decide +kernel⟩ rfl ⟨by decide, by decide⟩ ⟨by decide, by decide⟩ rfl (Nat.le_of_ble_eq_true rfl) (by decide +kernel) (c_X4_wants_6 _ _ cI cJ cZ  ) [] [0, 1] [0, 1] [(p 0, .inr (5, [.int (nI n), .ref (p 1), .int (nI cnt), .int (bI (kn)), .ref (p 2), .ref (p 3), .ref (p 4), .ref (p 5), .int (nI rd), .int md, .ref (p 6), .int (nI fo), .ref (p 7), .int (nI ps), .int (nI 0), .ref (p 8)])), (p 1, .inl (cI, 320, .inl Ax))] rfl (by decide) rfl (by decide) (by decide) [(p 0, .inr (5, [.int (nI n), .ref (p 1), .int (nI cnt), .int (bI (kn)), .ref (p 2), .ref (p 3), .ref (p 4), .ref (p 5), .int (nI rd), .int md, .ref (p 6), .int (nI fo), .ref (p 7), .int (nI ps), .int (nI 0), .ref (p 8)])), (p 1, .inl (cI, 320, .inl Ax))] rfl (by decide) rfl dX4_axiom_19 ?_
  refine z_istore (pc := 22) hC hNL [(5, .int (nI 222)), (0, .ref (p 0)), (1, .int (nI 6)), (2, .int a0), (3, .int b0), (4, .int c0)] dX4_axiom_22 (by decide) rfl ?_
  refine z_aload_n (pc := 24) hC 1 dX4_axiom_24 rfl ?_
  refine z_iload (pc := 25) hC 0 dX4_axiom_25 rfl ?_
  refine z_bipush (pc := 27) (v := (nI 100)) hC dX4_axiom_27 (by decide +kernel) ?_
  refine z_idiv (pc := 29) (v := (nI 2)) hC dX4_axiom_29 (by decide +kernel) (by decide +kernel) ?_
  refine z_iload_n (pc := 30) hC 3 dX4_axiom_30 rfl ?_
  refine z_callV_I (pc := 31) (y := yX4_fits) (wy := wsX4_fits) (rm := { frames := 1, cells := 0, slots := 0, locals := 20 }) (As := [.int (nI 2), .int a0]) (rest := []) (na := 2) (C := RX4) (T := TX4) (NF := 16) (ci := 5) (wc := [(p 0, .inr (5, [.int (nI n), .ref (p 1), .int (nI cnt), .int (bI (kn)), .ref (p 2), .ref (p 3), .ref (p 4), .ref (p 5), .int (nI rd), .int md, .ref (p 6), .int (nI fo), .ref (p 7), .int (nI ps), .int (nI 0), .ref (p 8)]))]) (wc2 := [(p 0, .inr (5, [.int (nI n), .ref (p 1), .int (nI cnt), .int (bI (kn)), .ref (p 2), .ref (p 3), .ref (p 4), .ref (p 5), .int (nI rd), .int md, .ref (p 6), .int (nI fo), .ref (p 7), .int (nI ps), .int (nI 0), .ref (p 8)]))]) hC hRm hDis hLis 0 rfl rfl gX4_axiom_X4_fits ⟨rfl, by decide +kernel, by decide +kernel⟩ rfl ⟨by decide, by decide⟩ ⟨by decide, by decide⟩ rfl (Nat.le_of_ble_eq_true rfl) (by decide +kernel) (c_X4_fits_2 _ _ cI cJ cZ (p) (n) (cnt) (kn) (rd) (md) (fo) (ps) (nI 0) (a0) ) [0] [1] [1, 0] [(p 1, .inl (cI, 320, .inl Ax))] rfl (by decide) rfl (by decide) (by decide) [(p 0, .inr (5, [.int (nI n), .ref (p 1), .int (nI cnt), .int (bI (kn)), .ref (p 2), .ref (p 3), .ref (p 4), .ref (p 5), .int (nI rd), .int md, .ref (p 6), .int (nI fo), .ref (p 7), .int (nI ps), .int (nI 0), .ref (p 8)])), (p 1, .inl (cI, 320, .inl Ax))] rfl (by decide) rfl dX4_axiom_31 ?_
  refine z_bif_eq (pc := 34) (tgt := 67) hC dX4_axiom_34 (by decide) (fun h34 => absurd hi (by rw [isAx_6 rfl, h34]; simp)) (fun h34 => ?_)
  refine z_aload_n (pc := 37) hC 1 dX4_axiom_37 rfl ?_
  refine z_iload (pc := 38) hC 0 dX4_axiom_38 rfl ?_
  refine z_bipush (pc := 40) (v := (nI 10)) hC dX4_axiom_40 (by decide +kernel) ?_
  refine z_idiv (pc := 42) (v := (nI 22)) hC dX4_axiom_42 (by decide +kernel) (by decide +kernel) ?_
  refine z_bipush (pc := 43) (v := (nI 10)) hC dX4_axiom_43 (by decide +kernel) ?_
  refine z_irem (pc := 45) (v := (nI 2)) hC dX4_axiom_45 (by decide +kernel) (by decide +kernel) ?_
  refine z_iload_n (pc := 46) hC 4 dX4_axiom_46 rfl ?_
  refine z_callV_I (pc := 47) (y := yX4_fits) (wy := wsX4_fits) (rm := { frames := 1, cells := 0, slots := 0, locals := 20 }) (As := [.int (nI 2), .int b0]) (rest := []) (na := 2) (C := RX4) (T := TX4) (NF := 16) (ci := 5) (wc := [(p 0, .inr (5, [.int (nI n), .ref (p 1), .int (nI cnt), .int (bI (kn)), .ref (p 2), .ref (p 3), .ref (p 4), .ref (p 5), .int (nI rd), .int md, .ref (p 6), .int (nI fo), .ref (p 7), .int (nI ps), .int (nI 0), .ref (p 8)]))]) (wc2 := [(p 0, .inr (5, [.int (nI n), .ref (p 1), .int (nI cnt), .int (bI (kn)), .ref (p 2), .ref (p 3), .ref (p 4), .ref (p 5), .int (nI rd), .int md, .ref (p 6), .int (nI fo), .ref (p 7), .int (nI ps), .int (nI 0), .ref (p 8)]))]) hC hRm hDis hLis 0 rfl rfl gX4_axiom_X4_fits ⟨rfl, by decide +kernel, by decide +kernel⟩ rfl ⟨by decide, by decide⟩ ⟨by decide, by decide⟩ rfl (Nat.le_of_ble_eq_true rfl) (by decide +kernel) (c_X4_fits_2 _ _ cI cJ cZ (p) (n) (cnt) (kn) (rd) (md) (fo) (ps) (nI 0) (b0) ) [0] [1] [1, 0] [(p 1, .inl (cI, 320, .inl Ax))] rfl (by decide) rfl (by decide) (by decide) [(p 0, .inr (5, [.int (nI n), .ref (p 1), .int (nI cnt), .int (bI (kn)), .ref (p 2), .ref (p 3), .ref (p 4), .ref (p 5), .int (nI rd), .int md, .ref (p 6), .int (nI fo), .ref (p 7), .int (nI ps), .int (nI 0), .ref (p 8)])), (p 1, .inl (cI, 320, .inl Ax))] rfl (by decide) rfl dX4_axiom_47 ?_
  refine z_bif_eq (pc := 50) (tgt := 67) hC dX4_axiom_50 (by decide) (fun h50 => absurd hi (by rw [isAx_6 rfl, h34, h50]; simp)) (fun h50 => ?_)
  refine z_aload_n (pc := 53) hC 1 dX4_axiom_53 rfl ?_
  refine z_iload (pc := 54) hC 0 dX4_axiom_54 rfl ?_
  refine z_bipush (pc := 56) (v := (nI 10)) hC dX4_axiom_56 (by decide +kernel) ?_
  refine z_irem (pc := 58) (v := (nI 2)) hC dX4_axiom_58 (by decide +kernel) (by decide +kernel) ?_
  refine z_iload (pc := 59) hC 5 dX4_axiom_59 rfl ?_
  refine z_callV_I (pc := 61) (y := yX4_fits) (wy := wsX4_fits) (rm := { frames := 1, cells := 0, slots := 0, locals := 20 }) (As := [.int (nI 2), .int c0]) (rest := []) (na := 2) (C := RX4) (T := TX4) (NF := 16) (ci := 5) (wc := [(p 0, .inr (5, [.int (nI n), .ref (p 1), .int (nI cnt), .int (bI (kn)), .ref (p 2), .ref (p 3), .ref (p 4), .ref (p 5), .int (nI rd), .int md, .ref (p 6), .int (nI fo), .ref (p 7), .int (nI ps), .int (nI 0), .ref (p 8)]))]) (wc2 := [(p 0, .inr (5, [.int (nI n), .ref (p 1), .int (nI cnt), .int (bI (kn)), .ref (p 2), .ref (p 3), .ref (p 4), .ref (p 5), .int (nI rd), .int md, .ref (p 6), .int (nI fo), .ref (p 7), .int (nI ps), .int (nI 0), .ref (p 8)]))]) hC hRm hDis hLis 0 rfl rfl gX4_axiom_X4_fits ⟨rfl, by decide +kernel, by decide +kernel⟩ rfl ⟨by decide, by decide⟩ ⟨by decide, by decide⟩ rfl (Nat.le_of_ble_eq_true rfl) (by decide +kernel) (c_X4_fits_2 _ _ cI cJ cZ (p) (n) (cnt) (kn) (rd) (md) (fo) (ps) (nI 0) (c0) ) [0] [1] [1, 0] [(p 1, .inl (cI, 320, .inl Ax))] rfl (by decide) rfl (by decide) (by decide) [(p 0, .inr (5, [.int (nI n), .ref (p 1), .int (nI cnt), .int (bI (kn)), .ref (p 2), .ref (p 3), .ref (p 4), .ref (p 5), .int (nI rd), .int md, .ref (p 6), .int (nI fo), .ref (p 7), .int (nI ps), .int (nI 0), .ref (p 8)])), (p 1, .inl (cI, 320, .inl Ax))] rfl (by decide) rfl dX4_axiom_61 ?_
  refine z_bif_ne (pc := 64) (tgt := 69) hC dX4_axiom_64 (by decide) (fun h64 => ?_) (fun h64 => absurd hi (by rw [isAx_6 rfl, h34, h50, h64]; simp))
  refine z_aload_n (pc := 69) hC 1 dX4_axiom_69 rfl ?_
  refine z_get (pc := 70) (C := RX4) (T := TX4) (N := 16) hC hinX4 0 rfl rfl 2 (by decide) (by decide +kernel) rfl dX4_axiom_70 ?_
  refine z_bipush (pc := 73) (v := (nI 80)) hC dX4_axiom_73 (by decide +kernel) ?_
  refine z_ncmp_ne (pc := 75) (tgt := 81) hC dX4_axiom_75 (by decide) (by omega) (by omega) (fun h75 => ?_) (fun h75 => absurd h75 (by omega))
  refine z_aload_n (pc := 81) hC 1 dX4_axiom_81 rfl ?_
  refine z_get (pc := 82) (C := RX4) (T := TX4) (N := 16) hC hinX4 0 rfl rfl 1 (by decide) (by decide +kernel) rfl dX4_axiom_82 ?_
  refine z_iconst (pc := 85) (v := (nI 4)) hC dX4_axiom_85 (by decide +kernel) ?_
  refine z_aload_n (pc := 86) hC 1 dX4_axiom_86 rfl ?_
  refine z_get (pc := 87) (C := RX4) (T := TX4) (N := 16) hC hinX4 0 rfl rfl 2 (by decide) (by decide +kernel) rfl dX4_axiom_87 ?_
  refine z_imul (pc := 90) (v := (nI (4 * cnt))) hC dX4_axiom_90 (pk_mul _ _) ?_
  refine z_iload_n (pc := 91) hC 2 dX4_axiom_91 rfl ?_
  refine z_iast (pc := 92) hC 1 0 rfl rfl (by omega) (by decide) [(p 0, .inr (5, [.int (nI n), .ref (p 1), .int (nI cnt), .int (bI (kn)), .ref (p 2), .ref (p 3), .ref (p 4), .ref (p 5), .int (nI rd), .int md, .ref (p 6), .int (nI fo), .ref (p 7), .int (nI ps), .int (nI 0), .ref (p 8)])), (p 1, .inl (cI, 320, .inl (upd Ax (4 * cnt) (nI 6))))] rfl dX4_axiom_92 ?_
  refine z_aload_n (pc := 93) hC 1 dX4_axiom_93 rfl ?_
  refine z_get (pc := 94) (C := RX4) (T := TX4) (N := 16) hC hinX4 0 rfl rfl 1 (by decide) (by decide +kernel) rfl dX4_axiom_94 ?_
  refine z_iconst (pc := 97) (v := (nI 4)) hC dX4_axiom_97 (by decide +kernel) ?_
  refine z_aload_n (pc := 98) hC 1 dX4_axiom_98 rfl ?_
  refine z_get (pc := 99) (C := RX4) (T := TX4) (N := 16) hC hinX4 0 rfl rfl 2 (by decide) (by decide +kernel) rfl dX4_axiom_99 ?_
  refine z_imul (pc := 102) (v := (nI (4 * cnt))) hC dX4_axiom_102 (pk_mul _ _) ?_
  refine z_iconst (pc := 103) (v := (nI 1)) hC dX4_axiom_103 (by decide +kernel) ?_
  refine z_iadd (pc := 104) (v := (nI (4 * cnt + 1))) hC dX4_axiom_104 (nI_add _ _) ?_
  refine z_iload_n (pc := 105) hC 3 dX4_axiom_105 rfl ?_
  refine z_iast (pc := 106) hC 1 0 rfl rfl (by omega) (by decide) [(p 0, .inr (5, [.int (nI n), .ref (p 1), .int (nI cnt), .int (bI (kn)), .ref (p 2), .ref (p 3), .ref (p 4), .ref (p 5), .int (nI rd), .int md, .ref (p 6), .int (nI fo), .ref (p 7), .int (nI ps), .int (nI 0), .ref (p 8)])), (p 1, .inl (cI, 320, .inl (upd (upd Ax (4 * cnt) (nI 6)) (4 * cnt + 1) a0)))] rfl dX4_axiom_106 ?_
  refine z_aload_n (pc := 107) hC 1 dX4_axiom_107 rfl ?_
  refine z_get (pc := 108) (C := RX4) (T := TX4) (N := 16) hC hinX4 0 rfl rfl 1 (by decide) (by decide +kernel) rfl dX4_axiom_108 ?_
  refine z_iconst (pc := 111) (v := (nI 4)) hC dX4_axiom_111 (by decide +kernel) ?_
  refine z_aload_n (pc := 112) hC 1 dX4_axiom_112 rfl ?_
  refine z_get (pc := 113) (C := RX4) (T := TX4) (N := 16) hC hinX4 0 rfl rfl 2 (by decide) (by decide +kernel) rfl dX4_axiom_113 ?_
  refine z_imul (pc := 116) (v := (nI (4 * cnt))) hC dX4_axiom_116 (pk_mul _ _) ?_
  refine z_iconst (pc := 117) (v := (nI 2)) hC dX4_axiom_117 (by decide +kernel) ?_
  refine z_iadd (pc := 118) (v := (nI (4 * cnt + 2))) hC dX4_axiom_118 (nI_add _ _) ?_
  refine z_iload_n (pc := 119) hC 4 dX4_axiom_119 rfl ?_
  refine z_iast (pc := 120) hC 1 0 rfl rfl (by omega) (by decide) [(p 0, .inr (5, [.int (nI n), .ref (p 1), .int (nI cnt), .int (bI (kn)), .ref (p 2), .ref (p 3), .ref (p 4), .ref (p 5), .int (nI rd), .int md, .ref (p 6), .int (nI fo), .ref (p 7), .int (nI ps), .int (nI 0), .ref (p 8)])), (p 1, .inl (cI, 320, .inl (upd (upd (upd Ax (4 * cnt) (nI 6)) (4 * cnt + 1) a0) (4 * cnt + 2) b0)))] rfl dX4_axiom_120 ?_
  refine z_aload_n (pc := 121) hC 1 dX4_axiom_121 rfl ?_
  refine z_get (pc := 122) (C := RX4) (T := TX4) (N := 16) hC hinX4 0 rfl rfl 1 (by decide) (by decide +kernel) rfl dX4_axiom_122 ?_
  refine z_iconst (pc := 125) (v := (nI 4)) hC dX4_axiom_125 (by decide +kernel) ?_
  refine z_aload_n (pc := 126) hC 1 dX4_axiom_126 rfl ?_
  refine z_get (pc := 127) (C := RX4) (T := TX4) (N := 16) hC hinX4 0 rfl rfl 2 (by decide) (by decide +kernel) rfl dX4_axiom_127 ?_
  refine z_imul (pc := 130) (v := (nI (4 * cnt))) hC dX4_axiom_130 (pk_mul _ _) ?_
  refine z_iconst (pc := 131) (v := (nI 3)) hC dX4_axiom_131 (by decide +kernel) ?_
  refine z_iadd (pc := 132) (v := (nI (4 * cnt + 3))) hC dX4_axiom_132 (nI_add _ _) ?_
  refine z_iload (pc := 133) hC 5 dX4_axiom_133 rfl ?_
  refine z_iast (pc := 135) hC 1 0 rfl rfl (by omega) (by decide) [(p 0, .inr (5, [.int (nI n), .ref (p 1), .int (nI cnt), .int (bI (kn)), .ref (p 2), .ref (p 3), .ref (p 4), .ref (p 5), .int (nI rd), .int md, .ref (p 6), .int (nI fo), .ref (p 7), .int (nI ps), .int (nI 0), .ref (p 8)])), (p 1, .inl (cI, 320, .inl (upd (upd (upd (upd Ax (4 * cnt) (nI 6)) (4 * cnt + 1) a0) (4 * cnt + 2) b0) (4 * cnt + 3) c0)))] rfl dX4_axiom_135 ?_
  refine z_aload_n (pc := 136) hC 1 dX4_axiom_136 rfl ?_
  refine z_dup (pc := 137) hC dX4_axiom_137 rfl ?_
  refine z_get (pc := 138) (C := RX4) (T := TX4) (N := 16) hC hinX4 0 rfl rfl 2 (by decide) (by decide +kernel) rfl dX4_axiom_138 ?_
  refine z_iconst (pc := 141) (v := (nI 1)) hC dX4_axiom_141 (by decide +kernel) ?_
  refine z_iadd (pc := 142) (v := (nI (cnt + 1))) hC dX4_axiom_142 (nI_add _ _) ?_
  refine z_put (pc := 143) (C := RX4) (T := TX4) (N := 16) hC hinX4 0 rfl rfl 2 (by decide) tyX4 tyX4_ok nmX4 (by decide +kernel) rfl (rfl) (rfl) (Nat.le_of_ble_eq_true rfl) [(p 0, .inr (5, [.int (nI n), .ref (p 1), .int (nI (cnt + 1)), .int (bI (kn)), .ref (p 2), .ref (p 3), .ref (p 4), .ref (p 5), .int (nI rd), .int md, .ref (p 6), .int (nI fo), .ref (p 7), .int (nI ps), .int (nI 0), .ref (p 8)])), (p 1, .inl (cI, 320, .inl (upd (upd (upd (upd Ax (4 * cnt) (nI 6)) (4 * cnt + 1) a0) (4 * cnt + 2) b0) (4 * cnt + 3) c0)))] rfl dX4_axiom_143 ?_
  refine z_aload_n (pc := 146) hC 1 dX4_axiom_146 rfl ?_
  refine z_iconst (pc := 147) (v := (nI 0)) hC dX4_axiom_147 (by decide +kernel) ?_
  refine z_topi (bI (false)) rfl ?_
  refine z_put (pc := 148) (C := RX4) (T := TX4) (N := 16) hC hinX4 0 rfl rfl 3 (by decide) tyX4 tyX4_ok nmX4 (by decide +kernel) rfl (by decide +kernel) (by decide +kernel) (Nat.le_of_ble_eq_true rfl) [(p 0, .inr (5, [.int (nI n), .ref (p 1), .int (nI (cnt + 1)), .int (bI (false)), .ref (p 2), .ref (p 3), .ref (p 4), .ref (p 5), .int (nI rd), .int md, .ref (p 6), .int (nI fo), .ref (p 7), .int (nI ps), .int (nI 0), .ref (p 8)])), (p 1, .inl (cI, 320, .inl (upd (upd (upd (upd Ax (4 * cnt) (nI 6)) (4 * cnt + 1) a0) (4 * cnt + 2) b0) (4 * cnt + 3) c0)))] rfl dX4_axiom_148 ?_
  refine z_aload_n (pc := 151) hC 1 dX4_axiom_151 rfl ?_
  refine z_get (pc := 152) (C := RX4) (T := TX4) (N := 16) hC hinX4 0 rfl rfl 2 (by decide) (by decide +kernel) rfl dX4_axiom_152 ?_
  refine z_iconst (pc := 155) (v := (nI 1)) hC dX4_axiom_155 (by decide +kernel) ?_
  refine z_isub (pc := 156) (v := (nI ((cnt + 1) - 1))) hC dX4_axiom_156 (pk_sub (by omega)) ?_
  exact z_iret (pc := 157) hC hQ hRT (rfl) (by rw [Nat.add_sub_cancel]) (rfl) dX4_axiom_157

set_option maxRecDepth 100000 in
set_option maxHeartbeats 4000000 in
theorem c_X4_axiom_bad_7 (l : Launch) (D : va_G) (cI cJ cZ : ClassId) (p : Nat → Nat) (n : Nat) (cnt : Nat) (kn : Bool) (rd : Nat) (md : Int32) (fo : Nat) (ps : Nat) (th : Int32) (Ax : Nat → Int32) (a0 : Int32) (b0 : Int32) (c0 : Int32) (hi : isAx n (nI 7) a0 b0 c0 = false) : MI l yX4_axiom wsX4_axiom { frames := 2, cells := 0, slots := 0, locals := 43 } D (tyL cI cJ cZ) [.ref (p 0), .int (nI 7), .int a0, .int b0, .int c0] [(p 0, .inr (5, [.int (nI n), .ref (p 1), .int (nI cnt), .int (bI (kn)), .ref (p 2), .ref (p 3), .ref (p 4), .ref (p 5), .int (nI rd), .int md, .ref (p 6), .int (nI fo), .ref (p 7), .int (nI ps), .int th, .ref (p 8)])), (p 1, .inl (cI, 320, .inl Ax))] [(p 0, .inr (5, [.int (nI n), .ref (p 1), .int (nI cnt), .int (bI (kn)), .ref (p 2), .ref (p 3), .ref (p 4), .ref (p 5), .int (nI rd), .int md, .ref (p 6), .int (nI fo), .ref (p 7), .int (nI ps), .int (nI 0), .ref (p 8)])), (p 1, .inl (cI, 320, .inl Ax))] (-1) := by
  refine metI_of (cc := cX4_axiom) (maxL := 6) (ret := (some .int)) (by decide +kernel) rfl (Nat.le_of_ble_eq_true rfl) ?_
  intro K hC hRm hNL hDis hLis hRT hIni hQ
  have hinX4 : ∀ w ∈ wsX40, w ∈ wsX4_axiom := by decide +kernel
  refine z_aload_n (pc := 0) hC 0 dX4_axiom_0 rfl ?_
  refine z_iconst (pc := 1) (v := (nI 0)) hC dX4_axiom_1 (by decide +kernel) ?_
  refine z_put (pc := 2) (C := RX4) (T := TX4) (N := 16) hC hinX4 0 rfl rfl 14 (by decide) tyX4 tyX4_ok nmX4 (by decide +kernel) rfl (rfl) (rfl) (Nat.le_of_ble_eq_true rfl) [(p 0, .inr (5, [.int (nI n), .ref (p 1), .int (nI cnt), .int (bI (kn)), .ref (p 2), .ref (p 3), .ref (p 4), .ref (p 5), .int (nI rd), .int md, .ref (p 6), .int (nI fo), .ref (p 7), .int (nI ps), .int (nI 0), .ref (p 8)])), (p 1, .inl (cI, 320, .inl Ax))] rfl dX4_axiom_2 ?_
  refine z_iload_n (pc := 5) hC 1 dX4_axiom_5 rfl ?_
  refine z_iconst (pc := 6) (v := (nI 1)) hC dX4_axiom_6 (by decide +kernel) ?_
  refine z_ncmp_lt (pc := 7) (tgt := 16) hC dX4_axiom_7 (by decide) (by omega) (by omega) (fun h7 => absurd h7 (by decide)) (fun h7 => ?_)
  refine z_iload_n (pc := 10) hC 1 dX4_axiom_10 rfl ?_
  refine z_bipush (pc := 11) (v := (nI 7)) hC dX4_axiom_11 (by decide +kernel) ?_
  refine z_ncmp_le (pc := 13) (tgt := 18) hC dX4_axiom_13 (by decide) (by omega) (by omega) (fun h13 => ?_) (fun h13 => absurd h13 (by decide))
  refine z_iload_n (pc := 18) hC 1 dX4_axiom_18 rfl ?_
  refine z_callS_I (pc := 19) (y := yX4_wants) (wy := wsX4_wants) (rm := { frames := 0, cells := 0, slots := 0, locals := 0 }) (As := [.int (nI 7)]) (rest := []) (na := 1)  (wc := []) (wc2 := []) hC hRm hDis hLis gX4_axiom_X4_wants ⟨by decide +kernel, by decide +kernel⟩ rfl ⟨by decide, by decide⟩ ⟨by decide, by decide⟩ rfl (Nat.le_of_ble_eq_true rfl) (by decide +kernel) (c_X4_wants_7 _ _ cI cJ cZ  ) [] [0, 1] [0, 1] [(p 0, .inr (5, [.int (nI n), .ref (p 1), .int (nI cnt), .int (bI (kn)), .ref (p 2), .ref (p 3), .ref (p 4), .ref (p 5), .int (nI rd), .int md, .ref (p 6), .int (nI fo), .ref (p 7), .int (nI ps), .int (nI 0), .ref (p 8)])), (p 1, .inl (cI, 320, .inl Ax))] rfl (by decide) rfl (by decide) (by decide) [(p 0, .inr (5, [.int (nI n), .ref (p 1), .int (nI cnt), .int (bI (kn)), .ref (p 2), .ref (p 3), .ref (p 4), .ref (p 5), .int (nI rd), .int md, .ref (p 6), .int (nI fo), .ref (p 7), .int (nI ps), .int (nI 0), .ref (p 8)])), (p 1, .inl (cI, 320, .inl Ax))] rfl (by decide) rfl dX4_axiom_19 ?_
  refine z_istore (pc := 22) hC hNL [(5, .int (nI 200)), (0, .ref (p 0)), (1, .int (nI 7)), (2, .int a0), (3, .int b0), (4, .int c0)] dX4_axiom_22 (by decide) rfl ?_
  refine z_aload_n (pc := 24) hC 1 dX4_axiom_24 rfl ?_
  refine z_iload (pc := 25) hC 0 dX4_axiom_25 rfl ?_
  refine z_bipush (pc := 27) (v := (nI 100)) hC dX4_axiom_27 (by decide +kernel) ?_
  refine z_idiv (pc := 29) (v := (nI 2)) hC dX4_axiom_29 (by decide +kernel) (by decide +kernel) ?_
  refine z_iload_n (pc := 30) hC 3 dX4_axiom_30 rfl ?_
  refine z_callV_I (pc := 31) (y := yX4_fits) (wy := wsX4_fits) (rm := { frames := 1, cells := 0, slots := 0, locals := 20 }) (As := [.int (nI 2), .int a0]) (rest := []) (na := 2) (C := RX4) (T := TX4) (NF := 16) (ci := 5) (wc := [(p 0, .inr (5, [.int (nI n), .ref (p 1), .int (nI cnt), .int (bI (kn)), .ref (p 2), .ref (p 3), .ref (p 4), .ref (p 5), .int (nI rd), .int md, .ref (p 6), .int (nI fo), .ref (p 7), .int (nI ps), .int (nI 0), .ref (p 8)]))]) (wc2 := [(p 0, .inr (5, [.int (nI n), .ref (p 1), .int (nI cnt), .int (bI (kn)), .ref (p 2), .ref (p 3), .ref (p 4), .ref (p 5), .int (nI rd), .int md, .ref (p 6), .int (nI fo), .ref (p 7), .int (nI ps), .int (nI 0), .ref (p 8)]))]) hC hRm hDis hLis 0 rfl rfl gX4_axiom_X4_fits ⟨rfl, by decide +kernel, by decide +kernel⟩ rfl ⟨by decide, by decide⟩ ⟨by decide, by decide⟩ rfl (Nat.le_of_ble_eq_true rfl) (by decide +kernel) (c_X4_fits_2 _ _ cI cJ cZ (p) (n) (cnt) (kn) (rd) (md) (fo) (ps) (nI 0) (a0) ) [0] [1] [1, 0] [(p 1, .inl (cI, 320, .inl Ax))] rfl (by decide) rfl (by decide) (by decide) [(p 0, .inr (5, [.int (nI n), .ref (p 1), .int (nI cnt), .int (bI (kn)), .ref (p 2), .ref (p 3), .ref (p 4), .ref (p 5), .int (nI rd), .int md, .ref (p 6), .int (nI fo), .ref (p 7), .int (nI ps), .int (nI 0), .ref (p 8)])), (p 1, .inl (cI, 320, .inl Ax))] rfl (by decide) rfl dX4_axiom_31 ?_
  refine z_bif_eq (pc := 34) (tgt := 67) hC dX4_axiom_34 (by decide) (fun h34 => ?_) (fun h34 => absurd hi (by rw [isAx_7 rfl, h34]; decide))
  refine z_iconst (pc := 67) (v := (-1)) hC dX4_axiom_67 (by decide +kernel) ?_
  exact z_iret (pc := 68) hC hQ hRT (rfl) (rfl) (rfl) dX4_axiom_68

set_option maxRecDepth 100000 in
set_option maxHeartbeats 4000000 in
theorem c_X4_axiom_full_7 (l : Launch) (D : va_G) (cI cJ cZ : ClassId) (p : Nat → Nat) (n : Nat) (cnt : Nat) (kn : Bool) (rd : Nat) (md : Int32) (fo : Nat) (ps : Nat) (th : Int32) (Ax : Nat → Int32) (a0 : Int32) (b0 : Int32) (c0 : Int32) (hi : isAx n (nI 7) a0 b0 c0 = true) (hc : cnt = 80) : MI l yX4_axiom wsX4_axiom { frames := 2, cells := 0, slots := 0, locals := 43 } D (tyL cI cJ cZ) [.ref (p 0), .int (nI 7), .int a0, .int b0, .int c0] [(p 0, .inr (5, [.int (nI n), .ref (p 1), .int (nI cnt), .int (bI (kn)), .ref (p 2), .ref (p 3), .ref (p 4), .ref (p 5), .int (nI rd), .int md, .ref (p 6), .int (nI fo), .ref (p 7), .int (nI ps), .int th, .ref (p 8)])), (p 1, .inl (cI, 320, .inl Ax))] [(p 0, .inr (5, [.int (nI n), .ref (p 1), .int (nI cnt), .int (bI (kn)), .ref (p 2), .ref (p 3), .ref (p 4), .ref (p 5), .int (nI rd), .int md, .ref (p 6), .int (nI fo), .ref (p 7), .int (nI ps), .int (nI 0), .ref (p 8)])), (p 1, .inl (cI, 320, .inl Ax))] (-2) := by
  refine metI_of (cc := cX4_axiom) (maxL := 6) (ret := (some .int)) (by decide +kernel) rfl (Nat.le_of_ble_eq_true rfl) ?_
  intro K hC hRm hNL hDis hLis hRT hIni hQ
  have hinX4 : ∀ w ∈ wsX40, w ∈ wsX4_axiom := by decide +kernel
  refine z_aload_n (pc := 0) hC 0 dX4_axiom_0 rfl ?_
  refine z_iconst (pc := 1) (v := (nI 0)) hC dX4_axiom_1 (by decide +kernel) ?_
  refine z_put (pc := 2) (C := RX4) (T := TX4) (N := 16) hC hinX4 0 rfl rfl 14 (by decide) tyX4 tyX4_ok nmX4 (by decide +kernel) rfl (rfl) (rfl) (Nat.le_of_ble_eq_true rfl) [(p 0, .inr (5, [.int (nI n), .ref (p 1), .int (nI cnt), .int (bI (kn)), .ref (p 2), .ref (p 3), .ref (p 4), .ref (p 5), .int (nI rd), .int md, .ref (p 6), .int (nI fo), .ref (p 7), .int (nI ps), .int (nI 0), .ref (p 8)])), (p 1, .inl (cI, 320, .inl Ax))] rfl dX4_axiom_2 ?_
  refine z_iload_n (pc := 5) hC 1 dX4_axiom_5 rfl ?_
  refine z_iconst (pc := 6) (v := (nI 1)) hC dX4_axiom_6 (by decide +kernel) ?_
  refine z_ncmp_lt (pc := 7) (tgt := 16) hC dX4_axiom_7 (by decide) (by omega) (by omega) (fun h7 => absurd h7 (by decide)) (fun h7 => ?_)
  refine z_iload_n (pc := 10) hC 1 dX4_axiom_10 rfl ?_
  refine z_bipush (pc := 11) (v := (nI 7)) hC dX4_axiom_11 (by decide +kernel) ?_
  refine z_ncmp_le (pc := 13) (tgt := 18) hC dX4_axiom_13 (by decide) (by omega) (by omega) (fun h13 => ?_) (fun h13 => absurd h13 (by decide))
  refine z_iload_n (pc := 18) hC 1 dX4_axiom_18 rfl ?_
  refine z_callS_I (pc := 19) (y := yX4_wants) (wy := wsX4_wants) (rm := { frames := 0, cells := 0, slots := 0, locals := 0 }) (As := [.int (nI 7)]) (rest := []) (na := 1)  (wc := []) (wc2 := []) hC hRm hDis hLis gX4_axiom_X4_wants ⟨by decide +kernel, by decide +kernel⟩ rfl ⟨by decide, by decide⟩ ⟨by decide, by decide⟩ rfl (Nat.le_of_ble_eq_true rfl) (by decide +kernel) (c_X4_wants_7 _ _ cI cJ cZ  ) [] [0, 1] [0, 1] [(p 0, .inr (5, [.int (nI n), .ref (p 1), .int (nI cnt), .int (bI (kn)), .ref (p 2), .ref (p 3), .ref (p 4), .ref (p 5), .int (nI rd), .int md, .ref (p 6), .int (nI fo), .ref (p 7), .int (nI ps), .int (nI 0), .ref (p 8)])), (p 1, .inl (cI, 320, .inl Ax))] rfl (by decide) rfl (by decide) (by decide) [(p 0, .inr (5, [.int (nI n), .ref (p 1), .int (nI cnt), .int (bI (kn)), .ref (p 2), .ref (p 3), .ref (p 4), .ref (p 5), .int (nI rd), .int md, .ref (p 6), .int (nI fo), .ref (p 7), .int (nI ps), .int (nI 0), .ref (p 8)])), (p 1, .inl (cI, 320, .inl Ax))] rfl (by decide) rfl dX4_axiom_19 ?_
  refine z_istore (pc := 22) hC hNL [(5, .int (nI 200)), (0, .ref (p 0)), (1, .int (nI 7)), (2, .int a0), (3, .int b0), (4, .int c0)] dX4_axiom_22 (by decide) rfl ?_
  refine z_aload_n (pc := 24) hC 1 dX4_axiom_24 rfl ?_
  refine z_iload (pc := 25) hC 0 dX4_axiom_25 rfl ?_
  refine z_bipush (pc := 27) (v := (nI 100)) hC dX4_axiom_27 (by decide +kernel) ?_
  refine z_idiv (pc := 29) (v := (nI 2)) hC dX4_axiom_29 (by decide +kernel) (by decide +kernel) ?_
  refine z_iload_n (pc := 30) hC 3 dX4_axiom_30 rfl ?_
  refine z_callV_I (pc := 31) (y := yX4_fits) (wy := wsX4_fits) (rm := { frames := 1, cells := 0, slots := 0, locals := 20 }) (As := [.int (nI 2), .int a0]) (rest := []) (na := 2) (C := RX4) (T := TX4) (NF := 16) (ci := 5) (wc := [(p 0, .inr (5, [.int (nI n), .ref (p 1), .int (nI cnt), .int (bI (kn)), .ref (p 2), .ref (p 3), .ref (p 4), .ref (p 5), .int (nI rd), .int md, .ref (p 6), .int (nI fo), .ref (p 7), .int (nI ps), .int (nI 0), .ref (p 8)]))]) (wc2 := [(p 0, .inr (5, [.int (nI n), .ref (p 1), .int (nI cnt), .int (bI (kn)), .ref (p 2), .ref (p 3), .ref (p 4), .ref (p 5), .int (nI rd), .int md, .ref (p 6), .int (nI fo), .ref (p 7), .int (nI ps), .int (nI 0), .ref (p 8)]))]) hC hRm hDis hLis 0 rfl rfl gX4_axiom_X4_fits ⟨rfl, by decide +kernel, by decide +kernel⟩ rfl ⟨by decide, by decide⟩ ⟨by decide, by decide⟩ rfl (Nat.le_of_ble_eq_true rfl) (by decide +kernel) (c_X4_fits_2 _ _ cI cJ cZ (p) (n) (cnt) (kn) (rd) (md) (fo) (ps) (nI 0) (a0) ) [0] [1] [1, 0] [(p 1, .inl (cI, 320, .inl Ax))] rfl (by decide) rfl (by decide) (by decide) [(p 0, .inr (5, [.int (nI n), .ref (p 1), .int (nI cnt), .int (bI (kn)), .ref (p 2), .ref (p 3), .ref (p 4), .ref (p 5), .int (nI rd), .int md, .ref (p 6), .int (nI fo), .ref (p 7), .int (nI ps), .int (nI 0), .ref (p 8)])), (p 1, .inl (cI, 320, .inl Ax))] rfl (by decide) rfl dX4_axiom_31 ?_
  refine z_bif_eq (pc := 34) (tgt := 67) hC dX4_axiom_34 (by decide) (fun h34 => absurd hi (by rw [isAx_7 rfl, h34]; simp)) (fun h34 => ?_)
  refine z_aload_n (pc := 37) hC 1 dX4_axiom_37 rfl ?_
  refine z_iload (pc := 38) hC 0 dX4_axiom_38 rfl ?_
  refine z_bipush (pc := 40) (v := (nI 10)) hC dX4_axiom_40 (by decide +kernel) ?_
  refine z_idiv (pc := 42) (v := (nI 20)) hC dX4_axiom_42 (by decide +kernel) (by decide +kernel) ?_
  refine z_bipush (pc := 43) (v := (nI 10)) hC dX4_axiom_43 (by decide +kernel) ?_
  refine z_irem (pc := 45) (v := (nI 0)) hC dX4_axiom_45 (by decide +kernel) (by decide +kernel) ?_
  refine z_iload_n (pc := 46) hC 4 dX4_axiom_46 rfl ?_
  refine z_callV_I (pc := 47) (y := yX4_fits) (wy := wsX4_fits) (rm := { frames := 0, cells := 0, slots := 0, locals := 0 }) (As := [.int (nI 0), .int b0]) (rest := []) (na := 2) (C := RX4) (T := TX4) (NF := 16) (ci := 5) (wc := [(p 0, .inr (5, [.int (nI n), .ref (p 1), .int (nI cnt), .int (bI (kn)), .ref (p 2), .ref (p 3), .ref (p 4), .ref (p 5), .int (nI rd), .int md, .ref (p 6), .int (nI fo), .ref (p 7), .int (nI ps), .int (nI 0), .ref (p 8)]))]) (wc2 := [(p 0, .inr (5, [.int (nI n), .ref (p 1), .int (nI cnt), .int (bI (kn)), .ref (p 2), .ref (p 3), .ref (p 4), .ref (p 5), .int (nI rd), .int md, .ref (p 6), .int (nI fo), .ref (p 7), .int (nI ps), .int (nI 0), .ref (p 8)]))]) hC hRm hDis hLis 0 rfl rfl gX4_axiom_X4_fits ⟨rfl, by decide +kernel, by decide +kernel⟩ rfl ⟨by decide, by decide⟩ ⟨by decide, by decide⟩ rfl (Nat.le_of_ble_eq_true rfl) (by decide +kernel) (c_X4_fits_0 _ _ cI cJ cZ (p) (n) (cnt) (kn) (rd) (md) (fo) (ps) (nI 0) (b0) ) [0] [1] [1, 0] [(p 1, .inl (cI, 320, .inl Ax))] rfl (by decide) rfl (by decide) (by decide) [(p 0, .inr (5, [.int (nI n), .ref (p 1), .int (nI cnt), .int (bI (kn)), .ref (p 2), .ref (p 3), .ref (p 4), .ref (p 5), .int (nI rd), .int md, .ref (p 6), .int (nI fo), .ref (p 7), .int (nI ps), .int (nI 0), .ref (p 8)])), (p 1, .inl (cI, 320, .inl Ax))] rfl (by decide) rfl dX4_axiom_47 ?_
  refine z_bif_eq (pc := 50) (tgt := 67) hC dX4_axiom_50 (by decide) (fun h50 => absurd h50 (by decide)) (fun h50 => ?_)
  refine z_aload_n (pc := 53) hC 1 dX4_axiom_53 rfl ?_
  refine z_iload (pc := 54) hC 0 dX4_axiom_54 rfl ?_
  refine z_bipush (pc := 56) (v := (nI 10)) hC dX4_axiom_56 (by decide +kernel) ?_
  refine z_irem (pc := 58) (v := (nI 0)) hC dX4_axiom_58 (by decide +kernel) (by decide +kernel) ?_
  refine z_iload (pc := 59) hC 5 dX4_axiom_59 rfl ?_
  refine z_callV_I (pc := 61) (y := yX4_fits) (wy := wsX4_fits) (rm := { frames := 0, cells := 0, slots := 0, locals := 0 }) (As := [.int (nI 0), .int c0]) (rest := []) (na := 2) (C := RX4) (T := TX4) (NF := 16) (ci := 5) (wc := [(p 0, .inr (5, [.int (nI n), .ref (p 1), .int (nI cnt), .int (bI (kn)), .ref (p 2), .ref (p 3), .ref (p 4), .ref (p 5), .int (nI rd), .int md, .ref (p 6), .int (nI fo), .ref (p 7), .int (nI ps), .int (nI 0), .ref (p 8)]))]) (wc2 := [(p 0, .inr (5, [.int (nI n), .ref (p 1), .int (nI cnt), .int (bI (kn)), .ref (p 2), .ref (p 3), .ref (p 4), .ref (p 5), .int (nI rd), .int md, .ref (p 6), .int (nI fo), .ref (p 7), .int (nI ps), .int (nI 0), .ref (p 8)]))]) hC hRm hDis hLis 0 rfl rfl gX4_axiom_X4_fits ⟨rfl, by decide +kernel, by decide +kernel⟩ rfl ⟨by decide, by decide⟩ ⟨by decide, by decide⟩ rfl (Nat.le_of_ble_eq_true rfl) (by decide +kernel) (c_X4_fits_0 _ _ cI cJ cZ (p) (n) (cnt) (kn) (rd) (md) (fo) (ps) (nI 0) (c0) ) [0] [1] [1, 0] [(p 1, .inl (cI, 320, .inl Ax))] rfl (by decide) rfl (by decide) (by decide) [(p 0, .inr (5, [.int (nI n), .ref (p 1), .int (nI cnt), .int (bI (kn)), .ref (p 2), .ref (p 3), .ref (p 4), .ref (p 5), .int (nI rd), .int md, .ref (p 6), .int (nI fo), .ref (p 7), .int (nI ps), .int (nI 0), .ref (p 8)])), (p 1, .inl (cI, 320, .inl Ax))] rfl (by decide) rfl dX4_axiom_61 ?_
  refine z_bif_ne (pc := 64) (tgt := 69) hC dX4_axiom_64 (by decide) (fun h64 => ?_) (fun h64 => absurd h64 (by decide))
  refine z_aload_n (pc := 69) hC 1 dX4_axiom_69 rfl ?_
  refine z_get (pc := 70) (C := RX4) (T := TX4) (N := 16) hC hinX4 0 rfl rfl 2 (by decide) (by decide +kernel) rfl dX4_axiom_70 ?_
  refine z_bipush (pc := 73) (v := (nI 80)) hC dX4_axiom_73 (by decide +kernel) ?_
  refine z_ncmp_ne (pc := 75) (tgt := 81) hC dX4_axiom_75 (by decide) (by omega) (by omega) (fun h75 => absurd h75 (by omega)) (fun h75 => ?_)
  refine z_bipush (pc := 78) (v := (-2)) hC dX4_axiom_78 (by decide +kernel) ?_
  exact z_iret (pc := 80) hC hQ hRT (rfl) (rfl) (rfl) dX4_axiom_80

set_option maxRecDepth 100000 in
set_option maxHeartbeats 4000000 in
theorem c_X4_axiom_ok_7 (l : Launch) (D : va_G) (cI cJ cZ : ClassId) (p : Nat → Nat) (n : Nat) (cnt : Nat) (kn : Bool) (rd : Nat) (md : Int32) (fo : Nat) (ps : Nat) (th : Int32) (Ax : Nat → Int32) (a0 : Int32) (b0 : Int32) (c0 : Int32) (hi : isAx n (nI 7) a0 b0 c0 = true) (hc : cnt < 80) : MI l yX4_axiom wsX4_axiom { frames := 2, cells := 0, slots := 0, locals := 43 } D (tyL cI cJ cZ) [.ref (p 0), .int (nI 7), .int a0, .int b0, .int c0] [(p 0, .inr (5, [.int (nI n), .ref (p 1), .int (nI cnt), .int (bI (kn)), .ref (p 2), .ref (p 3), .ref (p 4), .ref (p 5), .int (nI rd), .int md, .ref (p 6), .int (nI fo), .ref (p 7), .int (nI ps), .int th, .ref (p 8)])), (p 1, .inl (cI, 320, .inl Ax))] [(p 0, .inr (5, [.int (nI n), .ref (p 1), .int (nI (cnt + 1)), .int (bI (false)), .ref (p 2), .ref (p 3), .ref (p 4), .ref (p 5), .int (nI rd), .int md, .ref (p 6), .int (nI fo), .ref (p 7), .int (nI ps), .int (nI 0), .ref (p 8)])), (p 1, .inl (cI, 320, .inl (upd (upd (upd (upd Ax (4 * cnt) (nI 7)) (4 * cnt + 1) a0) (4 * cnt + 2) b0) (4 * cnt + 3) c0)))] (nI cnt) := by
  refine metI_of (cc := cX4_axiom) (maxL := 6) (ret := (some .int)) (by decide +kernel) rfl (Nat.le_of_ble_eq_true rfl) ?_
  intro K hC hRm hNL hDis hLis hRT hIni hQ
  have hinX4 : ∀ w ∈ wsX40, w ∈ wsX4_axiom := by decide +kernel
  refine z_aload_n (pc := 0) hC 0 dX4_axiom_0 rfl ?_
  refine z_iconst (pc := 1) (v := (nI 0)) hC dX4_axiom_1 (by decide +kernel) ?_
  refine z_put (pc := 2) (C := RX4) (T := TX4) (N := 16) hC hinX4 0 rfl rfl 14 (by decide) tyX4 tyX4_ok nmX4 (by decide +kernel) rfl (rfl) (rfl) (Nat.le_of_ble_eq_true rfl) [(p 0, .inr (5, [.int (nI n), .ref (p 1), .int (nI cnt), .int (bI (kn)), .ref (p 2), .ref (p 3), .ref (p 4), .ref (p 5), .int (nI rd), .int md, .ref (p 6), .int (nI fo), .ref (p 7), .int (nI ps), .int (nI 0), .ref (p 8)])), (p 1, .inl (cI, 320, .inl Ax))] rfl dX4_axiom_2 ?_
  refine z_iload_n (pc := 5) hC 1 dX4_axiom_5 rfl ?_
  refine z_iconst (pc := 6) (v := (nI 1)) hC dX4_axiom_6 (by decide +kernel) ?_
  refine z_ncmp_lt (pc := 7) (tgt := 16) hC dX4_axiom_7 (by decide) (by omega) (by omega) (fun h7 => absurd h7 (by decide)) (fun h7 => ?_)
  refine z_iload_n (pc := 10) hC 1 dX4_axiom_10 rfl ?_
  refine z_bipush (pc := 11) (v := (nI 7)) hC dX4_axiom_11 (by decide +kernel) ?_
  refine z_ncmp_le (pc := 13) (tgt := 18) hC dX4_axiom_13 (by decide) (by omega) (by omega) (fun h13 => ?_) (fun h13 => absurd h13 (by decide))
  refine z_iload_n (pc := 18) hC 1 dX4_axiom_18 rfl ?_
  refine z_callS_I (pc := 19) (y := yX4_wants) (wy := wsX4_wants) (rm := { frames := 0, cells := 0, slots := 0, locals := 0 }) (As := [.int (nI 7)]) (rest := []) (na := 1)  (wc := []) (wc2 := []) hC hRm hDis hLis gX4_axiom_X4_wants ⟨by decide +kernel, by decide +kernel⟩ rfl ⟨by decide, by decide⟩ ⟨by decide, by decide⟩ rfl (Nat.le_of_ble_eq_true rfl) (by decide +kernel) (c_X4_wants_7 _ _ cI cJ cZ  ) [] [0, 1] [0, 1] [(p 0, .inr (5, [.int (nI n), .ref (p 1), .int (nI cnt), .int (bI (kn)), .ref (p 2), .ref (p 3), .ref (p 4), .ref (p 5), .int (nI rd), .int md, .ref (p 6), .int (nI fo), .ref (p 7), .int (nI ps), .int (nI 0), .ref (p 8)])), (p 1, .inl (cI, 320, .inl Ax))] rfl (by decide) rfl (by decide) (by decide) [(p 0, .inr (5, [.int (nI n), .ref (p 1), .int (nI cnt), .int (bI (kn)), .ref (p 2), .ref (p 3), .ref (p 4), .ref (p 5), .int (nI rd), .int md, .ref (p 6), .int (nI fo), .ref (p 7), .int (nI ps), .int (nI 0), .ref (p 8)])), (p 1, .inl (cI, 320, .inl Ax))] rfl (by decide) rfl dX4_axiom_19 ?_
  refine z_istore (pc := 22) hC hNL [(5, .int (nI 200)), (0, .ref (p 0)), (1, .int (nI 7)), (2, .int a0), (3, .int b0), (4, .int c0)] dX4_axiom_22 (by decide) rfl ?_
  refine z_aload_n (pc := 24) hC 1 dX4_axiom_24 rfl ?_
  refine z_iload (pc := 25) hC 0 dX4_axiom_25 rfl ?_
  refine z_bipush (pc := 27) (v := (nI 100)) hC dX4_axiom_27 (by decide +kernel) ?_
  refine z_idiv (pc := 29) (v := (nI 2)) hC dX4_axiom_29 (by decide +kernel) (by decide +kernel) ?_
  refine z_iload_n (pc := 30) hC 3 dX4_axiom_30 rfl ?_
  refine z_callV_I (pc := 31) (y := yX4_fits) (wy := wsX4_fits) (rm := { frames := 1, cells := 0, slots := 0, locals := 20 }) (As := [.int (nI 2), .int a0]) (rest := []) (na := 2) (C := RX4) (T := TX4) (NF := 16) (ci := 5) (wc := [(p 0, .inr (5, [.int (nI n), .ref (p 1), .int (nI cnt), .int (bI (kn)), .ref (p 2), .ref (p 3), .ref (p 4), .ref (p 5), .int (nI rd), .int md, .ref (p 6), .int (nI fo), .ref (p 7), .int (nI ps), .int (nI 0), .ref (p 8)]))]) (wc2 := [(p 0, .inr (5, [.int (nI n), .ref (p 1), .int (nI cnt), .int (bI (kn)), .ref (p 2), .ref (p 3), .ref (p 4), .ref (p 5), .int (nI rd), .int md, .ref (p 6), .int (nI fo), .ref (p 7), .int (nI ps), .int (nI 0), .ref (p 8)]))]) hC hRm hDis hLis 0 rfl rfl gX4_axiom_X4_fits ⟨rfl, by decide +kernel, by decide +kernel⟩ rfl ⟨by decide, by decide⟩ ⟨by decide, by decide⟩ rfl (Nat.le_of_ble_eq_true rfl) (by decide +kernel) (c_X4_fits_2 _ _ cI cJ cZ (p) (n) (cnt) (kn) (rd) (md) (fo) (ps) (nI 0) (a0) ) [0] [1] [1, 0] [(p 1, .inl (cI, 320, .inl Ax))] rfl (by decide) rfl (by decide) (by decide) [(p 0, .inr (5, [.int (nI n), .ref (p 1), .int (nI cnt), .int (bI (kn)), .ref (p 2), .ref (p 3), .ref (p 4), .ref (p 5), .int (nI rd), .int md, .ref (p 6), .int (nI fo), .ref (p 7), .int (nI ps), .int (nI 0), .ref (p 8)])), (p 1, .inl (cI, 320, .inl Ax))] rfl (by decide) rfl dX4_axiom_31 ?_
  refine z_bif_eq (pc := 34) (tgt := 67) hC dX4_axiom_34 (by decide) (fun h34 => absurd hi (by rw [isAx_7 rfl, h34]; simp)) (fun h34 => ?_)
  refine z_aload_n (pc := 37) hC 1 dX4_axiom_37 rfl ?_
  refine z_iload (pc := 38) hC 0 dX4_axiom_38 rfl ?_
  refine z_bipush (pc := 40) (v := (nI 10)) hC dX4_axiom_40 (by decide +kernel) ?_
  refine z_idiv (pc := 42) (v := (nI 20)) hC dX4_axiom_42 (by decide +kernel) (by decide +kernel) ?_
  refine z_bipush (pc := 43) (v := (nI 10)) hC dX4_axiom_43 (by decide +kernel) ?_
  refine z_irem (pc := 45) (v := (nI 0)) hC dX4_axiom_45 (by decide +kernel) (by decide +kernel) ?_
  refine z_iload_n (pc := 46) hC 4 dX4_axiom_46 rfl ?_
  refine z_callV_I (pc := 47) (y := yX4_fits) (wy := wsX4_fits) (rm := { frames := 0, cells := 0, slots := 0, locals := 0 }) (As := [.int (nI 0), .int b0]) (rest := []) (na := 2) (C := RX4) (T := TX4) (NF := 16) (ci := 5) (wc := [(p 0, .inr (5, [.int (nI n), .ref (p 1), .int (nI cnt), .int (bI (kn)), .ref (p 2), .ref (p 3), .ref (p 4), .ref (p 5), .int (nI rd), .int md, .ref (p 6), .int (nI fo), .ref (p 7), .int (nI ps), .int (nI 0), .ref (p 8)]))]) (wc2 := [(p 0, .inr (5, [.int (nI n), .ref (p 1), .int (nI cnt), .int (bI (kn)), .ref (p 2), .ref (p 3), .ref (p 4), .ref (p 5), .int (nI rd), .int md, .ref (p 6), .int (nI fo), .ref (p 7), .int (nI ps), .int (nI 0), .ref (p 8)]))]) hC hRm hDis hLis 0 rfl rfl gX4_axiom_X4_fits ⟨rfl, by decide +kernel, by decide +kernel⟩ rfl ⟨by decide, by decide⟩ ⟨by decide, by decide⟩ rfl (Nat.le_of_ble_eq_true rfl) (by decide +kernel) (c_X4_fits_0 _ _ cI cJ cZ (p) (n) (cnt) (kn) (rd) (md) (fo) (ps) (nI 0) (b0) ) [0] [1] [1, 0] [(p 1, .inl (cI, 320, .inl Ax))] rfl (by decide) rfl (by decide) (by decide) [(p 0, .inr (5, [.int (nI n), .ref (p 1), .int (nI cnt), .int (bI (kn)), .ref (p 2), .ref (p 3), .ref (p 4), .ref (p 5), .int (nI rd), .int md, .ref (p 6), .int (nI fo), .ref (p 7), .int (nI ps), .int (nI 0), .ref (p 8)])), (p 1, .inl (cI, 320, .inl Ax))] rfl (by decide) rfl dX4_axiom_47 ?_
  refine z_bif_eq (pc := 50) (tgt := 67) hC dX4_axiom_50 (by decide) (fun h50 => absurd h50 (by decide)) (fun h50 => ?_)
  refine z_aload_n (pc := 53) hC 1 dX4_axiom_53 rfl ?_
  refine z_iload (pc := 54) hC 0 dX4_axiom_54 rfl ?_
  refine z_bipush (pc := 56) (v := (nI 10)) hC dX4_axiom_56 (by decide +kernel) ?_
  refine z_irem (pc := 58) (v := (nI 0)) hC dX4_axiom_58 (by decide +kernel) (by decide +kernel) ?_
  refine z_iload (pc := 59) hC 5 dX4_axiom_59 rfl ?_
  refine z_callV_I (pc := 61) (y := yX4_fits) (wy := wsX4_fits) (rm := { frames := 0, cells := 0, slots := 0, locals := 0 }) (As := [.int (nI 0), .int c0]) (rest := []) (na := 2) (C := RX4) (T := TX4) (NF := 16) (ci := 5) (wc := [(p 0, .inr (5, [.int (nI n), .ref (p 1), .int (nI cnt), .int (bI (kn)), .ref (p 2), .ref (p 3), .ref (p 4), .ref (p 5), .int (nI rd), .int md, .ref (p 6), .int (nI fo), .ref (p 7), .int (nI ps), .int (nI 0), .ref (p 8)]))]) (wc2 := [(p 0, .inr (5, [.int (nI n), .ref (p 1), .int (nI cnt), .int (bI (kn)), .ref (p 2), .ref (p 3), .ref (p 4), .ref (p 5), .int (nI rd), .int md, .ref (p 6), .int (nI fo), .ref (p 7), .int (nI ps), .int (nI 0), .ref (p 8)]))]) hC hRm hDis hLis 0 rfl rfl gX4_axiom_X4_fits ⟨rfl, by decide +kernel, by decide +kernel⟩ rfl ⟨by decide, by decide⟩ ⟨by decide, by decide⟩ rfl (Nat.le_of_ble_eq_true rfl) (by decide +kernel) (c_X4_fits_0 _ _ cI cJ cZ (p) (n) (cnt) (kn) (rd) (md) (fo) (ps) (nI 0) (c0) ) [0] [1] [1, 0] [(p 1, .inl (cI, 320, .inl Ax))] rfl (by decide) rfl (by decide) (by decide) [(p 0, .inr (5, [.int (nI n), .ref (p 1), .int (nI cnt), .int (bI (kn)), .ref (p 2), .ref (p 3), .ref (p 4), .ref (p 5), .int (nI rd), .int md, .ref (p 6), .int (nI fo), .ref (p 7), .int (nI ps), .int (nI 0), .ref (p 8)])), (p 1, .inl (cI, 320, .inl Ax))] rfl (by decide) rfl dX4_axiom_61 ?_
  refine z_bif_ne (pc := 64) (tgt := 69) hC dX4_axiom_64 (by decide) (fun h64 => ?_) (fun h64 => absurd h64 (by decide))
  refine z_aload_n (pc := 69) hC 1 dX4_axiom_69 rfl ?_
  refine z_get (pc := 70) (C := RX4) (T := TX4) (N := 16) hC hinX4 0 rfl rfl 2 (by decide) (by decide +kernel) rfl dX4_axiom_70 ?_
  refine z_bipush (pc := 73) (v := (nI 80)) hC dX4_axiom_73 (by decide +kernel) ?_
  refine z_ncmp_ne (pc := 75) (tgt := 81) hC dX4_axiom_75 (by decide) (by omega) (by omega) (fun h75 => ?_) (fun h75 => absurd h75 (by omega))
  refine z_aload_n (pc := 81) hC 1 dX4_axiom_81 rfl ?_
  refine z_get (pc := 82) (C := RX4) (T := TX4) (N := 16) hC hinX4 0 rfl rfl 1 (by decide) (by decide +kernel) rfl dX4_axiom_82 ?_
  refine z_iconst (pc := 85) (v := (nI 4)) hC dX4_axiom_85 (by decide +kernel) ?_
  refine z_aload_n (pc := 86) hC 1 dX4_axiom_86 rfl ?_
  refine z_get (pc := 87) (C := RX4) (T := TX4) (N := 16) hC hinX4 0 rfl rfl 2 (by decide) (by decide +kernel) rfl dX4_axiom_87 ?_
  refine z_imul (pc := 90) (v := (nI (4 * cnt))) hC dX4_axiom_90 (pk_mul _ _) ?_
  refine z_iload_n (pc := 91) hC 2 dX4_axiom_91 rfl ?_
  refine z_iast (pc := 92) hC 1 0 rfl rfl (by omega) (by decide) [(p 0, .inr (5, [.int (nI n), .ref (p 1), .int (nI cnt), .int (bI (kn)), .ref (p 2), .ref (p 3), .ref (p 4), .ref (p 5), .int (nI rd), .int md, .ref (p 6), .int (nI fo), .ref (p 7), .int (nI ps), .int (nI 0), .ref (p 8)])), (p 1, .inl (cI, 320, .inl (upd Ax (4 * cnt) (nI 7))))] rfl dX4_axiom_92 ?_
  refine z_aload_n (pc := 93) hC 1 dX4_axiom_93 rfl ?_
  refine z_get (pc := 94) (C := RX4) (T := TX4) (N := 16) hC hinX4 0 rfl rfl 1 (by decide) (by decide +kernel) rfl dX4_axiom_94 ?_
  refine z_iconst (pc := 97) (v := (nI 4)) hC dX4_axiom_97 (by decide +kernel) ?_
  refine z_aload_n (pc := 98) hC 1 dX4_axiom_98 rfl ?_
  refine z_get (pc := 99) (C := RX4) (T := TX4) (N := 16) hC hinX4 0 rfl rfl 2 (by decide) (by decide +kernel) rfl dX4_axiom_99 ?_
  refine z_imul (pc := 102) (v := (nI (4 * cnt))) hC dX4_axiom_102 (pk_mul _ _) ?_
  refine z_iconst (pc := 103) (v := (nI 1)) hC dX4_axiom_103 (by decide +kernel) ?_
  refine z_iadd (pc := 104) (v := (nI (4 * cnt + 1))) hC dX4_axiom_104 (nI_add _ _) ?_
  refine z_iload_n (pc := 105) hC 3 dX4_axiom_105 rfl ?_
  refine z_iast (pc := 106) hC 1 0 rfl rfl (by omega) (by decide) [(p 0, .inr (5, [.int (nI n), .ref (p 1), .int (nI cnt), .int (bI (kn)), .ref (p 2), .ref (p 3), .ref (p 4), .ref (p 5), .int (nI rd), .int md, .ref (p 6), .int (nI fo), .ref (p 7), .int (nI ps), .int (nI 0), .ref (p 8)])), (p 1, .inl (cI, 320, .inl (upd (upd Ax (4 * cnt) (nI 7)) (4 * cnt + 1) a0)))] rfl dX4_axiom_106 ?_
  refine z_aload_n (pc := 107) hC 1 dX4_axiom_107 rfl ?_
  refine z_get (pc := 108) (C := RX4) (T := TX4) (N := 16) hC hinX4 0 rfl rfl 1 (by decide) (by decide +kernel) rfl dX4_axiom_108 ?_
  refine z_iconst (pc := 111) (v := (nI 4)) hC dX4_axiom_111 (by decide +kernel) ?_
  refine z_aload_n (pc := 112) hC 1 dX4_axiom_112 rfl ?_
  refine z_get (pc := 113) (C := RX4) (T := TX4) (N := 16) hC hinX4 0 rfl rfl 2 (by decide) (by decide +kernel) rfl dX4_axiom_113 ?_
  refine z_imul (pc := 116) (v := (nI (4 * cnt))) hC dX4_axiom_116 (pk_mul _ _) ?_
  refine z_iconst (pc := 117) (v := (nI 2)) hC dX4_axiom_117 (by decide +kernel) ?_
  refine z_iadd (pc := 118) (v := (nI (4 * cnt + 2))) hC dX4_axiom_118 (nI_add _ _) ?_
  refine z_iload_n (pc := 119) hC 4 dX4_axiom_119 rfl ?_
  refine z_iast (pc := 120) hC 1 0 rfl rfl (by omega) (by decide) [(p 0, .inr (5, [.int (nI n), .ref (p 1), .int (nI cnt), .int (bI (kn)), .ref (p 2), .ref (p 3), .ref (p 4), .ref (p 5), .int (nI rd), .int md, .ref (p 6), .int (nI fo), .ref (p 7), .int (nI ps), .int (nI 0), .ref (p 8)])), (p 1, .inl (cI, 320, .inl (upd (upd (upd Ax (4 * cnt) (nI 7)) (4 * cnt + 1) a0) (4 * cnt + 2) b0)))] rfl dX4_axiom_120 ?_
  refine z_aload_n (pc := 121) hC 1 dX4_axiom_121 rfl ?_
  refine z_get (pc := 122) (C := RX4) (T := TX4) (N := 16) hC hinX4 0 rfl rfl 1 (by decide) (by decide +kernel) rfl dX4_axiom_122 ?_
  refine z_iconst (pc := 125) (v := (nI 4)) hC dX4_axiom_125 (by decide +kernel) ?_
  refine z_aload_n (pc := 126) hC 1 dX4_axiom_126 rfl ?_
  refine z_get (pc := 127) (C := RX4) (T := TX4) (N := 16) hC hinX4 0 rfl rfl 2 (by decide) (by decide +kernel) rfl dX4_axiom_127 ?_
  refine z_imul (pc := 130) (v := (nI (4 * cnt))) hC dX4_axiom_130 (pk_mul _ _) ?_
  refine z_iconst (pc := 131) (v := (nI 3)) hC dX4_axiom_131 (by decide +kernel) ?_
  refine z_iadd (pc := 132) (v := (nI (4 * cnt + 3))) hC dX4_axiom_132 (nI_add _ _) ?_
  refine z_iload (pc := 133) hC 5 dX4_axiom_133 rfl ?_
  refine z_iast (pc := 135) hC 1 0 rfl rfl (by omega) (by decide) [(p 0, .inr (5, [.int (nI n), .ref (p 1), .int (nI cnt), .int (bI (kn)), .ref (p 2), .ref (p 3), .ref (p 4), .ref (p 5), .int (nI rd), .int md, .ref (p 6), .int (nI fo), .ref (p 7), .int (nI ps), .int (nI 0), .ref (p 8)])), (p 1, .inl (cI, 320, .inl (upd (upd (upd (upd Ax (4 * cnt) (nI 7)) (4 * cnt + 1) a0) (4 * cnt + 2) b0) (4 * cnt + 3) c0)))] rfl dX4_axiom_135 ?_
  refine z_aload_n (pc := 136) hC 1 dX4_axiom_136 rfl ?_
  refine z_dup (pc := 137) hC dX4_axiom_137 rfl ?_
  refine z_get (pc := 138) (C := RX4) (T := TX4) (N := 16) hC hinX4 0 rfl rfl 2 (by decide) (by decide +kernel) rfl dX4_axiom_138 ?_
  refine z_iconst (pc := 141) (v := (nI 1)) hC dX4_axiom_141 (by decide +kernel) ?_
  refine z_iadd (pc := 142) (v := (nI (cnt + 1))) hC dX4_axiom_142 (nI_add _ _) ?_
  refine z_put (pc := 143) (C := RX4) (T := TX4) (N := 16) hC hinX4 0 rfl rfl 2 (by decide) tyX4 tyX4_ok nmX4 (by decide +kernel) rfl (rfl) (rfl) (Nat.le_of_ble_eq_true rfl) [(p 0, .inr (5, [.int (nI n), .ref (p 1), .int (nI (cnt + 1)), .int (bI (kn)), .ref (p 2), .ref (p 3), .ref (p 4), .ref (p 5), .int (nI rd), .int md, .ref (p 6), .int (nI fo), .ref (p 7), .int (nI ps), .int (nI 0), .ref (p 8)])), (p 1, .inl (cI, 320, .inl (upd (upd (upd (upd Ax (4 * cnt) (nI 7)) (4 * cnt + 1) a0) (4 * cnt + 2) b0) (4 * cnt + 3) c0)))] rfl dX4_axiom_143 ?_
  refine z_aload_n (pc := 146) hC 1 dX4_axiom_146 rfl ?_
  refine z_iconst (pc := 147) (v := (nI 0)) hC dX4_axiom_147 (by decide +kernel) ?_
  refine z_topi (bI (false)) rfl ?_
  refine z_put (pc := 148) (C := RX4) (T := TX4) (N := 16) hC hinX4 0 rfl rfl 3 (by decide) tyX4 tyX4_ok nmX4 (by decide +kernel) rfl (by decide +kernel) (by decide +kernel) (Nat.le_of_ble_eq_true rfl) [(p 0, .inr (5, [.int (nI n), .ref (p 1), .int (nI (cnt + 1)), .int (bI (false)), .ref (p 2), .ref (p 3), .ref (p 4), .ref (p 5), .int (nI rd), .int md, .ref (p 6), .int (nI fo), .ref (p 7), .int (nI ps), .int (nI 0), .ref (p 8)])), (p 1, .inl (cI, 320, .inl (upd (upd (upd (upd Ax (4 * cnt) (nI 7)) (4 * cnt + 1) a0) (4 * cnt + 2) b0) (4 * cnt + 3) c0)))] rfl dX4_axiom_148 ?_
  refine z_aload_n (pc := 151) hC 1 dX4_axiom_151 rfl ?_
  refine z_get (pc := 152) (C := RX4) (T := TX4) (N := 16) hC hinX4 0 rfl rfl 2 (by decide) (by decide +kernel) rfl dX4_axiom_152 ?_
  refine z_iconst (pc := 155) (v := (nI 1)) hC dX4_axiom_155 (by decide +kernel) ?_
  refine z_isub (pc := 156) (v := (nI ((cnt + 1) - 1))) hC dX4_axiom_156 (pk_sub (by omega)) ?_
  exact z_iret (pc := 157) hC hQ hRT (rfl) (by rw [Nat.add_sub_cancel]) (rfl) dX4_axiom_157

set_option maxRecDepth 100000 in
set_option maxHeartbeats 4000000 in
theorem c_X4_axiom_out (l : Launch) (D : va_G) (cI cJ cZ : ClassId) (p : Nat → Nat) (n : Nat) (cnt : Nat) (kn : Bool) (rd : Nat) (md : Int32) (fo : Nat) (ps : Nat) (th : Int32) (Ax : Nat → Int32) (k0 : Int32) (a0 : Int32) (b0 : Int32) (c0 : Int32) (hi : k0 < nI 1 ∨ nI 7 < k0) : MI l yX4_axiom wsX4_axiom { frames := 2, cells := 0, slots := 0, locals := 43 } D (tyL cI cJ cZ) [.ref (p 0), .int k0, .int a0, .int b0, .int c0] [(p 0, .inr (5, [.int (nI n), .ref (p 1), .int (nI cnt), .int (bI (kn)), .ref (p 2), .ref (p 3), .ref (p 4), .ref (p 5), .int (nI rd), .int md, .ref (p 6), .int (nI fo), .ref (p 7), .int (nI ps), .int th, .ref (p 8)])), (p 1, .inl (cI, 320, .inl Ax))] [(p 0, .inr (5, [.int (nI n), .ref (p 1), .int (nI cnt), .int (bI (kn)), .ref (p 2), .ref (p 3), .ref (p 4), .ref (p 5), .int (nI rd), .int md, .ref (p 6), .int (nI fo), .ref (p 7), .int (nI ps), .int (nI 0), .ref (p 8)])), (p 1, .inl (cI, 320, .inl Ax))] (-1) := by
  refine metI_of (cc := cX4_axiom) (maxL := 6) (ret := (some .int)) (by decide +kernel) rfl (Nat.le_of_ble_eq_true rfl) ?_
  intro K hC hRm hNL hDis hLis hRT hIni hQ
  have hinX4 : ∀ w ∈ wsX40, w ∈ wsX4_axiom := by decide +kernel
  refine z_aload_n (pc := 0) hC 0 dX4_axiom_0 rfl ?_
  refine z_iconst (pc := 1) (v := (nI 0)) hC dX4_axiom_1 (by decide +kernel) ?_
  refine z_put (pc := 2) (C := RX4) (T := TX4) (N := 16) hC hinX4 0 rfl rfl 14 (by decide) tyX4 tyX4_ok nmX4 (by decide +kernel) rfl (rfl) (rfl) (Nat.le_of_ble_eq_true rfl) [(p 0, .inr (5, [.int (nI n), .ref (p 1), .int (nI cnt), .int (bI (kn)), .ref (p 2), .ref (p 3), .ref (p 4), .ref (p 5), .int (nI rd), .int md, .ref (p 6), .int (nI fo), .ref (p 7), .int (nI ps), .int (nI 0), .ref (p 8)])), (p 1, .inl (cI, 320, .inl Ax))] rfl dX4_axiom_2 ?_
  refine z_iload_n (pc := 5) hC 1 dX4_axiom_5 rfl ?_
  refine z_iconst (pc := 6) (v := (nI 1)) hC dX4_axiom_6 (by decide +kernel) ?_
  refine z_icmp_lt (pc := 7) (tgt := 16) hC dX4_axiom_7 (by decide) (fun h7 => ?_) (fun h7 => ?_)
  · refine z_iconst (pc := 16) (v := (-1)) hC dX4_axiom_16 (by decide +kernel) ?_
    exact z_iret (pc := 17) hC hQ hRT (rfl) (rfl) (rfl) dX4_axiom_17
  · refine z_iload_n (pc := 10) hC 1 dX4_axiom_10 rfl ?_
    refine z_bipush (pc := 11) (v := (nI 7)) hC dX4_axiom_11 (by decide +kernel) ?_
    refine z_icmp_le (pc := 13) (tgt := 18) hC dX4_axiom_13 (by decide) (fun h13 => absurd hi (fun q => q.elim h7 (fun q2 => absurd h13 (Int32.not_le.mpr q2)))) (fun h13 => ?_)
    refine z_iconst (pc := 16) (v := (-1)) hC dX4_axiom_16 (by decide +kernel) ?_
    exact z_iret (pc := 17) hC hQ hRT (rfl) (rfl) (rfl) dX4_axiom_17
