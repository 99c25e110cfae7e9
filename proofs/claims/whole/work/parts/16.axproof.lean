/-! ElCompletion$Axioms: append, closeGap, remove -/

set_option maxRecDepth 100000 in
set_option maxHeartbeats 4000000 in
theorem c_X0_append (l : Launch) (D : va_G) (cI cJ cZ : ClassId) (q : Nat → Nat) (Kd : Nat → Int32) (Aa : Nat → Int32) (Ab : Nat → Int32) (Ac : Nat → Int32) (cnt : Nat) (k0 : Int32) (a0 : Int32) (b0 : Int32) (c0 : Int32) (hc : cnt < 80) : MI l yX0_append wsX0_append { frames := 0, cells := 0, slots := 0, locals := 0 } D (tyL cI cJ cZ) [.ref (q 1), .int k0, .int a0, .int b0, .int c0] [(q 1, .inr (1, [.ref (q 2), .ref (q 3), .ref (q 4), .ref (q 5), .int (nI cnt)])), (q 2, .inl (cI, 80, .inl Kd)), (q 3, .inl (cI, 80, .inl Aa)), (q 4, .inl (cI, 80, .inl Ab)), (q 5, .inl (cI, 80, .inl Ac))] [(q 1, .inr (1, [.ref (q 2), .ref (q 3), .ref (q 4), .ref (q 5), .int (nI (cnt + 1))])), (q 2, .inl (cI, 80, .inl (upd Kd cnt k0))), (q 3, .inl (cI, 80, .inl (upd Aa cnt a0))), (q 4, .inl (cI, 80, .inl (upd Ab cnt b0))), (q 5, .inl (cI, 80, .inl (upd Ac cnt c0)))] (nI cnt) := by
  refine metI_of (cc := cX0_append) (maxL := 5) (ret := (some .int)) (by decide +kernel) rfl (Nat.le_of_ble_eq_true rfl) ?_
  intro K hC hRm hNL hDis hLis hRT hIni hQ
  have hinX0 : ∀ w ∈ wsX00, w ∈ wsX0_append := by decide +kernel
  refine z_aload_n (pc := 0) hC 0 dX0_append_0 rfl ?_
  refine z_get (pc := 1) (C := RX0) (T := TX0) (N := 5) hC hinX0 0 rfl rfl 4 (by decide) (by decide +kernel) rfl dX0_append_1 ?_
  refine z_bipush (pc := 4) (v := (nI 80)) hC dX0_append_4 (by decide +kernel) ?_
  refine z_ncmp_lt (pc := 6) (tgt := 12) hC dX0_append_6 (by decide) (by omega) (by omega) (fun h6 => ?_) (fun h6 => absurd h6 (by omega))
  refine z_aload_n (pc := 12) hC 0 dX0_append_12 rfl ?_
  refine z_get (pc := 13) (C := RX0) (T := TX0) (N := 5) hC hinX0 0 rfl rfl 0 (by decide) (by decide +kernel) rfl dX0_append_13 ?_
  refine z_aload_n (pc := 16) hC 0 dX0_append_16 rfl ?_
  refine z_get (pc := 17) (C := RX0) (T := TX0) (N := 5) hC hinX0 0 rfl rfl 4 (by decide) (by decide +kernel) rfl dX0_append_17 ?_
  refine z_iload_n (pc := 20) hC 1 dX0_append_20 rfl ?_
  refine z_iast (pc := 21) hC 1 0 rfl rfl (by omega) (by decide) [(q 1, .inr (1, [.ref (q 2), .ref (q 3), .ref (q 4), .ref (q 5), .int (nI cnt)])), (q 2, .inl (cI, 80, .inl (upd Kd cnt k0))), (q 3, .inl (cI, 80, .inl Aa)), (q 4, .inl (cI, 80, .inl Ab)), (q 5, .inl (cI, 80, .inl Ac))] rfl dX0_append_21 ?_
  refine z_aload_n (pc := 22) hC 0 dX0_append_22 rfl ?_
  refine z_get (pc := 23) (C := RX0) (T := TX0) (N := 5) hC hinX0 0 rfl rfl 1 (by decide) (by decide +kernel) rfl dX0_append_23 ?_
  refine z_aload_n (pc := 26) hC 0 dX0_append_26 rfl ?_
  refine z_get (pc := 27) (C := RX0) (T := TX0) (N := 5) hC hinX0 0 rfl rfl 4 (by decide) (by decide +kernel) rfl dX0_append_27 ?_
  refine z_iload_n (pc := 30) hC 2 dX0_append_30 rfl ?_
  refine z_iast (pc := 31) hC 2 0 rfl rfl (by omega) (by decide) [(q 1, .inr (1, [.ref (q 2), .ref (q 3), .ref (q 4), .ref (q 5), .int (nI cnt)])), (q 2, .inl (cI, 80, .inl (upd Kd cnt k0))), (q 3, .inl (cI, 80, .inl (upd Aa cnt a0))), (q 4, .inl (cI, 80, .inl Ab)), (q 5, .inl (cI, 80, .inl Ac))] rfl dX0_append_31 ?_
  refine z_aload_n (pc := 32) hC 0 dX0_append_32 rfl ?_
  refine z_get (pc := 33) (C := RX0) (T := TX0) (N := 5) hC hinX0 0 rfl rfl 2 (by decide) (by decide +kernel) rfl dX0_append_33 ?_
  refine z_aload_n (pc := 36) hC 0 dX0_append_36 rfl ?_
  refine z_get (pc := 37) (C := RX0) (T := TX0) (N := 5) hC hinX0 0 rfl rfl 4 (by decide) (by decide +kernel) rfl dX0_append_37 ?_
  refine z_iload_n (pc := 40) hC 3 dX0_append_40 rfl ?_
  refine z_iast (pc := 41) hC 3 0 rfl rfl (by omega) (by decide) [(q 1, .inr (1, [.ref (q 2), .ref (q 3), .ref (q 4), .ref (q 5), .int (nI cnt)])), (q 2, .inl (cI, 80, .inl (upd Kd cnt k0))), (q 3, .inl (cI, 80, .inl (upd Aa cnt a0))), (q 4, .inl (cI, 80, .inl (upd Ab cnt b0))), (q 5, .inl (cI, 80, .inl Ac))] rfl dX0_append_41 ?_
  refine z_aload_n (pc := 42) hC 0 dX0_append_42 rfl ?_
  refine z_get (pc := 43) (C := RX0) (T := TX0) (N := 5) hC hinX0 0 rfl rfl 3 (by decide) (by decide +kernel) rfl dX0_append_43 ?_
  refine z_aload_n (pc := 46) hC 0 dX0_append_46 rfl ?_
  refine z_get (pc := 47) (C := RX0) (T := TX0) (N := 5) hC hinX0 0 rfl rfl 4 (by decide) (by decide +kernel) rfl dX0_append_47 ?_
  refine z_iload (pc := 50) hC 4 dX0_append_50 rfl ?_
  refine z_iast (pc := 52) hC 4 0 rfl rfl (by omega) (by decide) [(q 1, .inr (1, [.ref (q 2), .ref (q 3), .ref (q 4), .ref (q 5), .int (nI cnt)])), (q 2, .inl (cI, 80, .inl (upd Kd cnt k0))), (q 3, .inl (cI, 80, .inl (upd Aa cnt a0))), (q 4, .inl (cI, 80, .inl (upd Ab cnt b0))), (q 5, .inl (cI, 80, .inl (upd Ac cnt c0)))] rfl dX0_append_52 ?_
  refine z_aload_n (pc := 53) hC 0 dX0_append_53 rfl ?_
  refine z_dup (pc := 54) hC dX0_append_54 rfl ?_
  refine z_get (pc := 55) (C := RX0) (T := TX0) (N := 5) hC hinX0 0 rfl rfl 4 (by decide) (by decide +kernel) rfl dX0_append_55 ?_
  refine z_iconst (pc := 58) (v := (nI 1)) hC dX0_append_58 (by decide +kernel) ?_
  refine z_iadd (pc := 59) (v := (nI (cnt + 1))) hC dX0_append_59 (nI_add _ _) ?_
  refine z_put (pc := 60) (C := RX0) (T := TX0) (N := 5) hC hinX0 0 rfl rfl 4 (by decide) tyX0 tyX0_ok nmX0 (by decide +kernel) rfl (rfl) (rfl) (Nat.le_of_ble_eq_true rfl) [(q 1, .inr (1, [.ref (q 2), .ref (q 3), .ref (q 4), .ref (q 5), .int (nI (cnt + 1))])), (q 2, .inl (cI, 80, .inl (upd Kd cnt k0))), (q 3, .inl (cI, 80, .inl (upd Aa cnt a0))), (q 4, .inl (cI, 80, .inl (upd Ab cnt b0))), (q 5, .inl (cI, 80, .inl (upd Ac cnt c0)))] rfl dX0_append_60 ?_
  refine z_aload_n (pc := 63) hC 0 dX0_append_63 rfl ?_
  refine z_get (pc := 64) (C := RX0) (T := TX0) (N := 5) hC hinX0 0 rfl rfl 4 (by decide) (by decide +kernel) rfl dX0_append_64 ?_
  refine z_iconst (pc := 67) (v := (nI 1)) hC dX0_append_67 (by decide +kernel) ?_
  refine z_isub (pc := 68) (v := (nI ((cnt + 1) - 1))) hC dX0_append_68 (pk_sub (by omega)) ?_
  exact z_iret (pc := 69) hC hQ hRT (rfl) (by rw [Nat.add_sub_cancel]) (rfl) dX0_append_69

set_option maxRecDepth 100000 in
set_option maxHeartbeats 4000000 in
theorem c_X0_closeGap (l : Launch) (D : va_G) (cI cJ cZ : ClassId) (q : Nat → Nat) (cnt : Nat) (h : Nat) (f : Nat → Int32) (k : Nat) (h1 : k ≤ cnt) (h2 : cnt + 1 ≤ 80) : MV l yX0_closeGap wsX0_closeGap { frames := 1, cells := 0, slots := 0, locals := 60 } D (tyL cI cJ cZ) [.ref (q 1), .ref h, .int (nI k)] [(q 1, .inr (1, [.ref (q 2), .ref (q 3), .ref (q 4), .ref (q 5), .int (nI cnt)])), (h, .inl (cI, 80, .inl f))] [(q 1, .inr (1, [.ref (q 2), .ref (q 3), .ref (q 4), .ref (q 5), .int (nI cnt)])), (h, .inl (cI, 80, .inl (va_cpy f f (k + 1) k (cnt - k))))] := by
  refine metV_of (cc := cX0_closeGap) (maxL := 3) (ret := none) (by decide +kernel) rfl (Nat.le_of_ble_eq_true rfl) ?_
  intro K hC hRm hNL hDis hLis hRT hIni hQ
  have hinX0 : ∀ w ∈ wsX00, w ∈ wsX0_closeGap := by decide +kernel
  refine z_aload_n (pc := 0) hC 1 dX0_closeGap_0 rfl ?_
  refine z_iload_n (pc := 1) hC 2 dX0_closeGap_1 rfl ?_
  refine z_iconst (pc := 2) (v := (nI 1)) hC dX0_closeGap_2 (by decide +kernel) ?_
  refine z_iadd (pc := 3) (v := (nI (k + 1))) hC dX0_closeGap_3 (nI_add _ _) ?_
  refine z_aload_n (pc := 4) hC 1 dX0_closeGap_4 rfl ?_
  refine z_iload_n (pc := 5) hC 2 dX0_closeGap_5 rfl ?_
  refine z_aload_n (pc := 6) hC 0 dX0_closeGap_6 rfl ?_
  refine z_get (pc := 7) (C := RX0) (T := TX0) (N := 5) hC hinX0 0 rfl rfl 4 (by decide) (by decide +kernel) rfl dX0_closeGap_7 ?_
  refine z_iload_n (pc := 10) hC 2 dX0_closeGap_10 rfl ?_
  refine z_isub (pc := 11) (v := (nI (cnt - k))) hC dX0_closeGap_11 (pk_sub (by omega)) ?_
  refine z_copyi (pc := 12) hC hRm (by decide +kernel) (by decide +kernel) (by decide +kernel) (by decide +kernel) 1 1 0 0 rfl rfl rfl rfl (by omega) (by omega) (by decide) (by decide) (by decide) (by decide +kernel) [(q 1, .inr (1, [.ref (q 2), .ref (q 3), .ref (q 4), .ref (q 5), .int (nI cnt)])), (h, .inl (cI, 80, .inl (va_cpy f f (k + 1) k (cnt - k))))] rfl dX0_closeGap_12 ?_
  exact z_vret (pc := 15) hC hQ hRT (rfl) dX0_closeGap_15

set_option maxRecDepth 100000 in
set_option maxHeartbeats 4000000 in
theorem c_X0_remove (l : Launch) (D : va_G) (cI cJ cZ : ClassId) (q : Nat → Nat) (Kd : Nat → Int32) (Aa : Nat → Int32) (Ab : Nat → Int32) (Ac : Nat → Int32) (cnt : Nat) (k : Nat) (hk : k < cnt) (hc : cnt ≤ 80) : MI l yX0_remove wsX0_remove { frames := 2, cells := 0, slots := 0, locals := 82 } D (tyL cI cJ cZ) [.ref (q 1), .int (nI k)] [(q 1, .inr (1, [.ref (q 2), .ref (q 3), .ref (q 4), .ref (q 5), .int (nI cnt)])), (q 2, .inl (cI, 80, .inl Kd)), (q 3, .inl (cI, 80, .inl Aa)), (q 4, .inl (cI, 80, .inl Ab)), (q 5, .inl (cI, 80, .inl Ac))] [(q 1, .inr (1, [.ref (q 2), .ref (q 3), .ref (q 4), .ref (q 5), .int (nI (cnt - 1))])), (q 2, .inl (cI, 80, .inl (va_cpy Kd Kd (k + 1) k (cnt - 1 - k)))), (q 3, .inl (cI, 80, .inl (va_cpy Aa Aa (k + 1) k (cnt - 1 - k)))), (q 4, .inl (cI, 80, .inl (va_cpy Ab Ab (k + 1) k (cnt - 1 - k)))), (q 5, .inl (cI, 80, .inl (va_cpy Ac Ac (k + 1) k (cnt - 1 - k))))] (nI (cnt - 1)) := by
  refine metI_of (cc := cX0_remove) (maxL := 2) (ret := (some .int)) (by decide +kernel) rfl (Nat.le_of_ble_eq_true rfl) ?_
  intro K hC hRm hNL hDis hLis hRT hIni hQ
  have hinX0 : ∀ w ∈ wsX00, w ∈ wsX0_remove := by decide +kernel
  refine z_iload_n (pc := 0) hC 1 dX0_remove_0 rfl ?_
  refine z_nif_lt (pc := 1) (tgt := 12) hC dX0_remove_1 (by decide) (by omega) (fun h1 => absurd h1 (by exact id)) (fun h1 => ?_)
  refine z_iload_n (pc := 4) hC 1 dX0_remove_4 rfl ?_
  refine z_aload_n (pc := 5) hC 0 dX0_remove_5 rfl ?_
  refine z_get (pc := 6) (C := RX0) (T := TX0) (N := 5) hC hinX0 0 rfl rfl 4 (by decide) (by decide +kernel) rfl dX0_remove_6 ?_
  refine z_ncmp_lt (pc := 9) (tgt := 14) hC dX0_remove_9 (by decide) (by omega) (by omega) (fun h9 => ?_) (fun h9 => absurd h9 (by omega))
  refine z_aload_n (pc := 14) hC 0 dX0_remove_14 rfl ?_
  refine z_dup (pc := 15) hC dX0_remove_15 rfl ?_
  refine z_get (pc := 16) (C := RX0) (T := TX0) (N := 5) hC hinX0 0 rfl rfl 4 (by decide) (by decide +kernel) rfl dX0_remove_16 ?_
  refine z_iconst (pc := 19) (v := (nI 1)) hC dX0_remove_19 (by decide +kernel) ?_
  refine z_isub (pc := 20) (v := (nI (cnt - 1))) hC dX0_remove_20 (pk_sub (by omega)) ?_
  refine z_put (pc := 21) (C := RX0) (T := TX0) (N := 5) hC hinX0 0 rfl rfl 4 (by decide) tyX0 tyX0_ok nmX0 (by decide +kernel) rfl (rfl) (rfl) (Nat.le_of_ble_eq_true rfl) [(q 1, .inr (1, [.ref (q 2), .ref (q 3), .ref (q 4), .ref (q 5), .int (nI (cnt - 1))])), (q 2, .inl (cI, 80, .inl Kd)), (q 3, .inl (cI, 80, .inl Aa)), (q 4, .inl (cI, 80, .inl Ab)), (q 5, .inl (cI, 80, .inl Ac))] rfl dX0_remove_21 ?_
  refine z_aload_n (pc := 24) hC 0 dX0_remove_24 rfl ?_
  refine z_aload_n (pc := 25) hC 0 dX0_remove_25 rfl ?_
  refine z_get (pc := 26) (C := RX0) (T := TX0) (N := 5) hC hinX0 0 rfl rfl 0 (by decide) (by decide +kernel) rfl dX0_remove_26 ?_
  refine z_iload_n (pc := 29) hC 1 dX0_remove_29 rfl ?_
  refine z_callV_V (pc := 30) (y := yX0_closeGap) (wy := wsX0_closeGap) (rm := { frames := 1, cells := 0, slots := 0, locals := 60 }) (As := [.ref (q 2), .int (nI k)]) (rest := []) (na := 2) (C := RX0) (T := TX0) (NF := 5) (ci := 1) (wc := [(q 1, .inr (1, [.ref (q 2), .ref (q 3), .ref (q 4), .ref (q 5), .int (nI (cnt - 1))])), (q 2, .inl (cI, 80, .inl Kd))]) (wc2 := [(q 1, .inr (1, [.ref (q 2), .ref (q 3), .ref (q 4), .ref (q 5), .int (nI ((cnt - 1)))])), (q 2, .inl (cI, 80, .inl (va_cpy Kd Kd (k + 1) k ((cnt - 1) - k))))]) hC hRm hDis hLis 0 rfl rfl gX0_remove_X0_closeGap ⟨rfl, by decide +kernel, by decide +kernel⟩ rfl ⟨by decide, by decide⟩ ⟨by decide, by decide⟩ rfl (Nat.le_of_ble_eq_true rfl) (by decide +kernel) (c_X0_closeGap _ _ cI cJ cZ (q) (cnt - 1) (q 2) (Kd) (k) (by omega) (by omega)) [0, 1] [2, 3, 4] [3, 4, 0, 1, 2] [(q 3, .inl (cI, 80, .inl Aa)), (q 4, .inl (cI, 80, .inl Ab)), (q 5, .inl (cI, 80, .inl Ac))] rfl (by decide) rfl (by decide) (by decide) [(q 1, .inr (1, [.ref (q 2), .ref (q 3), .ref (q 4), .ref (q 5), .int (nI ((cnt - 1)))])), (q 2, .inl (cI, 80, .inl (va_cpy Kd Kd (k + 1) k ((cnt - 1) - k)))), (q 3, .inl (cI, 80, .inl Aa)), (q 4, .inl (cI, 80, .inl Ab)), (q 5, .inl (cI, 80, .inl Ac))] rfl (by decide) rfl dX0_remove_30 ?_
  refine z_aload_n (pc := 33) hC 0 dX0_remove_33 rfl ?_
  refine z_aload_n (pc := 34) hC 0 dX0_remove_34 rfl ?_
  refine z_get (pc := 35) (C := RX0) (T := TX0) (N := 5) hC hinX0 0 rfl rfl 1 (by decide) (by decide +kernel) rfl dX0_remove_35 ?_
  refine z_iload_n (pc := 38) hC 1 dX0_remove_38 rfl ?_
  refine z_callV_V (pc := 39) (y := yX0_closeGap) (wy := wsX0_closeGap) (rm := { frames := 1, cells := 0, slots := 0, locals := 60 }) (As := [.ref (q 3), .int (nI k)]) (rest := []) (na := 2) (C := RX0) (T := TX0) (NF := 5) (ci := 1) (wc := [(q 1, .inr (1, [.ref (q 2), .ref (q 3), .ref (q 4), .ref (q 5), .int (nI ((cnt - 1)))])), (q 3, .inl (cI, 80, .inl Aa))]) (wc2 := [(q 1, .inr (1, [.ref (q 2), .ref (q 3), .ref (q 4), .ref (q 5), .int (nI ((cnt - 1)))])), (q 3, .inl (cI, 80, .inl (va_cpy Aa Aa (k + 1) k ((cnt - 1) - k))))]) hC hRm hDis hLis 0 rfl rfl gX0_remove_X0_closeGap ⟨rfl, by decide +kernel, by decide +kernel⟩ rfl ⟨by decide, by decide⟩ ⟨by decide, by decide⟩ rfl (Nat.le_of_ble_eq_true rfl) (by decide +kernel) (c_X0_closeGap _ _ cI cJ cZ (q) (cnt - 1) (q 3) (Aa) (k) (by omega) (by omega)) [0, 2] [1, 3, 4] [3, 0, 4, 1, 2] [(q 2, .inl (cI, 80, .inl (va_cpy Kd Kd (k + 1) k ((cnt - 1) - k)))), (q 4, .inl (cI, 80, .inl Ab)), (q 5, .inl (cI, 80, .inl Ac))] rfl (by decide) rfl (by decide) (by decide) [(q 1, .inr (1, [.ref (q 2), .ref (q 3), .ref (q 4), .ref (q 5), .int (nI ((cnt - 1)))])), (q 2, .inl (cI, 80, .inl (va_cpy Kd Kd (k + 1) k ((cnt - 1) - k)))), (q 3, .inl (cI, 80, .inl (va_cpy Aa Aa (k + 1) k ((cnt - 1) - k)))), (q 4, .inl (cI, 80, .inl Ab)), (q 5, .inl (cI, 80, .inl Ac))] rfl (by decide) rfl dX0_remove_39 ?_
  refine z_aload_n (pc := 42) hC 0 dX0_remove_42 rfl ?_
  refine z_aload_n (pc := 43) hC 0 dX0_remove_43 rfl ?_
  refine z_get (pc := 44) (C := RX0) (T := TX0) (N := 5) hC hinX0 0 rfl rfl 2 (by decide) (by decide +kernel) rfl dX0_remove_44 ?_
  refine z_iload_n (pc := 47) hC 1 dX0_remove_47 rfl ?_
  refine z_callV_V (pc := 48) (y := yX0_closeGap) (wy := wsX0_closeGap) (rm := { frames := 1, cells := 0, slots := 0, locals := 60 }) (As := [.ref (q 4), .int (nI k)]) (rest := []) (na := 2) (C := RX0) (T := TX0) (NF := 5) (ci := 1) (wc := [(q 1, .inr (1, [.ref (q 2), .ref (q 3), .ref (q 4), .ref (q 5), .int (nI ((cnt - 1)))])), (q 4, .inl (cI, 80, .inl Ab))]) (wc2 := [(q 1, .inr (1, [.ref (q 2), .ref (q 3), .ref (q 4), .ref (q 5), .int (nI ((cnt - 1)))])), (q 4, .inl (cI, 80, .inl (va_cpy Ab Ab (k + 1) k ((cnt - 1) - k))))]) hC hRm hDis hLis 0 rfl rfl gX0_remove_X0_closeGap ⟨rfl, by decide +kernel, by decide +kernel⟩ rfl ⟨by decide, by decide⟩ ⟨by decide, by decide⟩ rfl (Nat.le_of_ble_eq_true rfl) (by decide +kernel) (c_X0_closeGap _ _ cI cJ cZ (q) (cnt - 1) (q 4) (Ab) (k) (by omega) (by omega)) [0, 3] [1, 2, 4] [3, 0, 1, 4, 2] [(q 2, .inl (cI, 80, .inl (va_cpy Kd Kd (k + 1) k ((cnt - 1) - k)))), (q 3, .inl (cI, 80, .inl (va_cpy Aa Aa (k + 1) k ((cnt - 1) - k)))), (q 5, .inl (cI, 80, .inl Ac))] rfl (by decide) rfl (by decide) (by decide) [(q 1, .inr (1, [.ref (q 2), .ref (q 3), .ref (q 4), .ref (q 5), .int (nI ((cnt - 1)))])), (q 2, .inl (cI, 80, .inl (va_cpy Kd Kd (k + 1) k ((cnt - 1) - k)))), (q 3, .inl (cI, 80, .inl (va_cpy Aa Aa (k + 1) k ((cnt - 1) - k)))), (q 4, .inl (cI, 80, .inl (va_cpy Ab Ab (k + 1) k ((cnt - 1) - k)))), (q 5, .inl (cI, 80, .inl Ac))] rfl (by decide) rfl dX0_remove_48 ?_
  refine z_aload_n (pc := 51) hC 0 dX0_remove_51 rfl ?_
  refine z_aload_n (pc := 52) hC 0 dX0_remove_52 rfl ?_
  refine z_get (pc := 53) (C := RX0) (T := TX0) (N := 5) hC hinX0 0 rfl rfl 3 (by decide) (by decide +kernel) rfl dX0_remove_53 ?_
  refine z_iload_n (pc := 56) hC 1 dX0_remove_56 rfl ?_
  refine z_callV_V (pc := 57) (y := yX0_closeGap) (wy := wsX0_closeGap) (rm := { frames := 1, cells := 0, slots := 0, locals := 60 }) (As := [.ref (q 5), .int (nI k)]) (rest := []) (na := 2) (C := RX0) (T := TX0) (NF := 5) (ci := 1) (wc := [(q 1, .inr (1, [.ref (q 2), .ref (q 3), .ref (q 4), .ref (q 5), .int (nI ((cnt - 1)))])), (q 5, .inl (cI, 80, .inl Ac))]) (wc2 := [(q 1, .inr (1, [.ref (q 2), .ref (q 3), .ref (q 4), .ref (q 5), .int (nI ((cnt - 1)))])), (q 5, .inl (cI, 80, .inl (va_cpy Ac Ac (k + 1) k ((cnt - 1) - k))))]) hC hRm hDis hLis 0 rfl rfl gX0_remove_X0_closeGap ⟨rfl, by decide +kernel, by decide +kernel⟩ rfl ⟨by decide, by decide⟩ ⟨by decide, by decide⟩ rfl (Nat.le_of_ble_eq_true rfl) (by decide +kernel) (c_X0_closeGap _ _ cI cJ cZ (q) (cnt - 1) (q 5) (Ac) (k) (by omega) (by omega)) [0, 4] [1, 2, 3] [3, 0, 1, 2, 4] [(q 2, .inl (cI, 80, .inl (va_cpy Kd Kd (k + 1) k ((cnt - 1) - k)))), (q 3, .inl (cI, 80, .inl (va_cpy Aa Aa (k + 1) k ((cnt - 1) - k)))), (q 4, .inl (cI, 80, .inl (va_cpy Ab Ab (k + 1) k ((cnt - 1) - k))))] rfl (by decide) rfl (by decide) (by decide) [(q 1, .inr (1, [.ref (q 2), .ref (q 3), .ref (q 4), .ref (q 5), .int (nI ((cnt - 1)))])), (q 2, .inl (cI, 80, .inl (va_cpy Kd Kd (k + 1) k ((cnt - 1) - k)))), (q 3, .inl (cI, 80, .inl (va_cpy Aa Aa (k + 1) k ((cnt - 1) - k)))), (q 4, .inl (cI, 80, .inl (va_cpy Ab Ab (k + 1) k ((cnt - 1) - k)))), (q 5, .inl (cI, 80, .inl (va_cpy Ac Ac (k + 1) k ((cnt - 1) - k))))] rfl (by decide) rfl dX0_remove_57 ?_
  refine z_aload_n (pc := 60) hC 0 dX0_remove_60 rfl ?_
  refine z_get (pc := 61) (C := RX0) (T := TX0) (N := 5) hC hinX0 0 rfl rfl 4 (by decide) (by decide +kernel) rfl dX0_remove_61 ?_
  exact z_iret (pc := 64) hC hQ hRT (rfl) (rfl) (rfl) dX0_remove_64

/-! ElCompletion$Proof: need, isNeeded, take -/
def ndS (j : Nat) : Int64 := (nI j &&& nI 63).toInt64 &&& 63
def ndF (Nd : Nat → Int64) (j : Nat) : Nat → Int64 := vp_updL Nd (j / 2 ^ 6) (Nd (j / 2 ^ 6) ||| (1 <<< ndS j))
def needF (Nd : Nat → Int64) (c : Int32) : Nat → Int64 := if c < 0 ∨ nI 4032 ≤ c then Nd else ndF Nd (tn c)
def isN (Nd : Nat → Int64) (j : Nat) : Bool := decide (¬ (Nd (j / 2 ^ 6) >>> ndS j) &&& 1 = 0)
theorem needF_n {Nd : Nat → Int64} {c : Int32} (h : c < 0) : needF Nd c = Nd := if_pos (Or.inl h)
theorem needF_g {Nd : Nat → Int64} {c : Int32} (h : nI 4032 ≤ c) : needF Nd c = Nd := if_pos (Or.inr h)
theorem needF_nI {Nd : Nat → Int64} {j : Nat} (h : j < 4032) : needF Nd (nI j) = ndF Nd j := by
  unfold needF
  rw [if_neg (fun q => q.elim (nI_pos (by omega)) (nI_ge h (by decide))), tn_nI (by omega)]
def tkS (G : Nat → Int64) (j : Nat) (Nd : Nat → Int64) : Nat → Int64 := if isN Nd j = true then needF (needF Nd (fiO (G j))) (seO (G j)) else Nd
def tkN (G : Nat → Int64) (O : Nat → Int32) : Nat → (Nat → Int64) → (Nat → Int64)
  | 0, Nd => Nd
  | m + 1, Nd => tkN G O m (tkS G (tn (O m)) Nd)
abbrev RS : Type := (Nat → Int32) × Nat
def tkR (Nd : Nat → Int64) (O : Nat → Int32) (x : RS) : Nat → RS
  | 0 => x
  | i + 1 => if isN Nd (tn (O i)) = true then (upd (tkR Nd O x i).1 (tkR Nd O x i).2 (O i), (tkR Nd O x i).2 + 1) else tkR Nd O x i
theorem tkR_t {Nd : Nat → Int64} {O : Nat → Int32} {x : RS} {i : Nat} (h : isN Nd (tn (O i)) = true) : tkR Nd O x (i + 1) = (upd (tkR Nd O x i).1 (tkR Nd O x i).2 (O i), (tkR Nd O x i).2 + 1) := if_pos h
theorem tkR_f {Nd : Nat → Int64} {O : Nat → Int32} {x : RS} {i : Nat} (h : isN Nd (tn (O i)) = false) : tkR Nd O x (i + 1) = tkR Nd O x i := if_neg (by rw [h]; decide)
def takeN (G : Nat → Int64) (O : Nat → Int32) (fc : Nat) (c : Int32) (Nd : Nat → Int64) : Nat → Int64 := if flw G c = true then tkN G O fc (needF (fun _ => 0) c) else Nd
def takeR (G : Nat → Int64) (O : Nat → Int32) (fc : Nat) (c : Int32) (Rw : Nat → Int32) : RS := if flw G c = true then tkR (tkN G O fc (needF (fun _ => 0) c)) O (Rw, 0) fc else (Rw, 0)
def decI (m : Nat) : Int32 := nI m - nI 1
theorem decI_0 : decI 0 < 0 := by decide +kernel
theorem decI_s (m : Nat) : decI (m + 1) = nI m := nI_pred m
theorem decI_i (m : Nat) : nI m + Int32.ofInt (-1) = decI m := by
  unfold decI
  rw [Int32.sub_eq_add_neg]
  rfl

set_option maxRecDepth 100000 in
set_option maxHeartbeats 4000000 in
theorem c_X2_need (l : Launch) (D : va_G) (cI cJ cZ : ClassId) (q : Nat → Nat) (Nd : Nat → Int64) (ct : Int32) (p0 : Int32) : MV l yX2_need wsX2_need { frames := 0, cells := 0, slots := 0, locals := 0 } D (tyL cI cJ cZ) [.ref (q 11), .int p0] [(q 11, .inr (3, [.ref (q 12), .ref (q 13), .int ct])), (q 13, .inl (cJ, 63, .inr (.inl Nd)))] [(q 11, .inr (3, [.ref (q 12), .ref (q 13), .int ct])), (q 13, .inl (cJ, 63, .inr (.inl (needF Nd p0))))] := by
  refine metV_of (cc := cX2_need) (maxL := 2) (ret := none) (by decide +kernel) rfl (Nat.le_of_ble_eq_true rfl) ?_
  intro K hC hRm hNL hDis hLis hRT hIni hQ
  have hinX2 : ∀ w ∈ wsX20, w ∈ wsX2_need := by decide +kernel
  refine z_iload_n (pc := 0) hC 1 dX2_need_0 rfl ?_
  refine z_if_lt (pc := 1) (tgt := 29) hC dX2_need_1 (by decide) (fun h1 => ?_) (fun h1 => ?_)
  · exact z_vret (pc := 29) hC hQ hRT (by first | rw [needF_n h1] | rw [needF_g h8] | rw [needF_nI hj]; rfl) dX2_need_29
  · refine z_iload_n (pc := 4) hC 1 dX2_need_4 rfl ?_
    refine z_sipush (pc := 5) (v := (nI 4032)) hC dX2_need_5 (by decide +kernel) ?_
    refine z_icmp_ge (pc := 8) (tgt := 29) hC dX2_need_8 (by decide) (fun h8 => ?_) (fun h8 => ?_)
    · exact z_vret (pc := 29) hC hQ hRT (by first | rw [needF_n h1] | rw [needF_g h8] | rw [needF_nI hj]; rfl) dX2_need_29
    · obtain ⟨j, hj, ej⟩ := nI_not_neg (by decide) h1 h8
      subst ej
      refine z_aload_n (pc := 11) hC 0 dX2_need_11 rfl ?_
      refine z_get (pc := 12) (C := RX2) (T := TX2) (N := 3) hC hinX2 0 rfl rfl 1 (by decide) (by decide +kernel) rfl dX2_need_12 ?_
      refine z_iload_n (pc := 15) hC 1 dX2_need_15 rfl ?_
      refine z_bipush (pc := 16) (v := (nI 6)) hC dX2_need_16 (by decide +kernel) ?_
      refine z_ishr (pc := 18) (v := (nI (j / 2 ^ 6))) hC dX2_need_18 (pk_shrN (by omega) _ 6 (by decide +kernel)) ?_
      refine z_dup2 (pc := 19) hC dX2_need_19 rfl rfl ?_
      refine z_lald (pc := 20) (v := (Nd (j / 2 ^ 6))) hC 1 1 rfl rfl (by omega) (by decide) (rfl) dX2_need_20 ?_
      refine z_lconst (pc := 21) (v := 1) hC dX2_need_21 (by decide +kernel) ?_
      refine z_iload_n (pc := 22) hC 1 dX2_need_22 rfl ?_
      refine z_bipush (pc := 23) (v := (nI 63)) hC dX2_need_23 (by decide +kernel) ?_
      refine z_iand (pc := 25) (v := ((nI j) &&& (nI 63))) hC dX2_need_25 (rfl) ?_
      refine z_lshl (pc := 26) (v := (1 <<< (((nI j) &&& (nI 63)).toInt64 &&& 63))) hC dX2_need_26 rfl ?_
      refine z_lor (pc := 27) (v := ((Nd (j / 2 ^ 6)) ||| (1 <<< (((nI j) &&& (nI 63)).toInt64 &&& 63)))) hC dX2_need_27 rfl ?_
      refine z_last (pc := 28) hC 1 1 rfl rfl (by omega) (by decide) [(q 11, .inr (3, [.ref (q 12), .ref (q 13), .int ct])), (q 13, .inl (cJ, 63, .inr (.inl (vp_updL Nd (j / 2 ^ 6) ((Nd (j / 2 ^ 6)) ||| (1 <<< (((nI j) &&& (nI 63)).toInt64 &&& 63)))))))] rfl dX2_need_28 ?_
      exact z_vret (pc := 29) hC hQ hRT (by first | rw [needF_n h1] | rw [needF_g h8] | rw [needF_nI hj]; rfl) dX2_need_29

set_option maxRecDepth 100000 in
set_option maxHeartbeats 4000000 in
theorem c_X2_isNeeded (l : Launch) (D : va_G) (cI cJ cZ : ClassId) (q : Nat → Nat) (Nd : Nat → Int64) (ct : Int32) (j : Nat) (hj : j < 4032) : MI l yX2_isNeeded wsX2_isNeeded { frames := 0, cells := 0, slots := 0, locals := 0 } D (tyL cI cJ cZ) [.ref (q 11), .int (nI j)] [(q 11, .inr (3, [.ref (q 12), .ref (q 13), .int ct])), (q 13, .inl (cJ, 63, .inr (.inl Nd)))] [(q 11, .inr (3, [.ref (q 12), .ref (q 13), .int ct])), (q 13, .inl (cJ, 63, .inr (.inl Nd)))] (bI (isN Nd j)) := by
  refine metI_of (cc := cX2_isNeeded) (maxL := 2) (ret := (some .boolean)) (by decide +kernel) rfl (Nat.le_of_ble_eq_true rfl) ?_
  intro K hC hRm hNL hDis hLis hRT hIni hQ
  have hinX2 : ∀ w ∈ wsX20, w ∈ wsX2_isNeeded := by decide +kernel
  refine z_aload_n (pc := 0) hC 0 dX2_isNeeded_0 rfl ?_
  refine z_get (pc := 1) (C := RX2) (T := TX2) (N := 3) hC hinX2 0 rfl rfl 1 (by decide) (by decide +kernel) rfl dX2_isNeeded_1 ?_
  refine z_iload_n (pc := 4) hC 1 dX2_isNeeded_4 rfl ?_
  refine z_bipush (pc := 5) (v := (nI 6)) hC dX2_isNeeded_5 (by decide +kernel) ?_
  refine z_ishr (pc := 7) (v := (nI (j / 2 ^ 6))) hC dX2_isNeeded_7 (pk_shrN (by omega) _ 6 (by decide +kernel)) ?_
  refine z_lald (pc := 8) (v := (Nd (j / 2 ^ 6))) hC 1 1 rfl rfl (by omega) (by decide) (rfl) dX2_isNeeded_8 ?_
  refine z_iload_n (pc := 9) hC 1 dX2_isNeeded_9 rfl ?_
  refine z_bipush (pc := 10) (v := (nI 63)) hC dX2_isNeeded_10 (by decide +kernel) ?_
  refine z_iand (pc := 12) (v := ((nI j) &&& (nI 63))) hC dX2_isNeeded_12 (rfl) ?_
  refine z_lshr (pc := 13) (v := ((Nd (j / 2 ^ 6)) >>> (((nI j) &&& (nI 63)).toInt64 &&& 63))) hC dX2_isNeeded_13 rfl ?_
  refine z_lconst (pc := 14) (v := 1) hC dX2_isNeeded_14 (by decide +kernel) ?_
  refine z_land (pc := 15) (v := (((Nd (j / 2 ^ 6)) >>> (((nI j) &&& (nI 63)).toInt64 &&& 63)) &&& 1)) hC dX2_isNeeded_15 rfl ?_
  refine z_lconst (pc := 16) (v := 0) hC dX2_isNeeded_16 (by decide +kernel) ?_
  refine z_lcmp (pc := 17) (v := (lg_cmp (((Nd (j / 2 ^ 6)) >>> (((nI j) &&& (nI 63)).toInt64 &&& 63)) &&& 1) 0)) hC dX2_isNeeded_17 (rfl) ?_
  refine z_if_eq (pc := 18) (tgt := 25) hC dX2_isNeeded_18 (by decide) (fun h18 => ?_) (fun h18 => ?_)
  · refine z_iconst (pc := 25) (v := (nI 0)) hC dX2_isNeeded_25 (by decide +kernel) ?_
    exact z_iret (pc := 26) hC hQ hRT (by decide +kernel) (by first | exact bI_t (decide_eq_true (fun h => h18 (lg_eq0.mpr h))) | exact bI_f (decide_eq_false (fun h => h (lg_eq0.mp h18)))) (rfl) dX2_isNeeded_26
  · refine z_iconst (pc := 21) (v := (nI 1)) hC dX2_isNeeded_21 (by decide +kernel) ?_
    refine z_goto (pc := 22) (tgt := 26) hC dX2_isNeeded_22 (by decide) ?_
    exact z_iret (pc := 26) hC hQ hRT (by decide +kernel) (by first | exact bI_t (decide_eq_true (fun h => h18 (lg_eq0.mpr h))) | exact bI_f (decide_eq_false (fun h => h (lg_eq0.mp h18)))) (rfl) dX2_isNeeded_26

theorem tkS_t {G : Nat → Int64} {j : Nat} {Nd : Nat → Int64} (h : isN Nd j = true) : tkS G j Nd = needF (needF Nd (fiO (G j))) (seO (G j)) := if_pos h
theorem tkS_f {G : Nat → Int64} {j : Nat} {Nd : Nat → Int64} (h : isN Nd j = false) : tkS G j Nd = Nd := if_neg (by rw [h]; decide)
theorem tkN_s {G : Nat → Int64} {O : Nat → Int32} {m : Nat} {Nd : Nat → Int64} : tkN G O (m + 1) Nd = tkN G O m (tkS G (tn (O m)) Nd) := rfl
theorem takeN_f {G : Nat → Int64} {O : Nat → Int32} {fc : Nat} {c : Int32} {Nd : Nat → Int64} (h : flw G c = false) : takeN G O fc c Nd = Nd := if_neg (by rw [h]; decide)
theorem takeN_t {G : Nat → Int64} {O : Nat → Int32} {fc : Nat} {c : Int32} {Nd : Nat → Int64} (h : flw G c = true) : takeN G O fc c Nd = tkN G O fc (needF (fun _ => 0) c) := if_pos h
theorem takeR_f {G : Nat → Int64} {O : Nat → Int32} {fc : Nat} {c : Int32} {Rw : Nat → Int32} (h : flw G c = false) : takeR G O fc c Rw = (Rw, 0) := if_neg (by rw [h]; decide)
theorem takeR_t {G : Nat → Int64} {O : Nat → Int32} {fc : Nat} {c : Int32} {Rw : Nat → Int32} (h : flw G c = true) : takeR G O fc c Rw = tkR (tkN G O fc (needF (fun _ => 0) c)) O (Rw, 0) fc := if_pos h

set_option maxRecDepth 100000 in
set_option maxHeartbeats 4000000 in
theorem c_X2_take (l : Launch) (D : va_G) (cI cJ cZ : ClassId) (q : Nat → Nat) (G : Nat → Int64) (O : Nat → Int32) (c0 : Int32) (fc : Nat) (rc : Int32) (ga : Int32) (Nd : Nat → Int64) (Rw : Nat → Int32) (ct : Int32) (p0 : Int32) (hf1 : 1 ≤ fc) (hf2 : fc ≤ 4032) (hO : ∀ i, i < fc → clV 4032 (O i)) : MV l yX2_take wsX2_take { frames := 1, cells := 0, slots := 0, locals := 24 } D (tyL cI cJ cZ) [.ref (q 11), .ref (q 6), .int p0] [(q 11, .inr (3, [.ref (q 12), .ref (q 13), .int ct])), (q 12, .inl (cI, 4032, .inl Rw)), (q 13, .inl (cJ, 63, .inr (.inl Nd))), (q 6, .inr (2, [.ref (q 7), .ref (q 8), .ref (q 9), .ref (q 10), .int c0, .int (nI fc), .int rc, .int ga])), (q 9, .inl (cJ, 4032, .inr (.inl G))), (q 10, .inl (cI, 4032, .inl O))] [(q 11, .inr (3, [.ref (q 12), .ref (q 13), .int (nI ((takeR G O fc p0 Rw).2))])), (q 12, .inl (cI, 4032, .inl ((takeR G O fc p0 Rw).1))), (q 13, .inl (cJ, 63, .inr (.inl (takeN G O fc p0 Nd)))), (q 6, .inr (2, [.ref (q 7), .ref (q 8), .ref (q 9), .ref (q 10), .int c0, .int (nI fc), .int rc, .int ga])), (q 9, .inl (cJ, 4032, .inr (.inl G))), (q 10, .inl (cI, 4032, .inl O))] := by
  refine metV_of (cc := cX2_take) (maxL := 4) (ret := none) (by decide +kernel) rfl (Nat.le_of_ble_eq_true rfl) ?_
  intro K hC hRm hNL hDis hLis hRT hIni hQ
  have hinX1 : ∀ w ∈ wsX10, w ∈ wsX2_take := by decide +kernel
  have hinX2 : ∀ w ∈ wsX20, w ∈ wsX2_take := by decide +kernel
  refine z_aload_n (pc := 0) hC 0 dX2_take_0 rfl ?_
  refine z_iconst (pc := 1) (v := (nI 0)) hC dX2_take_1 (by decide +kernel) ?_
  refine z_put (pc := 2) (C := RX2) (T := TX2) (N := 3) hC hinX2 0 rfl rfl 2 (by decide) tyX2 tyX2_ok nmX2 (by decide +kernel) rfl (rfl) (rfl) (Nat.le_of_ble_eq_true rfl) [(q 11, .inr (3, [.ref (q 12), .ref (q 13), .int (nI 0)])), (q 12, .inl (cI, 4032, .inl Rw)), (q 13, .inl (cJ, 63, .inr (.inl Nd))), (q 6, .inr (2, [.ref (q 7), .ref (q 8), .ref (q 9), .ref (q 10), .int c0, .int (nI fc), .int rc, .int ga])), (q 9, .inl (cJ, 4032, .inr (.inl G))), (q 10, .inl (cI, 4032, .inl O))] rfl dX2_take_2 ?_
  refine z_aload_n (pc := 5) hC 1 dX2_take_5 rfl ?_
  refine z_iload_n (pc := 6) hC 2 dX2_take_6 rfl ?_
  refine z_callVN_I (pc := 7) (y := yX1_follows) (wy := wsX1_follows) (rm := { frames := 0, cells := 0, slots := 0, locals := 0 }) (As := [.int p0]) (rest := []) (na := 1) (C := RX1) (T := TX1) (NF := 8) (ci := 2) (wc := [(q 6, .inr (2, [.ref (q 7), .ref (q 8), .ref (q 9), .ref (q 10), .int c0, .int (nI fc), .int rc, .int ga])), (q 9, .inl (cJ, 4032, .inr (.inl G)))]) (wc2 := [(q 6, .inr (2, [.ref (q 7), .ref (q 8), .ref (q 9), .ref (q 10), .int c0, .int (nI fc), .int rc, .int ga])), (q 9, .inl (cJ, 4032, .inr (.inl G)))]) hC hRm hDis hLis 0 rfl rfl gX2_take_X1_follows_n23 (by decide +kernel) (by decide +kernel) (by decide +kernel) (by decide +kernel) ⟨by decide +kernel, by decide +kernel⟩ rfl ⟨by decide, by decide⟩ ⟨by decide, by decide⟩ rfl (Nat.le_of_ble_eq_true rfl) (by decide +kernel) (c_X1_follows _ _ cI cJ cZ (q) (G) (c0) (nI fc) (rc) (ga) (p0) ) [3, 4] [0, 1, 2, 5] [0, 1, 2, 4, 5, 3] [(q 11, .inr (3, [.ref (q 12), .ref (q 13), .int (nI 0)])), (q 12, .inl (cI, 4032, .inl Rw)), (q 13, .inl (cJ, 63, .inr (.inl Nd))), (q 10, .inl (cI, 4032, .inl O))] rfl (by decide) rfl (by decide) (by decide) [(q 11, .inr (3, [.ref (q 12), .ref (q 13), .int (nI 0)])), (q 12, .inl (cI, 4032, .inl Rw)), (q 13, .inl (cJ, 63, .inr (.inl Nd))), (q 6, .inr (2, [.ref (q 7), .ref (q 8), .ref (q 9), .ref (q 10), .int c0, .int (nI fc), .int rc, .int ga])), (q 9, .inl (cJ, 4032, .inr (.inl G))), (q 10, .inl (cI, 4032, .inl O))] rfl (by decide) rfl dX2_take_7 ?_
  refine z_bif_ne (pc := 10) (tgt := 14) hC dX2_take_10 (by decide) (fun h10 => ?_) (fun h10 => ?_)
  · refine z_aload_n (pc := 14) hC 0 dX2_take_14 rfl ?_
    refine z_get (pc := 15) (C := RX2) (T := TX2) (N := 3) hC hinX2 0 rfl rfl 1 (by decide) (by decide +kernel) rfl dX2_take_15 ?_
    refine z_lconst (pc := 18) (v := 0) hC dX2_take_18 (by decide +kernel) ?_
    refine z_callS_V (pc := 19) (y := yJ7_fill_d0a16) (wy := wsJ7_fill_d0a16) (rm := { frames := 0, cells := 0, slots := 0, locals := 0 }) (As := [.ref (q 13), .long 0]) (rest := []) (na := 2)  (wc := [(q 13, .inl (cJ, 63, .inr (.inl Nd)))]) (wc2 := [(q 13, .inl (cJ, 63, .inr (.inl (fun _ => 0))))]) hC hRm hDis hLis gX2_take_J7_fill_d0a16 ⟨by decide +kernel, by decide +kernel⟩ rfl ⟨by decide, by decide⟩ ⟨by decide, by decide⟩ rfl (Nat.le_of_ble_eq_true rfl) (by decide +kernel) (c_J7_fill_d0a16 _ _ cI cJ cZ (q 13) (63) (Nd) (0) (by decide)) [2] [0, 1, 3, 4, 5] [0, 1, 5, 2, 3, 4] [(q 11, .inr (3, [.ref (q 12), .ref (q 13), .int (nI 0)])), (q 12, .inl (cI, 4032, .inl Rw)), (q 6, .inr (2, [.ref (q 7), .ref (q 8), .ref (q 9), .ref (q 10), .int c0, .int (nI fc), .int rc, .int ga])), (q 9, .inl (cJ, 4032, .inr (.inl G))), (q 10, .inl (cI, 4032, .inl O))] rfl (by decide) rfl (by decide) (by decide) [(q 11, .inr (3, [.ref (q 12), .ref (q 13), .int (nI 0)])), (q 12, .inl (cI, 4032, .inl Rw)), (q 13, .inl (cJ, 63, .inr (.inl (fun _ => 0)))), (q 6, .inr (2, [.ref (q 7), .ref (q 8), .ref (q 9), .ref (q 10), .int c0, .int (nI fc), .int rc, .int ga])), (q 9, .inl (cJ, 4032, .inr (.inl G))), (q 10, .inl (cI, 4032, .inl O))] rfl (by decide) rfl dX2_take_19 ?_
    refine z_aload_n (pc := 22) hC 0 dX2_take_22 rfl ?_
    refine z_iload_n (pc := 23) hC 2 dX2_take_23 rfl ?_
    refine z_callV_V (pc := 24) (y := yX2_need) (wy := wsX2_need) (rm := { frames := 0, cells := 0, slots := 0, locals := 0 }) (As := [.int p0]) (rest := []) (na := 1) (C := RX2) (T := TX2) (NF := 3) (ci := 3) (wc := [(q 11, .inr (3, [.ref (q 12), .ref (q 13), .int (nI 0)])), (q 13, .inl (cJ, 63, .inr (.inl (fun _ => 0))))]) (wc2 := [(q 11, .inr (3, [.ref (q 12), .ref (q 13), .int (nI 0)])), (q 13, .inl (cJ, 63, .inr (.inl (needF (fun _ => 0) p0))))]) hC hRm hDis hLis 0 rfl rfl gX2_take_X2_need ⟨rfl, by decide +kernel, by decide +kernel⟩ rfl ⟨by decide, by decide⟩ ⟨by decide, by decide⟩ rfl (Nat.le_of_ble_eq_true rfl) (by decide +kernel) (c_X2_need _ _ cI cJ cZ (q) (fun _ => 0) (nI 0) (p0) ) [0, 2] [1, 3, 4, 5] [4, 0, 5, 1, 2, 3] [(q 12, .inl (cI, 4032, .inl Rw)), (q 6, .inr (2, [.ref (q 7), .ref (q 8), .ref (q 9), .ref (q 10), .int c0, .int (nI fc), .int rc, .int ga])), (q 9, .inl (cJ, 4032, .inr (.inl G))), (q 10, .inl (cI, 4032, .inl O))] rfl (by decide) rfl (by decide) (by decide) [(q 11, .inr (3, [.ref (q 12), .ref (q 13), .int (nI 0)])), (q 12, .inl (cI, 4032, .inl Rw)), (q 13, .inl (cJ, 63, .inr (.inl (needF (fun _ => 0) p0)))), (q 6, .inr (2, [.ref (q 7), .ref (q 8), .ref (q 9), .ref (q 10), .int c0, .int (nI fc), .int rc, .int ga])), (q 9, .inl (cJ, 4032, .inr (.inl G))), (q 10, .inl (cI, 4032, .inl O))] rfl (by decide) rfl dX2_take_24 ?_
    refine z_aload_n (pc := 27) hC 1 dX2_take_27 rfl ?_
    refine z_getN (pc := 28) (C := RX1) (T := TX1) (N := 8) hC hinX1 3 rfl rfl 5 (by decide) (by decide +kernel) rfl dX2_take_28 ?_
    refine z_iconst (pc := 31) (v := (nI 1)) hC dX2_take_31 (by decide +kernel) ?_
    refine z_isub (pc := 32) (v := (decI fc)) hC dX2_take_32 (rfl) ?_
    refine z_istore_n (pc := 33) hC hNL [(3, .int (decI fc)), (0, .ref (q 11)), (1, .ref (q 6)), (2, .int p0)] dX2_take_33 (by decide) rfl ?_
    have L34 : ∀ (fu : Nat) (m0 : Nat) (Ng : Nat → Int64) (hi : m0 ≤ fc) (hf : m0 + 1 ≤ fu) (hX : takeN G O fc p0 Nd = tkN G O m0 Ng), Z K 0 0 [(q 11, .inr (3, [.ref (q 12), .ref (q 13), .int (nI 0)])), (q 12, .inl (cI, 4032, .inl Rw)), (q 13, .inl (cJ, 63, .inr (.inl Ng))), (q 6, .inr (2, [.ref (q 7), .ref (q 8), .ref (q 9), .ref (q 10), .int c0, .int (nI fc), .int rc, .int ga])), (q 9, .inl (cJ, 4032, .inr (.inl G))), (q 10, .inl (cI, 4032, .inl O))] [(3, .int (decI m0)), (0, .ref (q 11)), (1, .ref (q 6)), (2, .int p0)] 34 [] := by
      intro fu
      induction fu with
      | zero =>
        intro m0 Ng hi hf hX
        exact absurd trivial (by omega)
      | succ fu ih34 =>
        intro m0 Ng hi hf hX
        refine z_iload_n (pc := 34) hC 0 dX2_take_34 rfl ?_
        refine z_if_lt (pc := 35) (tgt := 85) hC dX2_take_35 (by decide) (fun h35 => ?_) (fun h35 => ?_)
        · have em : m0 = 0 := by
              rcases Nat.eq_zero_or_pos m0 with h | h
              · exact h
              · obtain ⟨i, rfl⟩ : ∃ i, m0 = i + 1 := ⟨m0 - 1, by omega⟩
                rw [decI_s] at h35
                exact absurd h35 (nI_pos (by omega))
          have hX2 : takeN G O fc p0 Nd = Ng := by rw [hX, em]; rfl
          refine z_iconst (pc := 85) (v := (nI 0)) hC dX2_take_85 (by decide +kernel) ?_
          refine z_istore_n (pc := 86) hC hNL [(3, .int (nI 0)), (0, .ref (q 11)), (1, .ref (q 6)), (2, .int p0)] dX2_take_86 (by decide) rfl ?_
          have L87 : ∀ (fu : Nat) (i : Nat) (w : RS) (hi : i ≤ fc) (hf : fc + 1 ≤ i + fu) (hwl : w.2 ≤ i) (hw : w = tkR Ng O (Rw, 0) i), Z K 0 0 [(q 11, .inr (3, [.ref (q 12), .ref (q 13), .int (nI (w.2))])), (q 12, .inl (cI, 4032, .inl w.1)), (q 13, .inl (cJ, 63, .inr (.inl Ng))), (q 6, .inr (2, [.ref (q 7), .ref (q 8), .ref (q 9), .ref (q 10), .int c0, .int (nI fc), .int rc, .int ga])), (q 9, .inl (cJ, 4032, .inr (.inl G))), (q 10, .inl (cI, 4032, .inl O))] [(3, .int (nI i)), (0, .ref (q 11)), (1, .ref (q 6)), (2, .int p0)] 87 [] := by
            intro fu
            induction fu with
            | zero =>
              intro i w hi hf hwl hw
              exact absurd trivial (by omega)
            | succ fu ih87 =>
              intro i w hi hf hwl hw
              refine z_iload_n (pc := 87) hC 0 dX2_take_87 rfl ?_
              refine z_aload_n (pc := 88) hC 2 dX2_take_88 rfl ?_
              refine z_getN (pc := 89) (C := RX1) (T := TX1) (N := 8) hC hinX1 3 rfl rfl 5 (by decide) (by decide +kernel) rfl dX2_take_89 ?_
              refine z_ncmp_ge (pc := 92) (tgt := 139) hC dX2_take_92 (by decide) (by omega) (by omega) (fun h92 => ?_) (fun h92 => ?_)
              · exact z_vret (pc := 139) hC hQ hRT (by rw [takeR_t h10, ← takeN_t h10 (Nd := Nd), hX2, hw, show i = fc by omega]) dX2_take_139
              · refine z_aload_n (pc := 95) hC 1 dX2_take_95 rfl ?_
                refine z_aload_n (pc := 96) hC 2 dX2_take_96 rfl ?_
                refine z_getN (pc := 97) (C := RX1) (T := TX1) (N := 8) hC hinX1 3 rfl rfl 3 (by decide) (by decide +kernel) rfl dX2_take_97 ?_
                refine z_iload_n (pc := 100) hC 0 dX2_take_100 rfl ?_
                refine z_iald (pc := 101) (v := (O i)) hC 5 0 rfl rfl (by omega) (by decide) (rfl) dX2_take_101 ?_
                obtain ⟨jj, hjj, ejj⟩ := hO i (by omega)
                refine z_topi (nI jj) ejj ?_
                refine z_callV_I (pc := 102) (y := yX2_isNeeded) (wy := wsX2_isNeeded) (rm := { frames := 0, cells := 0, slots := 0, locals := 0 }) (As := [.int (nI jj)]) (rest := []) (na := 1) (C := RX2) (T := TX2) (NF := 3) (ci := 3) (wc := [(q 11, .inr (3, [.ref (q 12), .ref (q 13), .int (nI (w.2))])), (q 13, .inl (cJ, 63, .inr (.inl Ng)))]) (wc2 := [(q 11, .inr (3, [.ref (q 12), .ref (q 13), .int (nI (w.2))])), (q 13, .inl (cJ, 63, .inr (.inl Ng)))]) hC hRm hDis hLis 0 rfl rfl gX2_take_X2_isNeeded ⟨rfl, by decide +kernel, by decide +kernel⟩ rfl ⟨by decide, by decide⟩ ⟨by decide, by decide⟩ rfl (Nat.le_of_ble_eq_true rfl) (by decide +kernel) (c_X2_isNeeded _ _ cI cJ cZ (q) (Ng) (nI (w.2)) (jj) (hjj)) [0, 2] [1, 3, 4, 5] [4, 0, 5, 1, 2, 3] [(q 12, .inl (cI, 4032, .inl w.1)), (q 6, .inr (2, [.ref (q 7), .ref (q 8), .ref (q 9), .ref (q 10), .int c0, .int (nI fc), .int rc, .int ga])), (q 9, .inl (cJ, 4032, .inr (.inl G))), (q 10, .inl (cI, 4032, .inl O))] rfl (by decide) rfl (by decide) (by decide) [(q 11, .inr (3, [.ref (q 12), .ref (q 13), .int (nI (w.2))])), (q 12, .inl (cI, 4032, .inl w.1)), (q 13, .inl (cJ, 63, .inr (.inl Ng))), (q 6, .inr (2, [.ref (q 7), .ref (q 8), .ref (q 9), .ref (q 10), .int c0, .int (nI fc), .int rc, .int ga])), (q 9, .inl (cJ, 4032, .inr (.inl G))), (q 10, .inl (cI, 4032, .inl O))] rfl (by decide) rfl dX2_take_102 ?_
                refine z_bif_eq (pc := 105) (tgt := 133) hC dX2_take_105 (by decide) (fun h105 => ?_) (fun h105 => ?_)
                · refine z_iinc (pc := 133) (q := 0) (x := (nI i)) (v := (nI (i + 1))) hC hNL [(3, .int (nI (i + 1))), (0, .ref (q 11)), (1, .ref (q 6)), (2, .int p0)] dX2_take_133 rfl (nI_add _ _) (by decide) rfl ?_
                  refine z_goto (pc := 136) (tgt := 87) hC dX2_take_136 (by decide) ?_
                  exact ih87 (i + 1) (w) (by omega) (by omega) (by first | exact Nat.le_succ_of_le hwl | (show w.2 + 1 ≤ i + 1; omega)) (by first | rw [tkR_f (by rw [ejj, tn_nI (by omega)]; exact h105), hw] | rw [tkR_t (by rw [ejj, tn_nI (by omega)]; exact h105), hw])
                · refine z_aload_n (pc := 108) hC 1 dX2_take_108 rfl ?_
                  refine z_get (pc := 109) (C := RX2) (T := TX2) (N := 3) hC hinX2 0 rfl rfl 0 (by decide) (by decide +kernel) rfl dX2_take_109 ?_
                  refine z_aload_n (pc := 112) hC 1 dX2_take_112 rfl ?_
                  refine z_get (pc := 113) (C := RX2) (T := TX2) (N := 3) hC hinX2 0 rfl rfl 2 (by decide) (by decide +kernel) rfl dX2_take_113 ?_
                  refine z_aload_n (pc := 116) hC 2 dX2_take_116 rfl ?_
                  refine z_getN (pc := 117) (C := RX1) (T := TX1) (N := 8) hC hinX1 3 rfl rfl 3 (by decide) (by decide +kernel) rfl dX2_take_117 ?_
                  refine z_iload_n (pc := 120) hC 0 dX2_take_120 rfl ?_
                  refine z_iald (pc := 121) (v := (O i)) hC 5 0 rfl rfl (by omega) (by decide) (rfl) dX2_take_121 ?_
                  refine z_iast (pc := 122) hC 1 0 rfl rfl (by omega) (by decide) [(q 11, .inr (3, [.ref (q 12), .ref (q 13), .int (nI (w.2))])), (q 12, .inl (cI, 4032, .inl (upd w.1 w.2 (O i)))), (q 13, .inl (cJ, 63, .inr (.inl Ng))), (q 6, .inr (2, [.ref (q 7), .ref (q 8), .ref (q 9), .ref (q 10), .int c0, .int (nI fc), .int rc, .int ga])), (q 9, .inl (cJ, 4032, .inr (.inl G))), (q 10, .inl (cI, 4032, .inl O))] rfl dX2_take_122 ?_
                  refine z_aload_n (pc := 123) hC 1 dX2_take_123 rfl ?_
                  refine z_dup (pc := 124) hC dX2_take_124 rfl ?_
                  refine z_get (pc := 125) (C := RX2) (T := TX2) (N := 3) hC hinX2 0 rfl rfl 2 (by decide) (by decide +kernel) rfl dX2_take_125 ?_
                  refine z_iconst (pc := 128) (v := (nI 1)) hC dX2_take_128 (by decide +kernel) ?_
                  refine z_iadd (pc := 129) (v := (nI (w.2 + 1))) hC dX2_take_129 (nI_add _ _) ?_
                  refine z_put (pc := 130) (C := RX2) (T := TX2) (N := 3) hC hinX2 0 rfl rfl 2 (by decide) tyX2 tyX2_ok nmX2 (by decide +kernel) rfl (rfl) (rfl) (Nat.le_of_ble_eq_true rfl) [(q 11, .inr (3, [.ref (q 12), .ref (q 13), .int (nI (w.2 + 1))])), (q 12, .inl (cI, 4032, .inl (upd w.1 w.2 (O i)))), (q 13, .inl (cJ, 63, .inr (.inl Ng))), (q 6, .inr (2, [.ref (q 7), .ref (q 8), .ref (q 9), .ref (q 10), .int c0, .int (nI fc), .int rc, .int ga])), (q 9, .inl (cJ, 4032, .inr (.inl G))), (q 10, .inl (cI, 4032, .inl O))] rfl dX2_take_130 ?_
                  refine z_iinc (pc := 133) (q := 0) (x := (nI i)) (v := (nI (i + 1))) hC hNL [(3, .int (nI (i + 1))), (0, .ref (q 11)), (1, .ref (q 6)), (2, .int p0)] dX2_take_133 rfl (nI_add _ _) (by decide) rfl ?_
                  refine z_goto (pc := 136) (tgt := 87) hC dX2_take_136 (by decide) ?_
                  exact ih87 (i + 1) ((upd w.1 w.2 (O i), w.2 + 1)) (by omega) (by omega) (by first | exact Nat.le_succ_of_le hwl | (show w.2 + 1 ≤ i + 1; omega)) (by first | rw [tkR_f (by rw [ejj, tn_nI (by omega)]; exact h105), hw] | rw [tkR_t (by rw [ejj, tn_nI (by omega)]; exact h105), hw])
          exact L87 (fc + 1) (0) ((Rw, 0)) (by omega) (by omega) (Nat.zero_le 0) (rfl)
        · obtain ⟨i, rfl⟩ : ∃ i, m0 = i + 1 := ⟨m0 - 1, by have : m0 ≠ 0 := (fun e => h35 (by rw [e]; exact decI_0)); omega⟩
          refine z_lveq [(3, .int (nI i)), (0, .ref (q 11)), (1, .ref (q 6)), (2, .int p0)] (by rw [decI_s]) ?_
          refine z_aload_n (pc := 38) hC 1 dX2_take_38 rfl ?_
          refine z_aload_n (pc := 39) hC 2 dX2_take_39 rfl ?_
          refine z_getN (pc := 40) (C := RX1) (T := TX1) (N := 8) hC hinX1 3 rfl rfl 3 (by decide) (by decide +kernel) rfl dX2_take_40 ?_
          refine z_iload_n (pc := 43) hC 0 dX2_take_43 rfl ?_
          refine z_iald (pc := 44) (v := (O i)) hC 5 0 rfl rfl (by omega) (by decide) (rfl) dX2_take_44 ?_
          obtain ⟨jj, hjj, ejj⟩ := hO i (by omega)
          refine z_topi (nI jj) ejj ?_
          refine z_callV_I (pc := 45) (y := yX2_isNeeded) (wy := wsX2_isNeeded) (rm := { frames := 0, cells := 0, slots := 0, locals := 0 }) (As := [.int (nI jj)]) (rest := []) (na := 1) (C := RX2) (T := TX2) (NF := 3) (ci := 3) (wc := [(q 11, .inr (3, [.ref (q 12), .ref (q 13), .int (nI 0)])), (q 13, .inl (cJ, 63, .inr (.inl Ng)))]) (wc2 := [(q 11, .inr (3, [.ref (q 12), .ref (q 13), .int (nI 0)])), (q 13, .inl (cJ, 63, .inr (.inl Ng)))]) hC hRm hDis hLis 0 rfl rfl gX2_take_X2_isNeeded ⟨rfl, by decide +kernel, by decide +kernel⟩ rfl ⟨by decide, by decide⟩ ⟨by decide, by decide⟩ rfl (Nat.le_of_ble_eq_true rfl) (by decide +kernel) (c_X2_isNeeded _ _ cI cJ cZ (q) (Ng) (nI 0) (jj) (hjj)) [0, 2] [1, 3, 4, 5] [4, 0, 5, 1, 2, 3] [(q 12, .inl (cI, 4032, .inl Rw)), (q 6, .inr (2, [.ref (q 7), .ref (q 8), .ref (q 9), .ref (q 10), .int c0, .int (nI fc), .int rc, .int ga])), (q 9, .inl (cJ, 4032, .inr (.inl G))), (q 10, .inl (cI, 4032, .inl O))] rfl (by decide) rfl (by decide) (by decide) [(q 11, .inr (3, [.ref (q 12), .ref (q 13), .int (nI 0)])), (q 12, .inl (cI, 4032, .inl Rw)), (q 13, .inl (cJ, 63, .inr (.inl Ng))), (q 6, .inr (2, [.ref (q 7), .ref (q 8), .ref (q 9), .ref (q 10), .int c0, .int (nI fc), .int rc, .int ga])), (q 9, .inl (cJ, 4032, .inr (.inl G))), (q 10, .inl (cI, 4032, .inl O))] rfl (by decide) rfl dX2_take_45 ?_
          refine z_bif_eq (pc := 48) (tgt := 79) hC dX2_take_48 (by decide) (fun h48 => ?_) (fun h48 => ?_)
          · refine z_iinc (pc := 79) (q := 0) (x := (nI i)) (v := (decI i)) hC hNL [(3, .int (decI i)), (0, .ref (q 11)), (1, .ref (q 6)), (2, .int p0)] dX2_take_79 rfl (decI_i i) (by decide) rfl ?_
            refine z_goto (pc := 82) (tgt := 34) hC dX2_take_82 (by decide) ?_
            exact ih34 (i) (Ng) (by omega) (by omega) (by first | rw [hX, tkN_s, tkS_f (by rw [ejj, tn_nI (by omega)]; exact h48)] | rw [hX, tkN_s, tkS_t (by rw [ejj, tn_nI (by omega)]; exact h48), ejj, tn_nI (by omega)])
          · refine z_aload_n (pc := 51) hC 1 dX2_take_51 rfl ?_
            refine z_aload_n (pc := 52) hC 2 dX2_take_52 rfl ?_
            refine z_aload_n (pc := 53) hC 2 dX2_take_53 rfl ?_
            refine z_getN (pc := 54) (C := RX1) (T := TX1) (N := 8) hC hinX1 3 rfl rfl 3 (by decide) (by decide +kernel) rfl dX2_take_54 ?_
            refine z_iload_n (pc := 57) hC 0 dX2_take_57 rfl ?_
            refine z_iald (pc := 58) (v := (O i)) hC 5 0 rfl rfl (by omega) (by decide) (rfl) dX2_take_58 ?_
            refine z_topi (nI jj) ejj ?_
            refine z_callVN_I (pc := 59) (y := yX1_firstPremiseOf) (wy := wsX1_firstPremiseOf) (rm := { frames := 0, cells := 0, slots := 0, locals := 0 }) (As := [.int (nI jj)]) (rest := [.ref (q 11)]) (na := 1) (C := RX1) (T := TX1) (NF := 8) (ci := 2) (wc := [(q 6, .inr (2, [.ref (q 7), .ref (q 8), .ref (q 9), .ref (q 10), .int c0, .int (nI fc), .int rc, .int ga])), (q 9, .inl (cJ, 4032, .inr (.inl G)))]) (wc2 := [(q 6, .inr (2, [.ref (q 7), .ref (q 8), .ref (q 9), .ref (q 10), .int c0, .int (nI fc), .int rc, .int ga])), (q 9, .inl (cJ, 4032, .inr (.inl G)))]) hC hRm hDis hLis 0 rfl rfl gX2_take_X1_firstPremiseOf_n48 (by decide +kernel) (by decide +kernel) (by decide +kernel) (by decide +kernel) ⟨by decide +kernel, by decide +kernel⟩ rfl ⟨by decide, by decide⟩ ⟨by decide, by decide⟩ rfl (Nat.le_of_ble_eq_true rfl) (by decide +kernel) (c_X1_firstPremiseOf _ _ cI cJ cZ (q) (G) (c0) (nI fc) (rc) (ga) (jj) (hjj)) [3, 4] [0, 1, 2, 5] [0, 1, 2, 4, 5, 3] [(q 11, .inr (3, [.ref (q 12), .ref (q 13), .int (nI 0)])), (q 12, .inl (cI, 4032, .inl Rw)), (q 13, .inl (cJ, 63, .inr (.inl Ng))), (q 10, .inl (cI, 4032, .inl O))] rfl (by decide) rfl (by decide) (by decide) [(q 11, .inr (3, [.ref (q 12), .ref (q 13), .int (nI 0)])), (q 12, .inl (cI, 4032, .inl Rw)), (q 13, .inl (cJ, 63, .inr (.inl Ng))), (q 6, .inr (2, [.ref (q 7), .ref (q 8), .ref (q 9), .ref (q 10), .int c0, .int (nI fc), .int rc, .int ga])), (q 9, .inl (cJ, 4032, .inr (.inl G))), (q 10, .inl (cI, 4032, .inl O))] rfl (by decide) rfl dX2_take_59 ?_
            refine z_callV_V (pc := 62) (y := yX2_need) (wy := wsX2_need) (rm := { frames := 0, cells := 0, slots := 0, locals := 0 }) (As := [.int (fiO (G jj))]) (rest := []) (na := 1) (C := RX2) (T := TX2) (NF := 3) (ci := 3) (wc := [(q 11, .inr (3, [.ref (q 12), .ref (q 13), .int (nI 0)])), (q 13, .inl (cJ, 63, .inr (.inl Ng)))]) (wc2 := [(q 11, .inr (3, [.ref (q 12), .ref (q 13), .int (nI 0)])), (q 13, .inl (cJ, 63, .inr (.inl (needF Ng (fiO (G jj))))))]) hC hRm hDis hLis 0 rfl rfl gX2_take_X2_need ⟨rfl, by decide +kernel, by decide +kernel⟩ rfl ⟨by decide, by decide⟩ ⟨by decide, by decide⟩ rfl (Nat.le_of_ble_eq_true rfl) (by decide +kernel) (c_X2_need _ _ cI cJ cZ (q) (Ng) (nI 0) (fiO (G jj)) ) [0, 2] [1, 3, 4, 5] [4, 0, 5, 1, 2, 3] [(q 12, .inl (cI, 4032, .inl Rw)), (q 6, .inr (2, [.ref (q 7), .ref (q 8), .ref (q 9), .ref (q 10), .int c0, .int (nI fc), .int rc, .int ga])), (q 9, .inl (cJ, 4032, .inr (.inl G))), (q 10, .inl (cI, 4032, .inl O))] rfl (by decide) rfl (by decide) (by decide) [(q 11, .inr (3, [.ref (q 12), .ref (q 13), .int (nI 0)])), (q 12, .inl (cI, 4032, .inl Rw)), (q 13, .inl (cJ, 63, .inr (.inl (needF Ng (fiO (G jj)))))), (q 6, .inr (2, [.ref (q 7), .ref (q 8), .ref (q 9), .ref (q 10), .int c0, .int (nI fc), .int rc, .int ga])), (q 9, .inl (cJ, 4032, .inr (.inl G))), (q 10, .inl (cI, 4032, .inl O))] rfl (by decide) rfl dX2_take_62 ?_
            refine z_aload_n (pc := 65) hC 1 dX2_take_65 rfl ?_
            refine z_aload_n (pc := 66) hC 2 dX2_take_66 rfl ?_
            refine z_aload_n (pc := 67) hC 2 dX2_take_67 rfl ?_
            refine z_getN (pc := 68) (C := RX1) (T := TX1) (N := 8) hC hinX1 3 rfl rfl 3 (by decide) (by decide +kernel) rfl dX2_take_68 ?_
            refine z_iload_n (pc := 71) hC 0 dX2_take_71 rfl ?_
            refine z_iald (pc := 72) (v := (O i)) hC 5 0 rfl rfl (by omega) (by decide) (rfl) dX2_take_72 ?_
            refine z_topi (nI jj) ejj ?_
            refine z_callVN_I (pc := 73) (y := yX1_secondPremiseOf) (wy := wsX1_secondPremiseOf) (rm := { frames := 0, cells := 0, slots := 0, locals := 0 }) (As := [.int (nI jj)]) (rest := [.ref (q 11)]) (na := 1) (C := RX1) (T := TX1) (NF := 8) (ci := 2) (wc := [(q 6, .inr (2, [.ref (q 7), .ref (q 8), .ref (q 9), .ref (q 10), .int c0, .int (nI fc), .int rc, .int ga])), (q 9, .inl (cJ, 4032, .inr (.inl G)))]) (wc2 := [(q 6, .inr (2, [.ref (q 7), .ref (q 8), .ref (q 9), .ref (q 10), .int c0, .int (nI fc), .int rc, .int ga])), (q 9, .inl (cJ, 4032, .inr (.inl G)))]) hC hRm hDis hLis 0 rfl rfl gX2_take_X1_secondPremiseOf_n52 (by decide +kernel) (by decide +kernel) (by decide +kernel) (by decide +kernel) ⟨by decide +kernel, by decide +kernel⟩ rfl ⟨by decide, by decide⟩ ⟨by decide, by decide⟩ rfl (Nat.le_of_ble_eq_true rfl) (by decide +kernel) (c_X1_secondPremiseOf _ _ cI cJ cZ (q) (G) (c0) (nI fc) (rc) (ga) (jj) (hjj)) [3, 4] [0, 1, 2, 5] [0, 1, 2, 4, 5, 3] [(q 11, .inr (3, [.ref (q 12), .ref (q 13), .int (nI 0)])), (q 12, .inl (cI, 4032, .inl Rw)), (q 13, .inl (cJ, 63, .inr (.inl (needF Ng (fiO (G jj)))))), (q 10, .inl (cI, 4032, .inl O))] rfl (by decide) rfl (by decide) (by decide) [(q 11, .inr (3, [.ref (q 12), .ref (q 13), .int (nI 0)])), (q 12, .inl (cI, 4032, .inl Rw)), (q 13, .inl (cJ, 63, .inr (.inl (needF Ng (fiO (G jj)))))), (q 6, .inr (2, [.ref (q 7), .ref (q 8), .ref (q 9), .ref (q 10), .int c0, .int (nI fc), .int rc, .int ga])), (q 9, .inl (cJ, 4032, .inr (.inl G))), (q 10, .inl (cI, 4032, .inl O))] rfl (by decide) rfl dX2_take_73 ?_
            refine z_callV_V (pc := 76) (y := yX2_need) (wy := wsX2_need) (rm := { frames := 0, cells := 0, slots := 0, locals := 0 }) (As := [.int (seO (G jj))]) (rest := []) (na := 1) (C := RX2) (T := TX2) (NF := 3) (ci := 3) (wc := [(q 11, .inr (3, [.ref (q 12), .ref (q 13), .int (nI 0)])), (q 13, .inl (cJ, 63, .inr (.inl (needF Ng (fiO (G jj))))))]) (wc2 := [(q 11, .inr (3, [.ref (q 12), .ref (q 13), .int (nI 0)])), (q 13, .inl (cJ, 63, .inr (.inl (needF (needF Ng (fiO (G jj))) (seO (G jj))))))]) hC hRm hDis hLis 0 rfl rfl gX2_take_X2_need ⟨rfl, by decide +kernel, by decide +kernel⟩ rfl ⟨by decide, by decide⟩ ⟨by decide, by decide⟩ rfl (Nat.le_of_ble_eq_true rfl) (by decide +kernel) (c_X2_need _ _ cI cJ cZ (q) (needF Ng (fiO (G jj))) (nI 0) (seO (G jj)) ) [0, 2] [1, 3, 4, 5] [4, 0, 5, 1, 2, 3] [(q 12, .inl (cI, 4032, .inl Rw)), (q 6, .inr (2, [.ref (q 7), .ref (q 8), .ref (q 9), .ref (q 10), .int c0, .int (nI fc), .int rc, .int ga])), (q 9, .inl (cJ, 4032, .inr (.inl G))), (q 10, .inl (cI, 4032, .inl O))] rfl (by decide) rfl (by decide) (by decide) [(q 11, .inr (3, [.ref (q 12), .ref (q 13), .int (nI 0)])), (q 12, .inl (cI, 4032, .inl Rw)), (q 13, .inl (cJ, 63, .inr (.inl (needF (needF Ng (fiO (G jj))) (seO (G jj)))))), (q 6, .inr (2, [.ref (q 7), .ref (q 8), .ref (q 9), .ref (q 10), .int c0, .int (nI fc), .int rc, .int ga])), (q 9, .inl (cJ, 4032, .inr (.inl G))), (q 10, .inl (cI, 4032, .inl O))] rfl (by decide) rfl dX2_take_76 ?_
            refine z_iinc (pc := 79) (q := 0) (x := (nI i)) (v := (decI i)) hC hNL [(3, .int (decI i)), (0, .ref (q 11)), (1, .ref (q 6)), (2, .int p0)] dX2_take_79 rfl (decI_i i) (by decide) rfl ?_
            refine z_goto (pc := 82) (tgt := 34) hC dX2_take_82 (by decide) ?_
            exact ih34 (i) (needF (needF Ng (fiO (G jj))) (seO (G jj))) (by omega) (by omega) (by first | rw [hX, tkN_s, tkS_f (by rw [ejj, tn_nI (by omega)]; exact h48)] | rw [hX, tkN_s, tkS_t (by rw [ejj, tn_nI (by omega)]; exact h48), ejj, tn_nI (by omega)])
    exact L34 (fc + 1) (fc) (needF (fun _ => 0) p0) (by omega) (by omega) (takeN_t h10)
  · exact z_vret (pc := 13) hC hQ hRT (by rw [takeR_f h10, takeN_f h10]) dX2_take_13
