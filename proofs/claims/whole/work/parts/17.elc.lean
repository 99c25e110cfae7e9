/-! ElCompletion: its own methods -/
/-- the closure's cells, its count of classes, and whether it is stale -/
abbrev CSt : Type := FS × Nat × Bool
def cloT (n cnt : Nat) (Kd Aa Ab Ac : Nat → Int32) (s : CSt) : CSt := if s.2.2 = true then (fillF n cnt Kd Aa Ab Ac s.1.2.2.1.1, n, false) else s
theorem cloT_t {n cnt : Nat} {Kd Aa Ab Ac : Nat → Int32} {s : CSt} (h : s.2.2 = true) : cloT n cnt Kd Aa Ab Ac s = (fillF n cnt Kd Aa Ab Ac s.1.2.2.1.1, n, false) := if_pos h
theorem cloT_f {n cnt : Nat} {Kd Aa Ab Ac : Nat → Int32} {s : CSt} (h : s.2.2 = false) : cloT n cnt Kd Aa Ab Ac s = s := if_neg (by rw [h]; decide)
theorem isCl_n {a n : Int32} (h : a < 0) : isCl a n = false := decide_eq_false (fun q => q.1 h)
theorem isCl_g {a n : Int32} (h : n ≤ a) : isCl a n = false := decide_eq_false (fun q => q.2 h)
theorem isCl_t {a n : Int32} (h : ¬ a < 0) (h2 : ¬ n ≤ a) : isCl a n = true := decide_eq_true ⟨h, h2⟩
theorem isCl_nI {a n : Nat} (h : a < n) (hn : n < 2 ^ 31) : isCl (nI a) (nI n) = true := isCl_t (nI_pos (by omega)) (nI_ge h hn)
theorem isCl_of {a : Int32} {n : Nat} (hn : n < 2 ^ 31) (h : isCl a (nI n) = true) : clV n a := by
  have := of_decide_eq_true h
  exact nI_not_neg hn this.1 this.2
theorem isRo_nI {a : Nat} (h : a < 6) : isRo (nI a) = true := decide_eq_true ⟨nI_pos (by omega), nI_ge h (by decide)⟩
theorem isRo_of {a : Int32} (h : isRo a = true) : clV 6 a := by
  have := of_decide_eq_true h
  exact nI_not_neg (by decide) this.1 this.2
def isAx (n : Nat) (k a b c : Int32) : Bool :=
  if k = nI 1 then isCl a (nI n) && isCl b (nI n)
  else if k = nI 2 then isCl a (nI n) && isCl b (nI n) && isCl c (nI n)
  else if k = nI 3 then isCl a (nI n) && isRo b && isCl c (nI n)
  else if k = nI 4 then isRo a && isCl b (nI n) && isCl c (nI n)
  else if k = nI 5 then isRo a && isRo b
  else if k = nI 6 then isRo a && isRo b && isRo c
  else if k = nI 7 then isRo a
  else false
section ISAX
variable {n : Nat} {k a b c : Int32}
theorem isAx_1 (h : k = nI 1) : isAx n k a b c = (isCl a (nI n) && isCl b (nI n)) := if_pos h
theorem isAx_2 (h : k = nI 2) : isAx n k a b c = (isCl a (nI n) && isCl b (nI n) && isCl c (nI n)) := by subst h; rfl
theorem isAx_3 (h : k = nI 3) : isAx n k a b c = (isCl a (nI n) && isRo b && isCl c (nI n)) := by subst h; rfl
theorem isAx_4 (h : k = nI 4) : isAx n k a b c = (isRo a && isCl b (nI n) && isCl c (nI n)) := by subst h; rfl
theorem isAx_5 (h : k = nI 5) : isAx n k a b c = (isRo a && isRo b) := by subst h; rfl
theorem isAx_6 (h : k = nI 6) : isAx n k a b c = (isRo a && isRo b && isRo c) := by subst h; rfl
theorem isAx_7 (h : k = nI 7) : isAx n k a b c = isRo a := by subst h; rfl
theorem isAx_n (h1 : ¬ k = nI 1) (h2 : ¬ k = nI 2) (h3 : ¬ k = nI 3) (h4 : ¬ k = nI 4) (h5 : ¬ k = nI 5) (h6 : ¬ k = nI 6) (h7 : ¬ k = nI 7) : isAx n k a b c = false := by
  unfold isAx
  rw [if_neg h1, if_neg h2, if_neg h3, if_neg h4, if_neg h5, if_neg h6, if_neg h7]
end ISAX

set_option maxRecDepth 100000 in
set_option maxHeartbeats 4000000 in
theorem c_X3_isClass (l : Launch) (D : va_G) (cI cJ cZ : ClassId) (q : Nat → Nat) (n : Nat) (st : Bool) (a0 : Int32) : MI l yX3_isClass wsX3_isClass { frames := 0, cells := 0, slots := 0, locals := 0 } D (tyL cI cJ cZ) [.ref (q 0), .int a0] [(q 0, .inr (4, [.ref (q 1), .ref (q 6), .ref (q 11), .int (nI n), .int (bI (st))]))] [(q 0, .inr (4, [.ref (q 1), .ref (q 6), .ref (q 11), .int (nI n), .int (bI (st))]))] (bI (isCl a0 (nI n))) := by
  refine metI_of (cc := cX3_isClass) (maxL := 2) (ret := (some .boolean)) (by decide +kernel) rfl (Nat.le_of_ble_eq_true rfl) ?_
  intro K hC hRm hNL hDis hLis hRT hIni hQ
  have hinX3 : ∀ w ∈ wsX30, w ∈ wsX3_isClass := by decide +kernel
  refine z_iload_n (pc := 0) hC 1 dX3_isClass_0 rfl ?_
  refine z_if_lt (pc := 1) (tgt := 16) hC dX3_isClass_1 (by decide) (fun h1 => ?_) (fun h1 => ?_)
  · refine z_iconst (pc := 16) (v := (nI 0)) hC dX3_isClass_16 (by decide +kernel) ?_
    exact z_iret (pc := 17) hC hQ hRT (by decide +kernel) (by first | exact bI_f (isCl_n h1) | exact bI_f (isCl_g h9) | exact bI_t (isCl_t h1 h9)) (rfl) dX3_isClass_17
  · refine z_iload_n (pc := 4) hC 1 dX3_isClass_4 rfl ?_
    refine z_aload_n (pc := 5) hC 0 dX3_isClass_5 rfl ?_
    refine z_get (pc := 6) (C := RX3) (T := TX3) (N := 5) hC hinX3 0 rfl rfl 3 (by decide) (by decide +kernel) rfl dX3_isClass_6 ?_
    refine z_icmp_ge (pc := 9) (tgt := 16) hC dX3_isClass_9 (by decide) (fun h9 => ?_) (fun h9 => ?_)
    · refine z_iconst (pc := 16) (v := (nI 0)) hC dX3_isClass_16 (by decide +kernel) ?_
      exact z_iret (pc := 17) hC hQ hRT (by decide +kernel) (by first | exact bI_f (isCl_n h1) | exact bI_f (isCl_g h9) | exact bI_t (isCl_t h1 h9)) (rfl) dX3_isClass_17
    · refine z_iconst (pc := 12) (v := (nI 1)) hC dX3_isClass_12 (by decide +kernel) ?_
      refine z_goto (pc := 13) (tgt := 17) hC dX3_isClass_13 (by decide) ?_
      exact z_iret (pc := 17) hC hQ hRT (by decide +kernel) (by first | exact bI_f (isCl_n h1) | exact bI_f (isCl_g h9) | exact bI_t (isCl_t h1 h9)) (rfl) dX3_isClass_17

set_option maxRecDepth 100000 in
set_option maxHeartbeats 4000000 in
theorem c_X3_isAxiom (l : Launch) (D : va_G) (cI cJ cZ : ClassId) (q : Nat → Nat) (n : Nat) (st : Bool) (k0 : Int32) (a0 : Int32) (b0 : Int32) (c0 : Int32) : MI l yX3_isAxiom wsX3_isAxiom { frames := 1, cells := 0, slots := 0, locals := 21 } D (tyL cI cJ cZ) [.ref (q 0), .int k0, .int a0, .int b0, .int c0] [(q 0, .inr (4, [.ref (q 1), .ref (q 6), .ref (q 11), .int (nI n), .int (bI (st))]))] [(q 0, .inr (4, [.ref (q 1), .ref (q 6), .ref (q 11), .int (nI n), .int (bI (st))]))] (bI (isAx n k0 a0 b0 c0)) := by
  refine metI_of (cc := cX3_isAxiom) (maxL := 5) (ret := (some .boolean)) (by decide +kernel) rfl (Nat.le_of_ble_eq_true rfl) ?_
  intro K hC hRm hNL hDis hLis hRT hIni hQ
  refine z_iload_n (pc := 0) hC 1 dX3_isAxiom_0 rfl ?_
  by_cases e1_1 : k0 = nI 1
  · refine z_tableIn (pc := 1) (x := k0) (off := 43) (tgt := 44) hC dX3_isAxiom_1 (by rw [e1_1]; decide +kernel) (by rw [e1_1]; decide +kernel) (by rw [e1_1]; decide +kernel) (by decide) ?_
    refine z_aload_n (pc := 44) hC 0 dX3_isAxiom_44 rfl ?_
    refine z_iload_n (pc := 45) hC 2 dX3_isAxiom_45 rfl ?_
    refine z_callV_I (pc := 46) (y := yX3_isClass) (wy := wsX3_isClass) (rm := { frames := 0, cells := 0, slots := 0, locals := 0 }) (As := [.int a0]) (rest := []) (na := 1) (C := RX3) (T := TX3) (NF := 5) (ci := 4) (wc := [(q 0, .inr (4, [.ref (q 1), .ref (q 6), .ref (q 11), .int (nI n), .int (bI (st))]))]) (wc2 := [(q 0, .inr (4, [.ref (q 1), .ref (q 6), .ref (q 11), .int (nI n), .int (bI (st))]))]) hC hRm hDis hLis 0 rfl rfl gX3_isAxiom_X3_isClass ⟨rfl, by decide +kernel, by decide +kernel⟩ rfl ⟨by decide, by decide⟩ ⟨by decide, by decide⟩ rfl (Nat.le_of_ble_eq_true rfl) (by decide +kernel) (c_X3_isClass _ _ cI cJ cZ (q) (n) (st) (a0) ) [0] [] [0] [] rfl (by decide) rfl (by decide) (by decide) [(q 0, .inr (4, [.ref (q 1), .ref (q 6), .ref (q 11), .int (nI n), .int (bI (st))]))] rfl (by decide) rfl dX3_isAxiom_46 ?_
    refine z_bif_eq (pc := 49) (tgt := 64) hC dX3_isAxiom_49 (by decide) (fun h49 => ?_) (fun h49 => ?_)
    · refine z_iconst (pc := 64) (v := (nI 0)) hC dX3_isAxiom_64 (by decide +kernel) ?_
      exact z_iret (pc := 65) hC hQ hRT (by decide +kernel) (by first | exact bI_f (by rw [isAx_1 e1_1, h49]; rfl) | exact bI_f (by rw [isAx_1 e1_1, h49, h57]; rfl) | exact bI_t (by rw [isAx_1 e1_1, h49, h57]; rfl)) (rfl) dX3_isAxiom_65
    · refine z_aload_n (pc := 52) hC 0 dX3_isAxiom_52 rfl ?_
      refine z_iload_n (pc := 53) hC 3 dX3_isAxiom_53 rfl ?_
      refine z_callV_I (pc := 54) (y := yX3_isClass) (wy := wsX3_isClass) (rm := { frames := 0, cells := 0, slots := 0, locals := 0 }) (As := [.int b0]) (rest := []) (na := 1) (C := RX3) (T := TX3) (NF := 5) (ci := 4) (wc := [(q 0, .inr (4, [.ref (q 1), .ref (q 6), .ref (q 11), .int (nI n), .int (bI (st))]))]) (wc2 := [(q 0, .inr (4, [.ref (q 1), .ref (q 6), .ref (q 11), .int (nI n), .int (bI (st))]))]) hC hRm hDis hLis 0 rfl rfl gX3_isAxiom_X3_isClass ⟨rfl, by decide +kernel, by decide +kernel⟩ rfl ⟨by decide, by decide⟩ ⟨by decide, by decide⟩ rfl (Nat.le_of_ble_eq_true rfl) (by decide +kernel) (c_X3_isClass _ _ cI cJ cZ (q) (n) (st) (b0) ) [0] [] [0] [] rfl (by decide) rfl (by decide) (by decide) [(q 0, .inr (4, [.ref (q 1), .ref (q 6), .ref (q 11), .int (nI n), .int (bI (st))]))] rfl (by decide) rfl dX3_isAxiom_54 ?_
      refine z_bif_eq (pc := 57) (tgt := 64) hC dX3_isAxiom_57 (by decide) (fun h57 => ?_) (fun h57 => ?_)
      · refine z_iconst (pc := 64) (v := (nI 0)) hC dX3_isAxiom_64 (by decide +kernel) ?_
        exact z_iret (pc := 65) hC hQ hRT (by decide +kernel) (by first | exact bI_f (by rw [isAx_1 e1_1, h49]; rfl) | exact bI_f (by rw [isAx_1 e1_1, h49, h57]; rfl) | exact bI_t (by rw [isAx_1 e1_1, h49, h57]; rfl)) (rfl) dX3_isAxiom_65
      · refine z_iconst (pc := 60) (v := (nI 1)) hC dX3_isAxiom_60 (by decide +kernel) ?_
        refine z_goto (pc := 61) (tgt := 65) hC dX3_isAxiom_61 (by decide) ?_
        exact z_iret (pc := 65) hC hQ hRT (by decide +kernel) (by first | exact bI_f (by rw [isAx_1 e1_1, h49]; rfl) | exact bI_f (by rw [isAx_1 e1_1, h49, h57]; rfl) | exact bI_t (by rw [isAx_1 e1_1, h49, h57]; rfl)) (rfl) dX3_isAxiom_65
  by_cases e1_2 : k0 = nI 2
  · refine z_tableIn (pc := 1) (x := k0) (off := 65) (tgt := 66) hC dX3_isAxiom_1 (by rw [e1_2]; decide +kernel) (by rw [e1_2]; decide +kernel) (by rw [e1_2]; decide +kernel) (by decide) ?_
    refine z_aload_n (pc := 66) hC 0 dX3_isAxiom_66 rfl ?_
    refine z_iload_n (pc := 67) hC 2 dX3_isAxiom_67 rfl ?_
    refine z_callV_I (pc := 68) (y := yX3_isClass) (wy := wsX3_isClass) (rm := { frames := 0, cells := 0, slots := 0, locals := 0 }) (As := [.int a0]) (rest := []) (na := 1) (C := RX3) (T := TX3) (NF := 5) (ci := 4) (wc := [(q 0, .inr (4, [.ref (q 1), .ref (q 6), .ref (q 11), .int (nI n), .int (bI (st))]))]) (wc2 := [(q 0, .inr (4, [.ref (q 1), .ref (q 6), .ref (q 11), .int (nI n), .int (bI (st))]))]) hC hRm hDis hLis 0 rfl rfl gX3_isAxiom_X3_isClass ⟨rfl, by decide +kernel, by decide +kernel⟩ rfl ⟨by decide, by decide⟩ ⟨by decide, by decide⟩ rfl (Nat.le_of_ble_eq_true rfl) (by decide +kernel) (c_X3_isClass _ _ cI cJ cZ (q) (n) (st) (a0) ) [0] [] [0] [] rfl (by decide) rfl (by decide) (by decide) [(q 0, .inr (4, [.ref (q 1), .ref (q 6), .ref (q 11), .int (nI n), .int (bI (st))]))] rfl (by decide) rfl dX3_isAxiom_68 ?_
    refine z_bif_eq (pc := 71) (tgt := 95) hC dX3_isAxiom_71 (by decide) (fun h71 => ?_) (fun h71 => ?_)
    · refine z_iconst (pc := 95) (v := (nI 0)) hC dX3_isAxiom_95 (by decide +kernel) ?_
      exact z_iret (pc := 96) hC hQ hRT (by decide +kernel) (by first | exact bI_f (by rw [isAx_2 e1_2, h71]; rfl) | exact bI_f (by rw [isAx_2 e1_2, h71, h79]; rfl) | exact bI_f (by rw [isAx_2 e1_2, h71, h79, h88]; rfl) | exact bI_t (by rw [isAx_2 e1_2, h71, h79, h88]; rfl)) (rfl) dX3_isAxiom_96
    · refine z_aload_n (pc := 74) hC 0 dX3_isAxiom_74 rfl ?_
      refine z_iload_n (pc := 75) hC 3 dX3_isAxiom_75 rfl ?_
      refine z_callV_I (pc := 76) (y := yX3_isClass) (wy := wsX3_isClass) (rm := { frames := 0, cells := 0, slots := 0, locals := 0 }) (As := [.int b0]) (rest := []) (na := 1) (C := RX3) (T := TX3) (NF := 5) (ci := 4) (wc := [(q 0, .inr (4, [.ref (q 1), .ref (q 6), .ref (q 11), .int (nI n), .int (bI (st))]))]) (wc2 := [(q 0, .inr (4, [.ref (q 1), .ref (q 6), .ref (q 11), .int (nI n), .int (bI (st))]))]) hC hRm hDis hLis 0 rfl rfl gX3_isAxiom_X3_isClass ⟨rfl, by decide +kernel, by decide +kernel⟩ rfl ⟨by decide, by decide⟩ ⟨by decide, by decide⟩ rfl (Nat.le_of_ble_eq_true rfl) (by decide +kernel) (c_X3_isClass _ _ cI cJ cZ (q) (n) (st) (b0) ) [0] [] [0] [] rfl (by decide) rfl (by decide) (by decide) [(q 0, .inr (4, [.ref (q 1), .ref (q 6), .ref (q 11), .int (nI n), .int (bI (st))]))] rfl (by decide) rfl dX3_isAxiom_76 ?_
      refine z_bif_eq (pc := 79) (tgt := 95) hC dX3_isAxiom_79 (by decide) (fun h79 => ?_) (fun h79 => ?_)
      · refine z_iconst (pc := 95) (v := (nI 0)) hC dX3_isAxiom_95 (by decide +kernel) ?_
        exact z_iret (pc := 96) hC hQ hRT (by decide +kernel) (by first | exact bI_f (by rw [isAx_2 e1_2, h71]; rfl) | exact bI_f (by rw [isAx_2 e1_2, h71, h79]; rfl) | exact bI_f (by rw [isAx_2 e1_2, h71, h79, h88]; rfl) | exact bI_t (by rw [isAx_2 e1_2, h71, h79, h88]; rfl)) (rfl) dX3_isAxiom_96
      · refine z_aload_n (pc := 82) hC 0 dX3_isAxiom_82 rfl ?_
        refine z_iload (pc := 83) hC 4 dX3_isAxiom_83 rfl ?_
        refine z_callV_I (pc := 85) (y := yX3_isClass) (wy := wsX3_isClass) (rm := { frames := 0, cells := 0, slots := 0, locals := 0 }) (As := [.int c0]) (rest := []) (na := 1) (C := RX3) (T := TX3) (NF := 5) (ci := 4) (wc := [(q 0, .inr (4, [.ref (q 1), .ref (q 6), .ref (q 11), .int (nI n), .int (bI (st))]))]) (wc2 := [(q 0, .inr (4, [.ref (q 1), .ref (q 6), .ref (q 11), .int (nI n), .int (bI (st))]))]) hC hRm hDis hLis 0 rfl rfl gX3_isAxiom_X3_isClass ⟨rfl, by decide +kernel, by decide +kernel⟩ rfl ⟨by decide, by decide⟩ ⟨by decide, by decide⟩ rfl (Nat.le_of_ble_eq_true rfl) (by decide +kernel) (c_X3_isClass _ _ cI cJ cZ (q) (n) (st) (c0) ) [0] [] [0] [] rfl (by decide) rfl (by decide) (by decide) [(q 0, .inr (4, [.ref (q 1), .ref (q 6), .ref (q 11), .int (nI n), .int (bI (st))]))] rfl (by decide) rfl dX3_isAxiom_85 ?_
        refine z_bif_eq (pc := 88) (tgt := 95) hC dX3_isAxiom_88 (by decide) (fun h88 => ?_) (fun h88 => ?_)
        · refine z_iconst (pc := 95) (v := (nI 0)) hC dX3_isAxiom_95 (by decide +kernel) ?_
          exact z_iret (pc := 96) hC hQ hRT (by decide +kernel) (by first | exact bI_f (by rw [isAx_2 e1_2, h71]; rfl) | exact bI_f (by rw [isAx_2 e1_2, h71, h79]; rfl) | exact bI_f (by rw [isAx_2 e1_2, h71, h79, h88]; rfl) | exact bI_t (by rw [isAx_2 e1_2, h71, h79, h88]; rfl)) (rfl) dX3_isAxiom_96
        · refine z_iconst (pc := 91) (v := (nI 1)) hC dX3_isAxiom_91 (by decide +kernel) ?_
          refine z_goto (pc := 92) (tgt := 96) hC dX3_isAxiom_92 (by decide) ?_
          exact z_iret (pc := 96) hC hQ hRT (by decide +kernel) (by first | exact bI_f (by rw [isAx_2 e1_2, h71]; rfl) | exact bI_f (by rw [isAx_2 e1_2, h71, h79]; rfl) | exact bI_f (by rw [isAx_2 e1_2, h71, h79, h88]; rfl) | exact bI_t (by rw [isAx_2 e1_2, h71, h79, h88]; rfl)) (rfl) dX3_isAxiom_96
  by_cases e1_3 : k0 = nI 3
  · refine z_tableIn (pc := 1) (x := k0) (off := 96) (tgt := 97) hC dX3_isAxiom_1 (by rw [e1_3]; decide +kernel) (by rw [e1_3]; decide +kernel) (by rw [e1_3]; decide +kernel) (by decide) ?_
    refine z_aload_n (pc := 97) hC 0 dX3_isAxiom_97 rfl ?_
    refine z_iload_n (pc := 98) hC 2 dX3_isAxiom_98 rfl ?_
    refine z_callV_I (pc := 99) (y := yX3_isClass) (wy := wsX3_isClass) (rm := { frames := 0, cells := 0, slots := 0, locals := 0 }) (As := [.int a0]) (rest := []) (na := 1) (C := RX3) (T := TX3) (NF := 5) (ci := 4) (wc := [(q 0, .inr (4, [.ref (q 1), .ref (q 6), .ref (q 11), .int (nI n), .int (bI (st))]))]) (wc2 := [(q 0, .inr (4, [.ref (q 1), .ref (q 6), .ref (q 11), .int (nI n), .int (bI (st))]))]) hC hRm hDis hLis 0 rfl rfl gX3_isAxiom_X3_isClass ⟨rfl, by decide +kernel, by decide +kernel⟩ rfl ⟨by decide, by decide⟩ ⟨by decide, by decide⟩ rfl (Nat.le_of_ble_eq_true rfl) (by decide +kernel) (c_X3_isClass _ _ cI cJ cZ (q) (n) (st) (a0) ) [0] [] [0] [] rfl (by decide) rfl (by decide) (by decide) [(q 0, .inr (4, [.ref (q 1), .ref (q 6), .ref (q 11), .int (nI n), .int (bI (st))]))] rfl (by decide) rfl dX3_isAxiom_99 ?_
    refine z_bif_eq (pc := 102) (tgt := 125) hC dX3_isAxiom_102 (by decide) (fun h102 => ?_) (fun h102 => ?_)
    · refine z_iconst (pc := 125) (v := (nI 0)) hC dX3_isAxiom_125 (by decide +kernel) ?_
      exact z_iret (pc := 126) hC hQ hRT (by decide +kernel) (by first | exact bI_f (by rw [isAx_3 e1_3, h102]; rfl) | exact bI_f (by rw [isAx_3 e1_3, h102, h109]; rfl) | exact bI_f (by rw [isAx_3 e1_3, h102, h109, h118]; rfl) | exact bI_t (by rw [isAx_3 e1_3, h102, h109, h118]; rfl)) (rfl) dX3_isAxiom_126
    · refine z_iload_n (pc := 105) hC 3 dX3_isAxiom_105 rfl ?_
      refine z_callS_I (pc := 106) (y := yX3_isRole) (wy := wsX3_isRole) (rm := { frames := 0, cells := 0, slots := 0, locals := 0 }) (As := [.int b0]) (rest := []) (na := 1)  (wc := []) (wc2 := []) hC hRm hDis hLis gX3_isAxiom_X3_isRole ⟨by decide +kernel, by decide +kernel⟩ rfl ⟨by decide, by decide⟩ ⟨by decide, by decide⟩ rfl (Nat.le_of_ble_eq_true rfl) (by decide +kernel) (c_X3_isRole _ _ cI cJ cZ (b0) ) [] [0] [0] [(q 0, .inr (4, [.ref (q 1), .ref (q 6), .ref (q 11), .int (nI n), .int (bI (st))]))] rfl (by decide) rfl (by decide) (by decide) [(q 0, .inr (4, [.ref (q 1), .ref (q 6), .ref (q 11), .int (nI n), .int (bI (st))]))] rfl (by decide) rfl dX3_isAxiom_106 ?_
      refine z_bif_eq (pc := 109) (tgt := 125) hC dX3_isAxiom_109 (by decide) (fun h109 => ?_) (fun h109 => ?_)
      · refine z_iconst (pc := 125) (v := (nI 0)) hC dX3_isAxiom_125 (by decide +kernel) ?_
        exact z_iret (pc := 126) hC hQ hRT (by decide +kernel) (by first | exact bI_f (by rw [isAx_3 e1_3, h102]; rfl) | exact bI_f (by rw [isAx_3 e1_3, h102, h109]; rfl) | exact bI_f (by rw [isAx_3 e1_3, h102, h109, h118]; rfl) | exact bI_t (by rw [isAx_3 e1_3, h102, h109, h118]; rfl)) (rfl) dX3_isAxiom_126
      · refine z_aload_n (pc := 112) hC 0 dX3_isAxiom_112 rfl ?_
        refine z_iload (pc := 113) hC 4 dX3_isAxiom_113 rfl ?_
        refine z_callV_I (pc := 115) (y := yX3_isClass) (wy := wsX3_isClass) (rm := { frames := 0, cells := 0, slots := 0, locals := 0 }) (As := [.int c0]) (rest := []) (na := 1) (C := RX3) (T := TX3) (NF := 5) (ci := 4) (wc := [(q 0, .inr (4, [.ref (q 1), .ref (q 6), .ref (q 11), .int (nI n), .int (bI (st))]))]) (wc2 := [(q 0, .inr (4, [.ref (q 1), .ref (q 6), .ref (q 11), .int (nI n), .int (bI (st))]))]) hC hRm hDis hLis 0 rfl rfl gX3_isAxiom_X3_isClass ⟨rfl, by decide +kernel, by decide +kernel⟩ rfl ⟨by decide, by decide⟩ ⟨by decide, by decide⟩ rfl (Nat.le_of_ble_eq_true rfl) (by decide +kernel) (c_X3_isClass _ _ cI cJ cZ (q) (n) (st) (c0) ) [0] [] [0] [] rfl (by decide) rfl (by decide) (by decide) [(q 0, .inr (4, [.ref (q 1), .ref (q 6), .ref (q 11), .int (nI n), .int (bI (st))]))] rfl (by decide) rfl dX3_isAxiom_115 ?_
        refine z_bif_eq (pc := 118) (tgt := 125) hC dX3_isAxiom_118 (by decide) (fun h118 => ?_) (fun h118 => ?_)
        · refine z_iconst (pc := 125) (v := (nI 0)) hC dX3_isAxiom_125 (by decide +kernel) ?_
          exact z_iret (pc := 126) hC hQ hRT (by decide +kernel) (by first | exact bI_f (by rw [isAx_3 e1_3, h102]; rfl) | exact bI_f (by rw [isAx_3 e1_3, h102, h109]; rfl) | exact bI_f (by rw [isAx_3 e1_3, h102, h109, h118]; rfl) | exact bI_t (by rw [isAx_3 e1_3, h102, h109, h118]; rfl)) (rfl) dX3_isAxiom_126
        · refine z_iconst (pc := 121) (v := (nI 1)) hC dX3_isAxiom_121 (by decide +kernel) ?_
          refine z_goto (pc := 122) (tgt := 126) hC dX3_isAxiom_122 (by decide) ?_
          exact z_iret (pc := 126) hC hQ hRT (by decide +kernel) (by first | exact bI_f (by rw [isAx_3 e1_3, h102]; rfl) | exact bI_f (by rw [isAx_3 e1_3, h102, h109]; rfl) | exact bI_f (by rw [isAx_3 e1_3, h102, h109, h118]; rfl) | exact bI_t (by rw [isAx_3 e1_3, h102, h109, h118]; rfl)) (rfl) dX3_isAxiom_126
  by_cases e1_4 : k0 = nI 4
  · refine z_tableIn (pc := 1) (x := k0) (off := 126) (tgt := 127) hC dX3_isAxiom_1 (by rw [e1_4]; decide +kernel) (by rw [e1_4]; decide +kernel) (by rw [e1_4]; decide +kernel) (by decide) ?_
    refine z_iload_n (pc := 127) hC 2 dX3_isAxiom_127 rfl ?_
    refine z_callS_I (pc := 128) (y := yX3_isRole) (wy := wsX3_isRole) (rm := { frames := 0, cells := 0, slots := 0, locals := 0 }) (As := [.int a0]) (rest := []) (na := 1)  (wc := []) (wc2 := []) hC hRm hDis hLis gX3_isAxiom_X3_isRole ⟨by decide +kernel, by decide +kernel⟩ rfl ⟨by decide, by decide⟩ ⟨by decide, by decide⟩ rfl (Nat.le_of_ble_eq_true rfl) (by decide +kernel) (c_X3_isRole _ _ cI cJ cZ (a0) ) [] [0] [0] [(q 0, .inr (4, [.ref (q 1), .ref (q 6), .ref (q 11), .int (nI n), .int (bI (st))]))] rfl (by decide) rfl (by decide) (by decide) [(q 0, .inr (4, [.ref (q 1), .ref (q 6), .ref (q 11), .int (nI n), .int (bI (st))]))] rfl (by decide) rfl dX3_isAxiom_128 ?_
    refine z_bif_eq (pc := 131) (tgt := 155) hC dX3_isAxiom_131 (by decide) (fun h131 => ?_) (fun h131 => ?_)
    · refine z_iconst (pc := 155) (v := (nI 0)) hC dX3_isAxiom_155 (by decide +kernel) ?_
      exact z_iret (pc := 156) hC hQ hRT (by decide +kernel) (by first | exact bI_f (by rw [isAx_4 e1_4, h131]; rfl) | exact bI_f (by rw [isAx_4 e1_4, h131, h139]; rfl) | exact bI_f (by rw [isAx_4 e1_4, h131, h139, h148]; rfl) | exact bI_t (by rw [isAx_4 e1_4, h131, h139, h148]; rfl)) (rfl) dX3_isAxiom_156
    · refine z_aload_n (pc := 134) hC 0 dX3_isAxiom_134 rfl ?_
      refine z_iload_n (pc := 135) hC 3 dX3_isAxiom_135 rfl ?_
      refine z_callV_I (pc := 136) (y := yX3_isClass) (wy := wsX3_isClass) (rm := { frames := 0, cells := 0, slots := 0, locals := 0 }) (As := [.int b0]) (rest := []) (na := 1) (C := RX3) (T := TX3) (NF := 5) (ci := 4) (wc := [(q 0, .inr (4, [.ref (q 1), .ref (q 6), .ref (q 11), .int (nI n), .int (bI (st))]))]) (wc2 := [(q 0, .inr (4, [.ref (q 1), .ref (q 6), .ref (q 11), .int (nI n), .int (bI (st))]))]) hC hRm hDis hLis 0 rfl rfl gX3_isAxiom_X3_isClass ⟨rfl, by decide +kernel, by decide +kernel⟩ rfl ⟨by decide, by decide⟩ ⟨by decide, by decide⟩ rfl (Nat.le_of_ble_eq_true rfl) (by decide +kernel) (c_X3_isClass _ _ cI cJ cZ (q) (n) (st) (b0) ) [0] [] [0] [] rfl (by decide) rfl (by decide) (by decide) [(q 0, .inr (4, [.ref (q 1), .ref (q 6), .ref (q 11), .int (nI n), .int (bI (st))]))] rfl (by decide) rfl dX3_isAxiom_136 ?_
      refine z_bif_eq (pc := 139) (tgt := 155) hC dX3_isAxiom_139 (by decide) (fun h139 => ?_) (fun h139 => ?_)
      · refine z_iconst (pc := 155) (v := (nI 0)) hC dX3_isAxiom_155 (by decide +kernel) ?_
        exact z_iret (pc := 156) hC hQ hRT (by decide +kernel) (by first | exact bI_f (by rw [isAx_4 e1_4, h131]; rfl) | exact bI_f (by rw [isAx_4 e1_4, h131, h139]; rfl) | exact bI_f (by rw [isAx_4 e1_4, h131, h139, h148]; rfl) | exact bI_t (by rw [isAx_4 e1_4, h131, h139, h148]; rfl)) (rfl) dX3_isAxiom_156
      · refine z_aload_n (pc := 142) hC 0 dX3_isAxiom_142 rfl ?_
        refine z_iload (pc := 143) hC 4 dX3_isAxiom_143 rfl ?_
        refine z_callV_I (pc := 145) (y := yX3_isClass) (wy := wsX3_isClass) (rm := { frames := 0, cells := 0, slots := 0, locals := 0 }) (As := [.int c0]) (rest := []) (na := 1) (C := RX3) (T := TX3) (NF := 5) (ci := 4) (wc := [(q 0, .inr (4, [.ref (q 1), .ref (q 6), .ref (q 11), .int (nI n), .int (bI (st))]))]) (wc2 := [(q 0, .inr (4, [.ref (q 1), .ref (q 6), .ref (q 11), .int (nI n), .int (bI (st))]))]) hC hRm hDis hLis 0 rfl rfl gX3_isAxiom_X3_isClass ⟨rfl, by decide +kernel, by decide +kernel⟩ rfl ⟨by decide, by decide⟩ ⟨by decide, by decide⟩ rfl (Nat.le_of_ble_eq_true rfl) (by decide +kernel) (c_X3_isClass _ _ cI cJ cZ (q) (n) (st) (c0) ) [0] [] [0] [] rfl (by decide) rfl (by decide) (by decide) [(q 0, .inr (4, [.ref (q 1), .ref (q 6), .ref (q 11), .int (nI n), .int (bI (st))]))] rfl (by decide) rfl dX3_isAxiom_145 ?_
        refine z_bif_eq (pc := 148) (tgt := 155) hC dX3_isAxiom_148 (by decide) (fun h148 => ?_) (fun h148 => ?_)
        · refine z_iconst (pc := 155) (v := (nI 0)) hC dX3_isAxiom_155 (by decide +kernel) ?_
          exact z_iret (pc := 156) hC hQ hRT (by decide +kernel) (by first | exact bI_f (by rw [isAx_4 e1_4, h131]; rfl) | exact bI_f (by rw [isAx_4 e1_4, h131, h139]; rfl) | exact bI_f (by rw [isAx_4 e1_4, h131, h139, h148]; rfl) | exact bI_t (by rw [isAx_4 e1_4, h131, h139, h148]; rfl)) (rfl) dX3_isAxiom_156
        · refine z_iconst (pc := 151) (v := (nI 1)) hC dX3_isAxiom_151 (by decide +kernel) ?_
          refine z_goto (pc := 152) (tgt := 156) hC dX3_isAxiom_152 (by decide) ?_
          exact z_iret (pc := 156) hC hQ hRT (by decide +kernel) (by first | exact bI_f (by rw [isAx_4 e1_4, h131]; rfl) | exact bI_f (by rw [isAx_4 e1_4, h131, h139]; rfl) | exact bI_f (by rw [isAx_4 e1_4, h131, h139, h148]; rfl) | exact bI_t (by rw [isAx_4 e1_4, h131, h139, h148]; rfl)) (rfl) dX3_isAxiom_156
  by_cases e1_5 : k0 = nI 5
  · refine z_tableIn (pc := 1) (x := k0) (off := 156) (tgt := 157) hC dX3_isAxiom_1 (by rw [e1_5]; decide +kernel) (by rw [e1_5]; decide +kernel) (by rw [e1_5]; decide +kernel) (by decide) ?_
    refine z_iload_n (pc := 157) hC 2 dX3_isAxiom_157 rfl ?_
    refine z_callS_I (pc := 158) (y := yX3_isRole) (wy := wsX3_isRole) (rm := { frames := 0, cells := 0, slots := 0, locals := 0 }) (As := [.int a0]) (rest := []) (na := 1)  (wc := []) (wc2 := []) hC hRm hDis hLis gX3_isAxiom_X3_isRole ⟨by decide +kernel, by decide +kernel⟩ rfl ⟨by decide, by decide⟩ ⟨by decide, by decide⟩ rfl (Nat.le_of_ble_eq_true rfl) (by decide +kernel) (c_X3_isRole _ _ cI cJ cZ (a0) ) [] [0] [0] [(q 0, .inr (4, [.ref (q 1), .ref (q 6), .ref (q 11), .int (nI n), .int (bI (st))]))] rfl (by decide) rfl (by decide) (by decide) [(q 0, .inr (4, [.ref (q 1), .ref (q 6), .ref (q 11), .int (nI n), .int (bI (st))]))] rfl (by decide) rfl dX3_isAxiom_158 ?_
    refine z_bif_eq (pc := 161) (tgt := 175) hC dX3_isAxiom_161 (by decide) (fun h161 => ?_) (fun h161 => ?_)
    · refine z_iconst (pc := 175) (v := (nI 0)) hC dX3_isAxiom_175 (by decide +kernel) ?_
      exact z_iret (pc := 176) hC hQ hRT (by decide +kernel) (by first | exact bI_f (by rw [isAx_5 e1_5, h161]; rfl) | exact bI_f (by rw [isAx_5 e1_5, h161, h168]; rfl) | exact bI_t (by rw [isAx_5 e1_5, h161, h168]; rfl)) (rfl) dX3_isAxiom_176
    · refine z_iload_n (pc := 164) hC 3 dX3_isAxiom_164 rfl ?_
      refine z_callS_I (pc := 165) (y := yX3_isRole) (wy := wsX3_isRole) (rm := { frames := 0, cells := 0, slots := 0, locals := 0 }) (As := [.int b0]) (rest := []) (na := 1)  (wc := []) (wc2 := []) hC hRm hDis hLis gX3_isAxiom_X3_isRole ⟨by decide +kernel, by decide +kernel⟩ rfl ⟨by decide, by decide⟩ ⟨by decide, by decide⟩ rfl (Nat.le_of_ble_eq_true rfl) (by decide +kernel) (c_X3_isRole _ _ cI cJ cZ (b0) ) [] [0] [0] [(q 0, .inr (4, [.ref (q 1), .ref (q 6), .ref (q 11), .int (nI n), .int (bI (st))]))] rfl (by decide) rfl (by decide) (by decide) [(q 0, .inr (4, [.ref (q 1), .ref (q 6), .ref (q 11), .int (nI n), .int (bI (st))]))] rfl (by decide) rfl dX3_isAxiom_165 ?_
      refine z_bif_eq (pc := 168) (tgt := 175) hC dX3_isAxiom_168 (by decide) (fun h168 => ?_) (fun h168 => ?_)
      · refine z_iconst (pc := 175) (v := (nI 0)) hC dX3_isAxiom_175 (by decide +kernel) ?_
        exact z_iret (pc := 176) hC hQ hRT (by decide +kernel) (by first | exact bI_f (by rw [isAx_5 e1_5, h161]; rfl) | exact bI_f (by rw [isAx_5 e1_5, h161, h168]; rfl) | exact bI_t (by rw [isAx_5 e1_5, h161, h168]; rfl)) (rfl) dX3_isAxiom_176
      · refine z_iconst (pc := 171) (v := (nI 1)) hC dX3_isAxiom_171 (by decide +kernel) ?_
        refine z_goto (pc := 172) (tgt := 176) hC dX3_isAxiom_172 (by decide) ?_
        exact z_iret (pc := 176) hC hQ hRT (by decide +kernel) (by first | exact bI_f (by rw [isAx_5 e1_5, h161]; rfl) | exact bI_f (by rw [isAx_5 e1_5, h161, h168]; rfl) | exact bI_t (by rw [isAx_5 e1_5, h161, h168]; rfl)) (rfl) dX3_isAxiom_176
  by_cases e1_6 : k0 = nI 6
  · refine z_tableIn (pc := 1) (x := k0) (off := 176) (tgt := 177) hC dX3_isAxiom_1 (by rw [e1_6]; decide +kernel) (by rw [e1_6]; decide +kernel) (by rw [e1_6]; decide +kernel) (by decide) ?_
    refine z_iload_n (pc := 177) hC 2 dX3_isAxiom_177 rfl ?_
    refine z_callS_I (pc := 178) (y := yX3_isRole) (wy := wsX3_isRole) (rm := { frames := 0, cells := 0, slots := 0, locals := 0 }) (As := [.int a0]) (rest := []) (na := 1)  (wc := []) (wc2 := []) hC hRm hDis hLis gX3_isAxiom_X3_isRole ⟨by decide +kernel, by decide +kernel⟩ rfl ⟨by decide, by decide⟩ ⟨by decide, by decide⟩ rfl (Nat.le_of_ble_eq_true rfl) (by decide +kernel) (c_X3_isRole _ _ cI cJ cZ (a0) ) [] [0] [0] [(q 0, .inr (4, [.ref (q 1), .ref (q 6), .ref (q 11), .int (nI n), .int (bI (st))]))] rfl (by decide) rfl (by decide) (by decide) [(q 0, .inr (4, [.ref (q 1), .ref (q 6), .ref (q 11), .int (nI n), .int (bI (st))]))] rfl (by decide) rfl dX3_isAxiom_178 ?_
    refine z_bif_eq (pc := 181) (tgt := 203) hC dX3_isAxiom_181 (by decide) (fun h181 => ?_) (fun h181 => ?_)
    · refine z_iconst (pc := 203) (v := (nI 0)) hC dX3_isAxiom_203 (by decide +kernel) ?_
      exact z_iret (pc := 204) hC hQ hRT (by decide +kernel) (by first | exact bI_f (by rw [isAx_6 e1_6, h181]; rfl) | exact bI_f (by rw [isAx_6 e1_6, h181, h188]; rfl) | exact bI_f (by rw [isAx_6 e1_6, h181, h188, h196]; rfl) | exact bI_t (by rw [isAx_6 e1_6, h181, h188, h196]; rfl)) (rfl) dX3_isAxiom_204
    · refine z_iload_n (pc := 184) hC 3 dX3_isAxiom_184 rfl ?_
      refine z_callS_I (pc := 185) (y := yX3_isRole) (wy := wsX3_isRole) (rm := { frames := 0, cells := 0, slots := 0, locals := 0 }) (As := [.int b0]) (rest := []) (na := 1)  (wc := []) (wc2 := []) hC hRm hDis hLis gX3_isAxiom_X3_isRole ⟨by decide +kernel, by decide +kernel⟩ rfl ⟨by decide, by decide⟩ ⟨by decide, by decide⟩ rfl (Nat.le_of_ble_eq_true rfl) (by decide +kernel) (c_X3_isRole _ _ cI cJ cZ (b0) ) [] [0] [0] [(q 0, .inr (4, [.ref (q 1), .ref (q 6), .ref (q 11), .int (nI n), .int (bI (st))]))] rfl (by decide) rfl (by decide) (by decide) [(q 0, .inr (4, [.ref (q 1), .ref (q 6), .ref (q 11), .int (nI n), .int (bI (st))]))] rfl (by decide) rfl dX3_isAxiom_185 ?_
      refine z_bif_eq (pc := 188) (tgt := 203) hC dX3_isAxiom_188 (by decide) (fun h188 => ?_) (fun h188 => ?_)
      · refine z_iconst (pc := 203) (v := (nI 0)) hC dX3_isAxiom_203 (by decide +kernel) ?_
        exact z_iret (pc := 204) hC hQ hRT (by decide +kernel) (by first | exact bI_f (by rw [isAx_6 e1_6, h181]; rfl) | exact bI_f (by rw [isAx_6 e1_6, h181, h188]; rfl) | exact bI_f (by rw [isAx_6 e1_6, h181, h188, h196]; rfl) | exact bI_t (by rw [isAx_6 e1_6, h181, h188, h196]; rfl)) (rfl) dX3_isAxiom_204
      · refine z_iload (pc := 191) hC 4 dX3_isAxiom_191 rfl ?_
        refine z_callS_I (pc := 193) (y := yX3_isRole) (wy := wsX3_isRole) (rm := { frames := 0, cells := 0, slots := 0, locals := 0 }) (As := [.int c0]) (rest := []) (na := 1)  (wc := []) (wc2 := []) hC hRm hDis hLis gX3_isAxiom_X3_isRole ⟨by decide +kernel, by decide +kernel⟩ rfl ⟨by decide, by decide⟩ ⟨by decide, by decide⟩ rfl (Nat.le_of_ble_eq_true rfl) (by decide +kernel) (c_X3_isRole _ _ cI cJ cZ (c0) ) [] [0] [0] [(q 0, .inr (4, [.ref (q 1), .ref (q 6), .ref (q 11), .int (nI n), .int (bI (st))]))] rfl (by decide) rfl (by decide) (by decide) [(q 0, .inr (4, [.ref (q 1), .ref (q 6), .ref (q 11), .int (nI n), .int (bI (st))]))] rfl (by decide) rfl dX3_isAxiom_193 ?_
        refine z_bif_eq (pc := 196) (tgt := 203) hC dX3_isAxiom_196 (by decide) (fun h196 => ?_) (fun h196 => ?_)
        · refine z_iconst (pc := 203) (v := (nI 0)) hC dX3_isAxiom_203 (by decide +kernel) ?_
          exact z_iret (pc := 204) hC hQ hRT (by decide +kernel) (by first | exact bI_f (by rw [isAx_6 e1_6, h181]; rfl) | exact bI_f (by rw [isAx_6 e1_6, h181, h188]; rfl) | exact bI_f (by rw [isAx_6 e1_6, h181, h188, h196]; rfl) | exact bI_t (by rw [isAx_6 e1_6, h181, h188, h196]; rfl)) (rfl) dX3_isAxiom_204
        · refine z_iconst (pc := 199) (v := (nI 1)) hC dX3_isAxiom_199 (by decide +kernel) ?_
          refine z_goto (pc := 200) (tgt := 204) hC dX3_isAxiom_200 (by decide) ?_
          exact z_iret (pc := 204) hC hQ hRT (by decide +kernel) (by first | exact bI_f (by rw [isAx_6 e1_6, h181]; rfl) | exact bI_f (by rw [isAx_6 e1_6, h181, h188]; rfl) | exact bI_f (by rw [isAx_6 e1_6, h181, h188, h196]; rfl) | exact bI_t (by rw [isAx_6 e1_6, h181, h188, h196]; rfl)) (rfl) dX3_isAxiom_204
  by_cases e1_7 : k0 = nI 7
  · refine z_tableIn (pc := 1) (x := k0) (off := 204) (tgt := 205) hC dX3_isAxiom_1 (by rw [e1_7]; decide +kernel) (by rw [e1_7]; decide +kernel) (by rw [e1_7]; decide +kernel) (by decide) ?_
    refine z_iload_n (pc := 205) hC 2 dX3_isAxiom_205 rfl ?_
    refine z_callS_I (pc := 206) (y := yX3_isRole) (wy := wsX3_isRole) (rm := { frames := 0, cells := 0, slots := 0, locals := 0 }) (As := [.int a0]) (rest := []) (na := 1)  (wc := []) (wc2 := []) hC hRm hDis hLis gX3_isAxiom_X3_isRole ⟨by decide +kernel, by decide +kernel⟩ rfl ⟨by decide, by decide⟩ ⟨by decide, by decide⟩ rfl (Nat.le_of_ble_eq_true rfl) (by decide +kernel) (c_X3_isRole _ _ cI cJ cZ (a0) ) [] [0] [0] [(q 0, .inr (4, [.ref (q 1), .ref (q 6), .ref (q 11), .int (nI n), .int (bI (st))]))] rfl (by decide) rfl (by decide) (by decide) [(q 0, .inr (4, [.ref (q 1), .ref (q 6), .ref (q 11), .int (nI n), .int (bI (st))]))] rfl (by decide) rfl dX3_isAxiom_206 ?_
    exact z_iret (pc := 209) hC hQ hRT (nar_b _) (by rw [isAx_7 e1_7]) (rfl) dX3_isAxiom_209
  refine z_tableOut (pc := 1) (x := k0) (tgt := 210) hC dX3_isAxiom_1 (by have q0 := sw_ne e1_1 (by decide); have q1 := sw_ne e1_2 (by decide); have q2 := sw_ne e1_3 (by decide); have q3 := sw_ne e1_4 (by decide); have q4 := sw_ne e1_5 (by decide); have q5 := sw_ne e1_6 (by decide); have q6 := sw_ne e1_7 (by decide); omega) (by decide) ?_
  refine z_iconst (pc := 210) (v := (nI 0)) hC dX3_isAxiom_210 (by decide +kernel) ?_
  exact z_iret (pc := 211) hC hQ hRT (by decide +kernel) (bI_f (isAx_n e1_1 e1_2 e1_3 e1_4 e1_5 e1_6 e1_7)) (rfl) dX3_isAxiom_211

set_option maxRecDepth 100000 in
set_option maxHeartbeats 4000000 in
theorem c_X3_closed (l : Launch) (D : va_G) (cI cJ cZ : ClassId) (q : Nat → Nat) (n : Nat) (Kd : Nat → Int32) (Aa : Nat → Int32) (Ab : Nat → Int32) (Ac : Nat → Int32) (cnt : Nat) (s : CSt) (hn : n ≤ 24) (hcnt : cnt ≤ 80) (hax : ∀ k, k < cnt → axV n (Kd k) (Aa k) (Ab k) (Ac k)) : MA l yX3_closed wsX3_closed { frames := 5, cells := 0, slots := 0, locals := 127 } D (tyL cI cJ cZ) [.ref (q 0)] [(q 0, .inr (4, [.ref (q 1), .ref (q 6), .ref (q 11), .int (nI n), .int (bI (s.2.2))])), (q 1, .inr (1, [.ref (q 2), .ref (q 3), .ref (q 4), .ref (q 5), .int (nI cnt)])), (q 2, .inl (cI, 80, .inl Kd)), (q 3, .inl (cI, 80, .inl Aa)), (q 4, .inl (cI, 80, .inl Ab)), (q 5, .inl (cI, 80, .inl Ac)), (q 6, .inr (2, [.ref (q 7), .ref (q 8), .ref (q 9), .ref (q 10), .int (nI (s.2.1)), .int (nI ((s.1).2.2.1.2)), .int (nI ((s.1).2.2.2)), .int ((s.1).1.2.2)])), (q 7, .inl (cI, 168, .inl ((s.1).2.1))), (q 8, .inl (cI, 168, .inl ((s.1).1.1))), (q 9, .inl (cJ, 4032, .inr (.inl ((s.1).1.2.1)))), (q 10, .inl (cI, 4032, .inl ((s.1).2.2.1.1)))] [(q 0, .inr (4, [.ref (q 1), .ref (q 6), .ref (q 11), .int (nI n), .int (bI ((cloT n cnt Kd Aa Ab Ac s).2.2))])), (q 1, .inr (1, [.ref (q 2), .ref (q 3), .ref (q 4), .ref (q 5), .int (nI cnt)])), (q 2, .inl (cI, 80, .inl Kd)), (q 3, .inl (cI, 80, .inl Aa)), (q 4, .inl (cI, 80, .inl Ab)), (q 5, .inl (cI, 80, .inl Ac)), (q 6, .inr (2, [.ref (q 7), .ref (q 8), .ref (q 9), .ref (q 10), .int (nI ((cloT n cnt Kd Aa Ab Ac s).2.1)), .int (nI (((cloT n cnt Kd Aa Ab Ac s).1).2.2.1.2)), .int (nI (((cloT n cnt Kd Aa Ab Ac s).1).2.2.2)), .int (((cloT n cnt Kd Aa Ab Ac s).1).1.2.2)])), (q 7, .inl (cI, 168, .inl (((cloT n cnt Kd Aa Ab Ac s).1).2.1))), (q 8, .inl (cI, 168, .inl (((cloT n cnt Kd Aa Ab Ac s).1).1.1))), (q 9, .inl (cJ, 4032, .inr (.inl (((cloT n cnt Kd Aa Ab Ac s).1).1.2.1)))), (q 10, .inl (cI, 4032, .inl (((cloT n cnt Kd Aa Ab Ac s).1).2.2.1.1)))] (q 6) := by
  refine metA_of (cc := cX3_closed) (maxL := 1) (ret := (some (.object "ElCompletion$Closure"))) (by decide +kernel) rfl (Nat.le_of_ble_eq_true rfl) ?_
  intro K hC hRm hNL hDis hLis hRT hIni hQ
  have hinX3 : ∀ w ∈ wsX30, w ∈ wsX3_closed := by decide +kernel
  refine z_aload_n (pc := 0) hC 0 dX3_closed_0 rfl ?_
  refine z_get (pc := 1) (C := RX3) (T := TX3) (N := 5) hC hinX3 0 rfl rfl 4 (by decide) (by decide +kernel) rfl dX3_closed_1 ?_
  refine z_bif_eq (pc := 4) (tgt := 27) hC dX3_closed_4 (by decide) (fun h4 => ?_) (fun h4 => ?_)
  · refine z_aload_n (pc := 27) hC 0 dX3_closed_27 rfl ?_
    refine z_get (pc := 28) (C := RX3) (T := TX3) (N := 5) hC hinX3 0 rfl rfl 1 (by decide) (by decide +kernel) rfl dX3_closed_28 ?_
    exact z_aret (pc := 31) hC hQ hRT (Or.inl ⟨_, rfl⟩) (rfl) (by first | rw [cloT_f h4] | rw [cloT_t h4]) dX3_closed_31
  · refine z_aload_n (pc := 7) hC 0 dX3_closed_7 rfl ?_
    refine z_get (pc := 8) (C := RX3) (T := TX3) (N := 5) hC hinX3 0 rfl rfl 1 (by decide) (by decide +kernel) rfl dX3_closed_8 ?_
    refine z_aload_n (pc := 11) hC 0 dX3_closed_11 rfl ?_
    refine z_get (pc := 12) (C := RX3) (T := TX3) (N := 5) hC hinX3 0 rfl rfl 0 (by decide) (by decide +kernel) rfl dX3_closed_12 ?_
    refine z_aload_n (pc := 15) hC 0 dX3_closed_15 rfl ?_
    refine z_get (pc := 16) (C := RX3) (T := TX3) (N := 5) hC hinX3 0 rfl rfl 3 (by decide) (by decide +kernel) rfl dX3_closed_16 ?_
    refine z_callVN_V (pc := 19) (y := yX1_fill) (wy := wsX1_fill) (rm := { frames := 4, cells := 0, slots := 0, locals := 103 }) (As := [.ref (q 1), .int (nI n)]) (rest := []) (na := 2) (C := RX1) (T := TX1) (NF := 8) (ci := 2) (wc := [(q 6, .inr (2, [.ref (q 7), .ref (q 8), .ref (q 9), .ref (q 10), .int (nI (s.2.1)), .int (nI ((s.1).2.2.1.2)), .int (nI ((s.1).2.2.2)), .int ((s.1).1.2.2)])), (q 7, .inl (cI, 168, .inl ((s.1).2.1))), (q 8, .inl (cI, 168, .inl ((s.1).1.1))), (q 9, .inl (cJ, 4032, .inr (.inl ((s.1).1.2.1)))), (q 10, .inl (cI, 4032, .inl ((s.1).2.2.1.1))), (q 1, .inr (1, [.ref (q 2), .ref (q 3), .ref (q 4), .ref (q 5), .int (nI cnt)])), (q 2, .inl (cI, 80, .inl Kd)), (q 3, .inl (cI, 80, .inl Aa)), (q 4, .inl (cI, 80, .inl Ab)), (q 5, .inl (cI, 80, .inl Ac))]) (wc2 := [(q 6, .inr (2, [.ref (q 7), .ref (q 8), .ref (q 9), .ref (q 10), .int (nI n), .int (nI ((fillF n cnt Kd Aa Ab Ac ((s.1).2.2.1.1)).2.2.1.2)), .int (nI ((fillF n cnt Kd Aa Ab Ac ((s.1).2.2.1.1)).2.2.2)), .int ((fillF n cnt Kd Aa Ab Ac ((s.1).2.2.1.1)).1.2.2)])), (q 7, .inl (cI, 168, .inl ((fillF n cnt Kd Aa Ab Ac ((s.1).2.2.1.1)).2.1))), (q 8, .inl (cI, 168, .inl ((fillF n cnt Kd Aa Ab Ac ((s.1).2.2.1.1)).1.1))), (q 9, .inl (cJ, 4032, .inr (.inl ((fillF n cnt Kd Aa Ab Ac ((s.1).2.2.1.1)).1.2.1)))), (q 10, .inl (cI, 4032, .inl ((fillF n cnt Kd Aa Ab Ac ((s.1).2.2.1.1)).2.2.1.1))), (q 1, .inr (1, [.ref (q 2), .ref (q 3), .ref (q 4), .ref (q 5), .int (nI cnt)])), (q 2, .inl (cI, 80, .inl Kd)), (q 3, .inl (cI, 80, .inl Aa)), (q 4, .inl (cI, 80, .inl Ab)), (q 5, .inl (cI, 80, .inl Ac))]) hC hRm hDis hLis 0 rfl rfl gX3_closed_X1_fill_n118 (by decide +kernel) (by decide +kernel) (by decide +kernel) (by decide +kernel) ⟨by decide +kernel, by decide +kernel⟩ rfl ⟨by decide, by decide⟩ ⟨by decide, by decide⟩ rfl (Nat.le_of_ble_eq_true rfl) (by decide +kernel) (c_X1_fill _ _ cI cJ cZ (q) ((s.1).2.1) ((s.1).1.1) ((s.1).1.2.1) ((s.1).2.2.1.1) (nI (s.2.1)) (nI ((s.1).2.2.1.2)) (nI ((s.1).2.2.2)) ((s.1).1.2.2) (Kd) (Aa) (Ab) (Ac) (cnt) (n) (hn) (hcnt) (hax)) [6, 7, 8, 9, 10, 1, 2, 3, 4, 5] [0] [0, 6, 7, 8, 9, 10, 1, 2, 3, 4, 5] [(q 0, .inr (4, [.ref (q 1), .ref (q 6), .ref (q 11), .int (nI n), .int (bI (s.2.2))]))] rfl (by decide) rfl (by decide) (by decide) [(q 0, .inr (4, [.ref (q 1), .ref (q 6), .ref (q 11), .int (nI n), .int (bI (s.2.2))])), (q 1, .inr (1, [.ref (q 2), .ref (q 3), .ref (q 4), .ref (q 5), .int (nI cnt)])), (q 2, .inl (cI, 80, .inl Kd)), (q 3, .inl (cI, 80, .inl Aa)), (q 4, .inl (cI, 80, .inl Ab)), (q 5, .inl (cI, 80, .inl Ac)), (q 6, .inr (2, [.ref (q 7), .ref (q 8), .ref (q 9), .ref (q 10), .int (nI n), .int (nI ((fillF n cnt Kd Aa Ab Ac ((s.1).2.2.1.1)).2.2.1.2)), .int (nI ((fillF n cnt Kd Aa Ab Ac ((s.1).2.2.1.1)).2.2.2)), .int ((fillF n cnt Kd Aa Ab Ac ((s.1).2.2.1.1)).1.2.2)])), (q 7, .inl (cI, 168, .inl ((fillF n cnt Kd Aa Ab Ac ((s.1).2.2.1.1)).2.1))), (q 8, .inl (cI, 168, .inl ((fillF n cnt Kd Aa Ab Ac ((s.1).2.2.1.1)).1.1))), (q 9, .inl (cJ, 4032, .inr (.inl ((fillF n cnt Kd Aa Ab Ac ((s.1).2.2.1.1)).1.2.1)))), (q 10, .inl (cI, 4032, .inl ((fillF n cnt Kd Aa Ab Ac ((s.1).2.2.1.1)).2.2.1.1)))] rfl (by decide) rfl dX3_closed_19 ?_
    refine z_aload_n (pc := 22) hC 0 dX3_closed_22 rfl ?_
    refine z_iconst (pc := 23) (v := (nI 0)) hC dX3_closed_23 (by decide +kernel) ?_
    refine z_topi (bI (false)) rfl ?_
    refine z_put (pc := 24) (C := RX3) (T := TX3) (N := 5) hC hinX3 0 rfl rfl 4 (by decide) tyX3 tyX3_ok nmX3 (by decide +kernel) rfl (by decide +kernel) (by decide +kernel) (Nat.le_of_ble_eq_true rfl) [(q 0, .inr (4, [.ref (q 1), .ref (q 6), .ref (q 11), .int (nI n), .int (bI (false))])), (q 1, .inr (1, [.ref (q 2), .ref (q 3), .ref (q 4), .ref (q 5), .int (nI cnt)])), (q 2, .inl (cI, 80, .inl Kd)), (q 3, .inl (cI, 80, .inl Aa)), (q 4, .inl (cI, 80, .inl Ab)), (q 5, .inl (cI, 80, .inl Ac)), (q 6, .inr (2, [.ref (q 7), .ref (q 8), .ref (q 9), .ref (q 10), .int (nI n), .int (nI ((fillF n cnt Kd Aa Ab Ac ((s.1).2.2.1.1)).2.2.1.2)), .int (nI ((fillF n cnt Kd Aa Ab Ac ((s.1).2.2.1.1)).2.2.2)), .int ((fillF n cnt Kd Aa Ab Ac ((s.1).2.2.1.1)).1.2.2)])), (q 7, .inl (cI, 168, .inl ((fillF n cnt Kd Aa Ab Ac ((s.1).2.2.1.1)).2.1))), (q 8, .inl (cI, 168, .inl ((fillF n cnt Kd Aa Ab Ac ((s.1).2.2.1.1)).1.1))), (q 9, .inl (cJ, 4032, .inr (.inl ((fillF n cnt Kd Aa Ab Ac ((s.1).2.2.1.1)).1.2.1)))), (q 10, .inl (cI, 4032, .inl ((fillF n cnt Kd Aa Ab Ac ((s.1).2.2.1.1)).2.2.1.1)))] rfl dX3_closed_24 ?_
    refine z_aload_n (pc := 27) hC 0 dX3_closed_27 rfl ?_
    refine z_get (pc := 28) (C := RX3) (T := TX3) (N := 5) hC hinX3 0 rfl rfl 1 (by decide) (by decide +kernel) rfl dX3_closed_28 ?_
    exact z_aret (pc := 31) hC hQ hRT (Or.inl ⟨_, rfl⟩) (rfl) (by first | rw [cloT_f h4] | rw [cloT_t h4]) dX3_closed_31

set_option maxRecDepth 100000 in
set_option maxHeartbeats 4000000 in
theorem c_X3_grow_ok (l : Launch) (D : va_G) (cI cJ cZ : ClassId) (q : Nat → Nat) (n : Nat) (st : Bool) (hn : n < 24) : MI l yX3_grow wsX3_grow { frames := 0, cells := 0, slots := 0, locals := 0 } D (tyL cI cJ cZ) [.ref (q 0)] [(q 0, .inr (4, [.ref (q 1), .ref (q 6), .ref (q 11), .int (nI n), .int (bI (st))]))] [(q 0, .inr (4, [.ref (q 1), .ref (q 6), .ref (q 11), .int (nI (n + 1)), .int (bI (true))]))] (nI n) := by
  refine metI_of (cc := cX3_grow) (maxL := 1) (ret := (some .int)) (by decide +kernel) rfl (Nat.le_of_ble_eq_true rfl) ?_
  intro K hC hRm hNL hDis hLis hRT hIni hQ
  have hinX3 : ∀ w ∈ wsX30, w ∈ wsX3_grow := by decide +kernel
  refine z_aload_n (pc := 0) hC 0 dX3_grow_0 rfl ?_
  refine z_get (pc := 1) (C := RX3) (T := TX3) (N := 5) hC hinX3 0 rfl rfl 3 (by decide) (by decide +kernel) rfl dX3_grow_1 ?_
  refine z_bipush (pc := 4) (v := (nI 24)) hC dX3_grow_4 (by decide +kernel) ?_
  refine z_ncmp_lt (pc := 6) (tgt := 12) hC dX3_grow_6 (by decide) (by omega) (by omega) (fun h6 => ?_) (fun h6 => absurd h6 (by omega))
  refine z_aload_n (pc := 12) hC 0 dX3_grow_12 rfl ?_
  refine z_iconst (pc := 13) (v := (nI 1)) hC dX3_grow_13 (by decide +kernel) ?_
  refine z_topi (bI (true)) rfl ?_
  refine z_put (pc := 14) (C := RX3) (T := TX3) (N := 5) hC hinX3 0 rfl rfl 4 (by decide) tyX3 tyX3_ok nmX3 (by decide +kernel) rfl (by decide +kernel) (by decide +kernel) (Nat.le_of_ble_eq_true rfl) [(q 0, .inr (4, [.ref (q 1), .ref (q 6), .ref (q 11), .int (nI n), .int (bI (true))]))] rfl dX3_grow_14 ?_
  refine z_aload_n (pc := 17) hC 0 dX3_grow_17 rfl ?_
  refine z_dup (pc := 18) hC dX3_grow_18 rfl ?_
  refine z_get (pc := 19) (C := RX3) (T := TX3) (N := 5) hC hinX3 0 rfl rfl 3 (by decide) (by decide +kernel) rfl dX3_grow_19 ?_
  refine z_iconst (pc := 22) (v := (nI 1)) hC dX3_grow_22 (by decide +kernel) ?_
  refine z_iadd (pc := 23) (v := (nI (n + 1))) hC dX3_grow_23 (nI_add _ _) ?_
  refine z_put (pc := 24) (C := RX3) (T := TX3) (N := 5) hC hinX3 0 rfl rfl 3 (by decide) tyX3 tyX3_ok nmX3 (by decide +kernel) rfl (rfl) (rfl) (Nat.le_of_ble_eq_true rfl) [(q 0, .inr (4, [.ref (q 1), .ref (q 6), .ref (q 11), .int (nI (n + 1)), .int (bI (true))]))] rfl dX3_grow_24 ?_
  refine z_aload_n (pc := 27) hC 0 dX3_grow_27 rfl ?_
  refine z_get (pc := 28) (C := RX3) (T := TX3) (N := 5) hC hinX3 0 rfl rfl 3 (by decide) (by decide +kernel) rfl dX3_grow_28 ?_
  refine z_iconst (pc := 31) (v := (nI 1)) hC dX3_grow_31 (by decide +kernel) ?_
  refine z_isub (pc := 32) (v := (nI ((n + 1) - 1))) hC dX3_grow_32 (pk_sub (by omega)) ?_
  exact z_iret (pc := 33) hC hQ hRT (rfl) (by rw [Nat.add_sub_cancel]) (rfl) dX3_grow_33

set_option maxRecDepth 100000 in
set_option maxHeartbeats 4000000 in
theorem c_X3_grow_full (l : Launch) (D : va_G) (cI cJ cZ : ClassId) (q : Nat → Nat) (n : Nat) (st : Bool) (hn : n = 24) : MI l yX3_grow wsX3_grow { frames := 0, cells := 0, slots := 0, locals := 0 } D (tyL cI cJ cZ) [.ref (q 0)] [(q 0, .inr (4, [.ref (q 1), .ref (q 6), .ref (q 11), .int (nI n), .int (bI (st))]))] [(q 0, .inr (4, [.ref (q 1), .ref (q 6), .ref (q 11), .int (nI n), .int (bI (st))]))] (-2) := by
  refine metI_of (cc := cX3_grow) (maxL := 1) (ret := (some .int)) (by decide +kernel) rfl (Nat.le_of_ble_eq_true rfl) ?_
  intro K hC hRm hNL hDis hLis hRT hIni hQ
  have hinX3 : ∀ w ∈ wsX30, w ∈ wsX3_grow := by decide +kernel
  refine z_aload_n (pc := 0) hC 0 dX3_grow_0 rfl ?_
  refine z_get (pc := 1) (C := RX3) (T := TX3) (N := 5) hC hinX3 0 rfl rfl 3 (by decide) (by decide +kernel) rfl dX3_grow_1 ?_
  refine z_bipush (pc := 4) (v := (nI 24)) hC dX3_grow_4 (by decide +kernel) ?_
  refine z_ncmp_lt (pc := 6) (tgt := 12) hC dX3_grow_6 (by decide) (by omega) (by omega) (fun h6 => absurd h6 (by omega)) (fun h6 => ?_)
  refine z_bipush (pc := 9) (v := (-2)) hC dX3_grow_9 (by decide +kernel) ?_
  exact z_iret (pc := 11) hC hQ hRT (rfl) (rfl) (rfl) dX3_grow_11

set_option maxRecDepth 100000 in
set_option maxHeartbeats 4000000 in
theorem c_X3_axiom_bad (l : Launch) (D : va_G) (cI cJ cZ : ClassId) (q : Nat → Nat) (n : Nat) (st : Bool) (Kd : Nat → Int32) (Aa : Nat → Int32) (Ab : Nat → Int32) (Ac : Nat → Int32) (cnt : Nat) (k0 : Int32) (a0 : Int32) (b0 : Int32) (c0 : Int32) (hi : isAx n k0 a0 b0 c0 = false) : MI l yX3_axiom wsX3_axiom { frames := 2, cells := 0, slots := 0, locals := 45 } D (tyL cI cJ cZ) [.ref (q 0), .int k0, .int a0, .int b0, .int c0] [(q 0, .inr (4, [.ref (q 1), .ref (q 6), .ref (q 11), .int (nI n), .int (bI (st))])), (q 1, .inr (1, [.ref (q 2), .ref (q 3), .ref (q 4), .ref (q 5), .int (nI cnt)])), (q 2, .inl (cI, 80, .inl Kd)), (q 3, .inl (cI, 80, .inl Aa)), (q 4, .inl (cI, 80, .inl Ab)), (q 5, .inl (cI, 80, .inl Ac))] [(q 0, .inr (4, [.ref (q 1), .ref (q 6), .ref (q 11), .int (nI n), .int (bI (st))])), (q 1, .inr (1, [.ref (q 2), .ref (q 3), .ref (q 4), .ref (q 5), .int (nI cnt)])), (q 2, .inl (cI, 80, .inl Kd)), (q 3, .inl (cI, 80, .inl Aa)), (q 4, .inl (cI, 80, .inl Ab)), (q 5, .inl (cI, 80, .inl Ac))] (-1) := by
  refine metI_of (cc := cX3_axiom) (maxL := 5) (ret := (some .int)) (by decide +kernel) rfl (Nat.le_of_ble_eq_true rfl) ?_
  intro K hC hRm hNL hDis hLis hRT hIni hQ
  refine z_aload_n (pc := 0) hC 0 dX3_axiom_0 rfl ?_
  refine z_iload_n (pc := 1) hC 1 dX3_axiom_1 rfl ?_
  refine z_iload_n (pc := 2) hC 2 dX3_axiom_2 rfl ?_
  refine z_iload_n (pc := 3) hC 3 dX3_axiom_3 rfl ?_
  refine z_iload (pc := 4) hC 4 dX3_axiom_4 rfl ?_
  refine z_callV_I (pc := 6) (y := yX3_isAxiom) (wy := wsX3_isAxiom) (rm := { frames := 1, cells := 0, slots := 0, locals := 21 }) (As := [.int k0, .int a0, .int b0, .int c0]) (rest := []) (na := 4) (C := RX3) (T := TX3) (NF := 5) (ci := 4) (wc := [(q 0, .inr (4, [.ref (q 1), .ref (q 6), .ref (q 11), .int (nI n), .int (bI (st))]))]) (wc2 := [(q 0, .inr (4, [.ref (q 1), .ref (q 6), .ref (q 11), .int (nI n), .int (bI (st))]))]) hC hRm hDis hLis 0 rfl rfl gX3_axiom_X3_isAxiom ⟨rfl, by decide +kernel, by decide +kernel⟩ rfl ⟨by decide, by decide⟩ ⟨by decide, by decide⟩ rfl (Nat.le_of_ble_eq_true rfl) (by decide +kernel) (c_X3_isAxiom _ _ cI cJ cZ (q) (n) (st) (k0) (a0) (b0) (c0) ) [0] [1, 2, 3, 4, 5] [5, 0, 1, 2, 3, 4] [(q 1, .inr (1, [.ref (q 2), .ref (q 3), .ref (q 4), .ref (q 5), .int (nI cnt)])), (q 2, .inl (cI, 80, .inl Kd)), (q 3, .inl (cI, 80, .inl Aa)), (q 4, .inl (cI, 80, .inl Ab)), (q 5, .inl (cI, 80, .inl Ac))] rfl (by decide) rfl (by decide) (by decide) [(q 0, .inr (4, [.ref (q 1), .ref (q 6), .ref (q 11), .int (nI n), .int (bI (st))])), (q 1, .inr (1, [.ref (q 2), .ref (q 3), .ref (q 4), .ref (q 5), .int (nI cnt)])), (q 2, .inl (cI, 80, .inl Kd)), (q 3, .inl (cI, 80, .inl Aa)), (q 4, .inl (cI, 80, .inl Ab)), (q 5, .inl (cI, 80, .inl Ac))] rfl (by decide) rfl dX3_axiom_6 ?_
  refine z_bif_ne (pc := 9) (tgt := 14) hC dX3_axiom_9 (by decide) (fun h9 => absurd h9 (by rw [hi]; decide)) (fun h9 => ?_)
  refine z_iconst (pc := 12) (v := (-1)) hC dX3_axiom_12 (by decide +kernel) ?_
  exact z_iret (pc := 13) hC hQ hRT (rfl) (rfl) (rfl) dX3_axiom_13

set_option maxRecDepth 100000 in
set_option maxHeartbeats 4000000 in
theorem c_X3_axiom_full (l : Launch) (D : va_G) (cI cJ cZ : ClassId) (q : Nat → Nat) (n : Nat) (st : Bool) (Kd : Nat → Int32) (Aa : Nat → Int32) (Ab : Nat → Int32) (Ac : Nat → Int32) (cnt : Nat) (k0 : Int32) (a0 : Int32) (b0 : Int32) (c0 : Int32) (hi : isAx n k0 a0 b0 c0 = true) (hc : cnt = 80) : MI l yX3_axiom wsX3_axiom { frames := 2, cells := 0, slots := 0, locals := 45 } D (tyL cI cJ cZ) [.ref (q 0), .int k0, .int a0, .int b0, .int c0] [(q 0, .inr (4, [.ref (q 1), .ref (q 6), .ref (q 11), .int (nI n), .int (bI (st))])), (q 1, .inr (1, [.ref (q 2), .ref (q 3), .ref (q 4), .ref (q 5), .int (nI cnt)])), (q 2, .inl (cI, 80, .inl Kd)), (q 3, .inl (cI, 80, .inl Aa)), (q 4, .inl (cI, 80, .inl Ab)), (q 5, .inl (cI, 80, .inl Ac))] [(q 0, .inr (4, [.ref (q 1), .ref (q 6), .ref (q 11), .int (nI n), .int (bI (st))])), (q 1, .inr (1, [.ref (q 2), .ref (q 3), .ref (q 4), .ref (q 5), .int (nI cnt)])), (q 2, .inl (cI, 80, .inl Kd)), (q 3, .inl (cI, 80, .inl Aa)), (q 4, .inl (cI, 80, .inl Ab)), (q 5, .inl (cI, 80, .inl Ac))] (-2) := by
  refine metI_of (cc := cX3_axiom) (maxL := 5) (ret := (some .int)) (by decide +kernel) rfl (Nat.le_of_ble_eq_true rfl) ?_
  intro K hC hRm hNL hDis hLis hRT hIni hQ
  have hinX0 : ∀ w ∈ wsX00, w ∈ wsX3_axiom := by decide +kernel
  have hinX3 : ∀ w ∈ wsX30, w ∈ wsX3_axiom := by decide +kernel
  refine z_aload_n (pc := 0) hC 0 dX3_axiom_0 rfl ?_
  refine z_iload_n (pc := 1) hC 1 dX3_axiom_1 rfl ?_
  refine z_iload_n (pc := 2) hC 2 dX3_axiom_2 rfl ?_
  refine z_iload_n (pc := 3) hC 3 dX3_axiom_3 rfl ?_
  refine z_iload (pc := 4) hC 4 dX3_axiom_4 rfl ?_
  refine z_callV_I (pc := 6) (y := yX3_isAxiom) (wy := wsX3_isAxiom) (rm := { frames := 1, cells := 0, slots := 0, locals := 21 }) (As := [.int k0, .int a0, .int b0, .int c0]) (rest := []) (na := 4) (C := RX3) (T := TX3) (NF := 5) (ci := 4) (wc := [(q 0, .inr (4, [.ref (q 1), .ref (q 6), .ref (q 11), .int (nI n), .int (bI (st))]))]) (wc2 := [(q 0, .inr (4, [.ref (q 1), .ref (q 6), .ref (q 11), .int (nI n), .int (bI (st))]))]) hC hRm hDis hLis 0 rfl rfl gX3_axiom_X3_isAxiom ⟨rfl, by decide +kernel, by decide +kernel⟩ rfl ⟨by decide, by decide⟩ ⟨by decide, by decide⟩ rfl (Nat.le_of_ble_eq_true rfl) (by decide +kernel) (c_X3_isAxiom _ _ cI cJ cZ (q) (n) (st) (k0) (a0) (b0) (c0) ) [0] [1, 2, 3, 4, 5] [5, 0, 1, 2, 3, 4] [(q 1, .inr (1, [.ref (q 2), .ref (q 3), .ref (q 4), .ref (q 5), .int (nI cnt)])), (q 2, .inl (cI, 80, .inl Kd)), (q 3, .inl (cI, 80, .inl Aa)), (q 4, .inl (cI, 80, .inl Ab)), (q 5, .inl (cI, 80, .inl Ac))] rfl (by decide) rfl (by decide) (by decide) [(q 0, .inr (4, [.ref (q 1), .ref (q 6), .ref (q 11), .int (nI n), .int (bI (st))])), (q 1, .inr (1, [.ref (q 2), .ref (q 3), .ref (q 4), .ref (q 5), .int (nI cnt)])), (q 2, .inl (cI, 80, .inl Kd)), (q 3, .inl (cI, 80, .inl Aa)), (q 4, .inl (cI, 80, .inl Ab)), (q 5, .inl (cI, 80, .inl Ac))] rfl (by decide) rfl dX3_axiom_6 ?_
  refine z_bif_ne (pc := 9) (tgt := 14) hC dX3_axiom_9 (by decide) (fun h9 => ?_) (fun h9 => absurd h9 (by rw [hi]; decide))
  refine z_aload_n (pc := 14) hC 0 dX3_axiom_14 rfl ?_
  refine z_get (pc := 15) (C := RX3) (T := TX3) (N := 5) hC hinX3 0 rfl rfl 0 (by decide) (by decide +kernel) rfl dX3_axiom_15 ?_
  refine z_getN (pc := 18) (C := RX0) (T := TX0) (N := 5) hC hinX0 1 rfl rfl 4 (by decide) (by decide +kernel) rfl dX3_axiom_18 ?_
  refine z_bipush (pc := 21) (v := (nI 80)) hC dX3_axiom_21 (by decide +kernel) ?_
  refine z_ncmp_lt (pc := 23) (tgt := 29) hC dX3_axiom_23 (by decide) (by omega) (by omega) (fun h23 => absurd h23 (by omega)) (fun h23 => ?_)
  refine z_bipush (pc := 26) (v := (-2)) hC dX3_axiom_26 (by decide +kernel) ?_
  exact z_iret (pc := 28) hC hQ hRT (rfl) (rfl) (rfl) dX3_axiom_28

set_option maxRecDepth 100000 in
set_option maxHeartbeats 4000000 in
theorem c_X3_axiom_ok (l : Launch) (D : va_G) (cI cJ cZ : ClassId) (q : Nat → Nat) (n : Nat) (st : Bool) (Kd : Nat → Int32) (Aa : Nat → Int32) (Ab : Nat → Int32) (Ac : Nat → Int32) (cnt : Nat) (k0 : Int32) (a0 : Int32) (b0 : Int32) (c0 : Int32) (hi : isAx n k0 a0 b0 c0 = true) (hc : cnt < 80) : MI l yX3_axiom wsX3_axiom { frames := 2, cells := 0, slots := 0, locals := 45 } D (tyL cI cJ cZ) [.ref (q 0), .int k0, .int a0, .int b0, .int c0] [(q 0, .inr (4, [.ref (q 1), .ref (q 6), .ref (q 11), .int (nI n), .int (bI (st))])), (q 1, .inr (1, [.ref (q 2), .ref (q 3), .ref (q 4), .ref (q 5), .int (nI cnt)])), (q 2, .inl (cI, 80, .inl Kd)), (q 3, .inl (cI, 80, .inl Aa)), (q 4, .inl (cI, 80, .inl Ab)), (q 5, .inl (cI, 80, .inl Ac))] [(q 0, .inr (4, [.ref (q 1), .ref (q 6), .ref (q 11), .int (nI n), .int (bI (true))])), (q 1, .inr (1, [.ref (q 2), .ref (q 3), .ref (q 4), .ref (q 5), .int (nI (cnt + 1))])), (q 2, .inl (cI, 80, .inl (upd Kd cnt k0))), (q 3, .inl (cI, 80, .inl (upd Aa cnt a0))), (q 4, .inl (cI, 80, .inl (upd Ab cnt b0))), (q 5, .inl (cI, 80, .inl (upd Ac cnt c0)))] (nI cnt) := by
  refine metI_of (cc := cX3_axiom) (maxL := 5) (ret := (some .int)) (by decide +kernel) rfl (Nat.le_of_ble_eq_true rfl) ?_
  intro K hC hRm hNL hDis hLis hRT hIni hQ
  have hinX0 : ∀ w ∈ wsX00, w ∈ wsX3_axiom := by decide +kernel
  have hinX3 : ∀ w ∈ wsX30, w ∈ wsX3_axiom := by decide +kernel
  refine z_aload_n (pc := 0) hC 0 dX3_axiom_0 rfl ?_
  refine z_iload_n (pc := 1) hC 1 dX3_axiom_1 rfl ?_
  refine z_iload_n (pc := 2) hC 2 dX3_axiom_2 rfl ?_
  refine z_iload_n (pc := 3) hC 3 dX3_axiom_3 rfl ?_
  refine z_iload (pc := 4) hC 4 dX3_axiom_4 rfl ?_
  refine z_callV_I (pc := 6) (y := yX3_isAxiom) (wy := wsX3_isAxiom) (rm := { frames := 1, cells := 0, slots := 0, locals := 21 }) (As := [.int k0, .int a0, .int b0, .int c0]) (rest := []) (na := 4) (C := RX3) (T := TX3) (NF := 5) (ci := 4) (wc := [(q 0, .inr (4, [.ref (q 1), .ref (q 6), .ref (q 11), .int (nI n), .int (bI (st))]))]) (wc2 := [(q 0, .inr (4, [.ref (q 1), .ref (q 6), .ref (q 11), .int (nI n), .int (bI (st))]))]) hC hRm hDis hLis 0 rfl rfl gX3_axiom_X3_isAxiom ⟨rfl, by decide +kernel, by decide +kernel⟩ rfl ⟨by decide, by decide⟩ ⟨by decide, by decide⟩ rfl (Nat.le_of_ble_eq_true rfl) (by decide +kernel) (c_X3_isAxiom _ _ cI cJ cZ (q) (n) (st) (k0) (a0) (b0) (c0) ) [0] [1, 2, 3, 4, 5] [5, 0, 1, 2, 3, 4] [(q 1, .inr (1, [.ref (q 2), .ref (q 3), .ref (q 4), .ref (q 5), .int (nI cnt)])), (q 2, .inl (cI, 80, .inl Kd)), (q 3, .inl (cI, 80, .inl Aa)), (q 4, .inl (cI, 80, .inl Ab)), (q 5, .inl (cI, 80, .inl Ac))] rfl (by decide) rfl (by decide) (by decide) [(q 0, .inr (4, [.ref (q 1), .ref (q 6), .ref (q 11), .int (nI n), .int (bI (st))])), (q 1, .inr (1, [.ref (q 2), .ref (q 3), .ref (q 4), .ref (q 5), .int (nI cnt)])), (q 2, .inl (cI, 80, .inl Kd)), (q 3, .inl (cI, 80, .inl Aa)), (q 4, .inl (cI, 80, .inl Ab)), (q 5, .inl (cI, 80, .inl Ac))] rfl (by decide) rfl dX3_axiom_6 ?_
  refine z_bif_ne (pc := 9) (tgt := 14) hC dX3_axiom_9 (by decide) (fun h9 => ?_) (fun h9 => absurd h9 (by rw [hi]; decide))
  refine z_aload_n (pc := 14) hC 0 dX3_axiom_14 rfl ?_
  refine z_get (pc := 15) (C := RX3) (T := TX3) (N := 5) hC hinX3 0 rfl rfl 0 (by decide) (by decide +kernel) rfl dX3_axiom_15 ?_
  refine z_getN (pc := 18) (C := RX0) (T := TX0) (N := 5) hC hinX0 1 rfl rfl 4 (by decide) (by decide +kernel) rfl dX3_axiom_18 ?_
  refine z_bipush (pc := 21) (v := (nI 80)) hC dX3_axiom_21 (by decide +kernel) ?_
  refine z_ncmp_lt (pc := 23) (tgt := 29) hC dX3_axiom_23 (by decide) (by omega) (by omega) (fun h23 => ?_) (fun h23 => absurd h23 (by omega))
  refine z_aload_n (pc := 29) hC 0 dX3_axiom_29 rfl ?_
  refine z_iconst (pc := 30) (v := (nI 1)) hC dX3_axiom_30 (by decide +kernel) ?_
  refine z_topi (bI (true)) rfl ?_
  refine z_put (pc := 31) (C := RX3) (T := TX3) (N := 5) hC hinX3 0 rfl rfl 4 (by decide) tyX3 tyX3_ok nmX3 (by decide +kernel) rfl (by decide +kernel) (by decide +kernel) (Nat.le_of_ble_eq_true rfl) [(q 0, .inr (4, [.ref (q 1), .ref (q 6), .ref (q 11), .int (nI n), .int (bI (true))])), (q 1, .inr (1, [.ref (q 2), .ref (q 3), .ref (q 4), .ref (q 5), .int (nI cnt)])), (q 2, .inl (cI, 80, .inl Kd)), (q 3, .inl (cI, 80, .inl Aa)), (q 4, .inl (cI, 80, .inl Ab)), (q 5, .inl (cI, 80, .inl Ac))] rfl dX3_axiom_31 ?_
  refine z_aload_n (pc := 34) hC 0 dX3_axiom_34 rfl ?_
  refine z_get (pc := 35) (C := RX3) (T := TX3) (N := 5) hC hinX3 0 rfl rfl 0 (by decide) (by decide +kernel) rfl dX3_axiom_35 ?_
  refine z_iload_n (pc := 38) hC 1 dX3_axiom_38 rfl ?_
  refine z_iload_n (pc := 39) hC 2 dX3_axiom_39 rfl ?_
  refine z_iload_n (pc := 40) hC 3 dX3_axiom_40 rfl ?_
  refine z_iload (pc := 41) hC 4 dX3_axiom_41 rfl ?_
  refine z_callVN_I (pc := 43) (y := yX0_append) (wy := wsX0_append) (rm := { frames := 0, cells := 0, slots := 0, locals := 0 }) (As := [.int k0, .int a0, .int b0, .int c0]) (rest := []) (na := 4) (C := RX0) (T := TX0) (NF := 5) (ci := 1) (wc := [(q 1, .inr (1, [.ref (q 2), .ref (q 3), .ref (q 4), .ref (q 5), .int (nI cnt)])), (q 2, .inl (cI, 80, .inl Kd)), (q 3, .inl (cI, 80, .inl Aa)), (q 4, .inl (cI, 80, .inl Ab)), (q 5, .inl (cI, 80, .inl Ac))]) (wc2 := [(q 1, .inr (1, [.ref (q 2), .ref (q 3), .ref (q 4), .ref (q 5), .int (nI (cnt + 1))])), (q 2, .inl (cI, 80, .inl (upd Kd cnt k0))), (q 3, .inl (cI, 80, .inl (upd Aa cnt a0))), (q 4, .inl (cI, 80, .inl (upd Ab cnt b0))), (q 5, .inl (cI, 80, .inl (upd Ac cnt c0)))]) hC hRm hDis hLis 0 rfl rfl gX3_axiom_X0_append_n45 (by decide +kernel) (by decide +kernel) (by decide +kernel) (by decide +kernel) ⟨by decide +kernel, by decide +kernel⟩ rfl ⟨by decide, by decide⟩ ⟨by decide, by decide⟩ rfl (Nat.le_of_ble_eq_true rfl) (by decide +kernel) (c_X0_append _ _ cI cJ cZ (q) (Kd) (Aa) (Ab) (Ac) (cnt) (k0) (a0) (b0) (c0) (hc)) [1, 2, 3, 4, 5] [0] [0, 1, 2, 3, 4, 5] [(q 0, .inr (4, [.ref (q 1), .ref (q 6), .ref (q 11), .int (nI n), .int (bI (true))]))] rfl (by decide) rfl (by decide) (by decide) [(q 0, .inr (4, [.ref (q 1), .ref (q 6), .ref (q 11), .int (nI n), .int (bI (true))])), (q 1, .inr (1, [.ref (q 2), .ref (q 3), .ref (q 4), .ref (q 5), .int (nI (cnt + 1))])), (q 2, .inl (cI, 80, .inl (upd Kd cnt k0))), (q 3, .inl (cI, 80, .inl (upd Aa cnt a0))), (q 4, .inl (cI, 80, .inl (upd Ab cnt b0))), (q 5, .inl (cI, 80, .inl (upd Ac cnt c0)))] rfl (by decide) rfl dX3_axiom_43 ?_
  exact z_iret (pc := 46) hC hQ hRT (rfl) (rfl) (rfl) dX3_axiom_46

set_option maxRecDepth 100000 in
set_option maxHeartbeats 4000000 in
theorem c_X3_drop_bad (l : Launch) (D : va_G) (cI cJ cZ : ClassId) (q : Nat → Nat) (n : Nat) (st : Bool) (Kd : Nat → Int32) (Aa : Nat → Int32) (Ab : Nat → Int32) (Ac : Nat → Int32) (cnt : Nat) (k0 : Int32) (hc : cnt ≤ 80) (hi : isCl k0 (nI cnt) = false) : MI l yX3_drop wsX3_drop { frames := 0, cells := 0, slots := 0, locals := 0 } D (tyL cI cJ cZ) [.ref (q 0), .int k0] [(q 0, .inr (4, [.ref (q 1), .ref (q 6), .ref (q 11), .int (nI n), .int (bI (st))])), (q 1, .inr (1, [.ref (q 2), .ref (q 3), .ref (q 4), .ref (q 5), .int (nI cnt)])), (q 2, .inl (cI, 80, .inl Kd)), (q 3, .inl (cI, 80, .inl Aa)), (q 4, .inl (cI, 80, .inl Ab)), (q 5, .inl (cI, 80, .inl Ac))] [(q 0, .inr (4, [.ref (q 1), .ref (q 6), .ref (q 11), .int (nI n), .int (bI (st))])), (q 1, .inr (1, [.ref (q 2), .ref (q 3), .ref (q 4), .ref (q 5), .int (nI cnt)])), (q 2, .inl (cI, 80, .inl Kd)), (q 3, .inl (cI, 80, .inl Aa)), (q 4, .inl (cI, 80, .inl Ab)), (q 5, .inl (cI, 80, .inl Ac))] (-1) := by
  refine metI_of (cc := cX3_drop) (maxL := 2) (ret := (some .int)) (by decide +kernel) rfl (Nat.le_of_ble_eq_true rfl) ?_
  intro K hC hRm hNL hDis hLis hRT hIni hQ
  have hinX0 : ∀ w ∈ wsX00, w ∈ wsX3_drop := by decide +kernel
  have hinX3 : ∀ w ∈ wsX30, w ∈ wsX3_drop := by decide +kernel
  refine z_iload_n (pc := 0) hC 1 dX3_drop_0 rfl ?_
  refine z_if_lt (pc := 1) (tgt := 15) hC dX3_drop_1 (by decide) (fun h1 => ?_) (fun h1 => ?_)
  · refine z_iconst (pc := 15) (v := (-1)) hC dX3_drop_15 (by decide +kernel) ?_
    exact z_iret (pc := 16) hC hQ hRT (rfl) (rfl) (rfl) dX3_drop_16
  · refine z_iload_n (pc := 4) hC 1 dX3_drop_4 rfl ?_
    refine z_aload_n (pc := 5) hC 0 dX3_drop_5 rfl ?_
    refine z_get (pc := 6) (C := RX3) (T := TX3) (N := 5) hC hinX3 0 rfl rfl 0 (by decide) (by decide +kernel) rfl dX3_drop_6 ?_
    refine z_getN (pc := 9) (C := RX0) (T := TX0) (N := 5) hC hinX0 1 rfl rfl 4 (by decide) (by decide +kernel) rfl dX3_drop_9 ?_
    refine z_icmp_lt (pc := 12) (tgt := 17) hC dX3_drop_12 (by decide) (fun h12 => absurd (isCl_t h1 (Int32.not_le.mpr h12)) (by rw [hi]; decide)) (fun h12 => ?_)
    refine z_iconst (pc := 15) (v := (-1)) hC dX3_drop_15 (by decide +kernel) ?_
    exact z_iret (pc := 16) hC hQ hRT (rfl) (rfl) (rfl) dX3_drop_16

set_option maxRecDepth 100000 in
set_option maxHeartbeats 4000000 in
theorem c_X3_drop_ok (l : Launch) (D : va_G) (cI cJ cZ : ClassId) (q : Nat → Nat) (n : Nat) (st : Bool) (Kd : Nat → Int32) (Aa : Nat → Int32) (Ab : Nat → Int32) (Ac : Nat → Int32) (cnt : Nat) (k : Nat) (hk : k < cnt) (hc : cnt ≤ 80) : MI l yX3_drop wsX3_drop { frames := 3, cells := 0, slots := 0, locals := 103 } D (tyL cI cJ cZ) [.ref (q 0), .int (nI k)] [(q 0, .inr (4, [.ref (q 1), .ref (q 6), .ref (q 11), .int (nI n), .int (bI (st))])), (q 1, .inr (1, [.ref (q 2), .ref (q 3), .ref (q 4), .ref (q 5), .int (nI cnt)])), (q 2, .inl (cI, 80, .inl Kd)), (q 3, .inl (cI, 80, .inl Aa)), (q 4, .inl (cI, 80, .inl Ab)), (q 5, .inl (cI, 80, .inl Ac))] [(q 0, .inr (4, [.ref (q 1), .ref (q 6), .ref (q 11), .int (nI n), .int (bI (true))])), (q 1, .inr (1, [.ref (q 2), .ref (q 3), .ref (q 4), .ref (q 5), .int (nI (cnt - 1))])), (q 2, .inl (cI, 80, .inl (va_cpy Kd Kd (k + 1) k (cnt - 1 - k)))), (q 3, .inl (cI, 80, .inl (va_cpy Aa Aa (k + 1) k (cnt - 1 - k)))), (q 4, .inl (cI, 80, .inl (va_cpy Ab Ab (k + 1) k (cnt - 1 - k)))), (q 5, .inl (cI, 80, .inl (va_cpy Ac Ac (k + 1) k (cnt - 1 - k))))] (nI (cnt - 1)) := by
  refine metI_of (cc := cX3_drop) (maxL := 2) (ret := (some .int)) (by decide +kernel) rfl (Nat.le_of_ble_eq_true rfl) ?_
  intro K hC hRm hNL hDis hLis hRT hIni hQ
  have hinX0 : ∀ w ∈ wsX00, w ∈ wsX3_drop := by decide +kernel
  have hinX3 : ∀ w ∈ wsX30, w ∈ wsX3_drop := by decide +kernel
  refine z_iload_n (pc := 0) hC 1 dX3_drop_0 rfl ?_
  refine z_nif_lt (pc := 1) (tgt := 15) hC dX3_drop_1 (by decide) (by omega) (fun h1 => absurd h1 (by exact id)) (fun h1 => ?_)
  refine z_iload_n (pc := 4) hC 1 dX3_drop_4 rfl ?_
  refine z_aload_n (pc := 5) hC 0 dX3_drop_5 rfl ?_
  refine z_get (pc := 6) (C := RX3) (T := TX3) (N := 5) hC hinX3 0 rfl rfl 0 (by decide) (by decide +kernel) rfl dX3_drop_6 ?_
  refine z_getN (pc := 9) (C := RX0) (T := TX0) (N := 5) hC hinX0 1 rfl rfl 4 (by decide) (by decide +kernel) rfl dX3_drop_9 ?_
  refine z_ncmp_lt (pc := 12) (tgt := 17) hC dX3_drop_12 (by decide) (by omega) (by omega) (fun h12 => ?_) (fun h12 => absurd h12 (by omega))
  refine z_aload_n (pc := 17) hC 0 dX3_drop_17 rfl ?_
  refine z_iconst (pc := 18) (v := (nI 1)) hC dX3_drop_18 (by decide +kernel) ?_
  refine z_topi (bI (true)) rfl ?_
  refine z_put (pc := 19) (C := RX3) (T := TX3) (N := 5) hC hinX3 0 rfl rfl 4 (by decide) tyX3 tyX3_ok nmX3 (by decide +kernel) rfl (by decide +kernel) (by decide +kernel) (Nat.le_of_ble_eq_true rfl) [(q 0, .inr (4, [.ref (q 1), .ref (q 6), .ref (q 11), .int (nI n), .int (bI (true))])), (q 1, .inr (1, [.ref (q 2), .ref (q 3), .ref (q 4), .ref (q 5), .int (nI cnt)])), (q 2, .inl (cI, 80, .inl Kd)), (q 3, .inl (cI, 80, .inl Aa)), (q 4, .inl (cI, 80, .inl Ab)), (q 5, .inl (cI, 80, .inl Ac))] rfl dX3_drop_19 ?_
  refine z_aload_n (pc := 22) hC 0 dX3_drop_22 rfl ?_
  refine z_get (pc := 23) (C := RX3) (T := TX3) (N := 5) hC hinX3 0 rfl rfl 0 (by decide) (by decide +kernel) rfl dX3_drop_23 ?_
  refine z_iload_n (pc := 26) hC 1 dX3_drop_26 rfl ?_
  refine z_callVN_I (pc := 27) (y := yX0_remove) (wy := wsX0_remove) (rm := { frames := 2, cells := 0, slots := 0, locals := 82 }) (As := [.int (nI k)]) (rest := []) (na := 1) (C := RX0) (T := TX0) (NF := 5) (ci := 1) (wc := [(q 1, .inr (1, [.ref (q 2), .ref (q 3), .ref (q 4), .ref (q 5), .int (nI cnt)])), (q 2, .inl (cI, 80, .inl Kd)), (q 3, .inl (cI, 80, .inl Aa)), (q 4, .inl (cI, 80, .inl Ab)), (q 5, .inl (cI, 80, .inl Ac))]) (wc2 := [(q 1, .inr (1, [.ref (q 2), .ref (q 3), .ref (q 4), .ref (q 5), .int (nI (cnt - 1))])), (q 2, .inl (cI, 80, .inl (va_cpy Kd Kd (k + 1) k (cnt - 1 - k)))), (q 3, .inl (cI, 80, .inl (va_cpy Aa Aa (k + 1) k (cnt - 1 - k)))), (q 4, .inl (cI, 80, .inl (va_cpy Ab Ab (k + 1) k (cnt - 1 - k)))), (q 5, .inl (cI, 80, .inl (va_cpy Ac Ac (k + 1) k (cnt - 1 - k))))]) hC hRm hDis hLis 0 rfl rfl gX3_drop_X0_remove_n49 (by decide +kernel) (by decide +kernel) (by decide +kernel) (by decide +kernel) ⟨by decide +kernel, by decide +kernel⟩ rfl ⟨by decide, by decide⟩ ⟨by decide, by decide⟩ rfl (Nat.le_of_ble_eq_true rfl) (by decide +kernel) (c_X0_remove _ _ cI cJ cZ (q) (Kd) (Aa) (Ab) (Ac) (cnt) (k) (hk) (hc)) [1, 2, 3, 4, 5] [0] [0, 1, 2, 3, 4, 5] [(q 0, .inr (4, [.ref (q 1), .ref (q 6), .ref (q 11), .int (nI n), .int (bI (true))]))] rfl (by decide) rfl (by decide) (by decide) [(q 0, .inr (4, [.ref (q 1), .ref (q 6), .ref (q 11), .int (nI n), .int (bI (true))])), (q 1, .inr (1, [.ref (q 2), .ref (q 3), .ref (q 4), .ref (q 5), .int (nI (cnt - 1))])), (q 2, .inl (cI, 80, .inl (va_cpy Kd Kd (k + 1) k (cnt - 1 - k)))), (q 3, .inl (cI, 80, .inl (va_cpy Aa Aa (k + 1) k (cnt - 1 - k)))), (q 4, .inl (cI, 80, .inl (va_cpy Ab Ab (k + 1) k (cnt - 1 - k)))), (q 5, .inl (cI, 80, .inl (va_cpy Ac Ac (k + 1) k (cnt - 1 - k))))] rfl (by decide) rfl dX3_drop_27 ?_
  exact z_iret (pc := 30) hC hQ hRT (rfl) (rfl) (rfl) dX3_drop_30
