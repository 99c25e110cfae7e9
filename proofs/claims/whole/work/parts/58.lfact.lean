/-! the law's own fact -/
abbrev CW0 (cI cJ : ClassId) (q : Nat → Nat) (n : Nat) (Kd Aa Ab Ac : Nat → Int32) (cnt : Nat) (s : CSt) : va_W := [(q 0, .inr (4, [.ref (q 1), .ref (q 6), .ref (q 11), .int (nI n), .int (bI (s.2.2))])), (q 1, .inr (1, [.ref (q 2), .ref (q 3), .ref (q 4), .ref (q 5), .int (nI cnt)])), (q 2, .inl (cI, 80, .inl Kd)), (q 3, .inl (cI, 80, .inl Aa)), (q 4, .inl (cI, 80, .inl Ab)), (q 5, .inl (cI, 80, .inl Ac)), (q 6, .inr (2, [.ref (q 7), .ref (q 8), .ref (q 9), .ref (q 10), .int (nI (s.2.1)), .int (nI ((s.1).2.2.1.2)), .int (nI ((s.1).2.2.2)), .int ((s.1).1.2.2)])), (q 7, .inl (cI, 168, .inl ((s.1).2.1))), (q 8, .inl (cI, 168, .inl ((s.1).1.1))), (q 9, .inl (cJ, 4032, .inr (.inl ((s.1).1.2.1)))), (q 10, .inl (cI, 4032, .inl ((s.1).2.2.1.1)))]
abbrev CWo (cI cJ : ClassId) (q : Nat → Nat) (n : Nat) (Kd Aa Ab Ac : Nat → Int32) (cnt : Nat) (s : CSt) (ov : Nat) (F : Nat → Int64) : va_W := [(q 0, .inr (4, [.ref (q 1), .ref (q 6), .ref (q 11), .int (nI n), .int (bI (s.2.2))])), (q 1, .inr (1, [.ref (q 2), .ref (q 3), .ref (q 4), .ref (q 5), .int (nI cnt)])), (q 2, .inl (cI, 80, .inl Kd)), (q 3, .inl (cI, 80, .inl Aa)), (q 4, .inl (cI, 80, .inl Ab)), (q 5, .inl (cI, 80, .inl Ac)), (q 6, .inr (2, [.ref (q 7), .ref (q 8), .ref (q 9), .ref (q 10), .int (nI (s.2.1)), .int (nI ((s.1).2.2.1.2)), .int (nI ((s.1).2.2.2)), .int ((s.1).1.2.2)])), (q 7, .inl (cI, 168, .inl ((s.1).2.1))), (q 8, .inl (cI, 168, .inl ((s.1).1.1))), (q 9, .inl (cJ, 4032, .inr (.inl ((s.1).1.2.1)))), (q 10, .inl (cI, 4032, .inl ((s.1).2.2.1.1))), (ov, .inl (cJ, 1, .inr (.inl F)))]
set_option maxRecDepth 20000 in
theorem ggL_fact_X3_fact : GoodIn wsL_fact wsX3_fact := goodIn_r _ [5, 6, 7, 8, 9, 10, 11, 4, 12, 13, 14, 15, 16, 17, 18, 19, 20, 21, 22, 23, 24, 25, 26, 27, 28, 29, 30, 31, 32, 33, 34, 35, 36, 37, 38, 39, 40, 41, 42, 43, 44, 45, 46, 47, 48, 49, 50, 51, 52, 53, 54, 55, 56, 57, 58, 59, 60, 61, 62, 63, 64, 65, 66, 67, 68, 69, 70, 71, 72, 73, 74, 75, 76, 77, 78, 79, 80, 81, 82, 83, 84, 85, 86, 87, 88, 89, 90, 91, 92, 93, 94, 95, 96, 97, 98, 99, 100, 101, 102, 103, 104, 105, 106, 107, 108, 109, 110, 111, 112, 113, 114, 115, 116, 117, 118] rfl rfl
set_option maxRecDepth 20000 in
theorem gL_fact_X3_fact : GoodIn wsL_fact (wsV RL 7 RX3 yX3_fact wsX3_fact) := goodIn_app (goodIn_of _ (by decide +kernel)) ggL_fact_X3_fact
theorem dL_fact_0 : decode cL_fact 0 = .ok (.aload_n 2, 1) := by decide +kernel
theorem dL_fact_1 : decode cL_fact 1 = .ok (.iconst 0, 1) := by decide +kernel
theorem dL_fact_2 : decode cL_fact 2 = .ok (.aload_n 0, 1) := by decide +kernel
theorem dL_fact_3 : decode cL_fact 3 = .ok (.iload_n 1, 1) := by decide +kernel
theorem dL_fact_4 : decode cL_fact 4 = .ok (.invokevirtual 7, 3) := by decide +kernel
theorem dL_fact_7 : decode cL_fact 7 = .ok (.i2l, 1) := by decide +kernel
theorem dL_fact_8 : decode cL_fact 8 = .ok (.lastore, 1) := by decide +kernel
theorem dL_fact_9 : decode cL_fact 9 = .ok (.goto 6, 3) := by decide +kernel
theorem dL_fact_12 : decode cL_fact 12 = .ok (.astore_n 3, 1) := by decide +kernel
theorem dL_fact_13 : decode cL_fact 13 = .ok (.iconst 1, 1) := by decide +kernel
theorem dL_fact_14 : decode cL_fact 14 = .ok (.ireturn, 1) := by decide +kernel
theorem dL_fact_15 : decode cL_fact 15 = .ok (.iconst 0, 1) := by decide +kernel
theorem dL_fact_16 : decode cL_fact 16 = .ok (.ireturn, 1) := by decide +kernel
set_option maxRecDepth 100000 in
set_option maxHeartbeats 4000000 in
theorem c_L_fact_ok (l : Launch) (D : va_G) (cI cJ cZ : ClassId) (q : Nat → Nat) (n : Nat) (Kd Aa Ab Ac : Nat → Int32) (cnt : Nat) (s : CSt) (ov : Nat) (F : Nat → Int64) (i : Nat) (hn : n ≤ 24) (hcnt : cnt ≤ 80) (hax : ∀ k, k < cnt → axV n (Kd k) (Aa k) (Ab k) (Ac k)) (hi : i < (cloT n cnt Kd Aa Ab Ac s).1.2.2.1.2) (hfc : (cloT n cnt Kd Aa Ab Ac s).1.2.2.1.2 ≤ 4032) : ML l yL_fact wsL_fact { frames := 8, cells := 0, slots := 0, locals := 169 } D (tyL cI cJ cZ) [.ref (q 0), .int (nI i), .ref ov] (CWo cI cJ q n Kd Aa Ab Ac cnt s ov F) (CWo cI cJ q n Kd Aa Ab Ac cnt (cloT n cnt Kd Aa Ab Ac s) ov (vp_updL F 0 ((cloT n cnt Kd Aa Ab Ac s).1.2.2.1.1 i).toInt64)) (nI 0) := by
  refine metL_of (cc := cL_fact) (maxL := 4) (ret := (some .int)) (by decide +kernel) rfl (Nat.le_of_ble_eq_true rfl) ?_
  intro K hC hRm hNL hDis hLis hRT hTh hQ
  refine z_aload_n (pc := 0) hC 2 dL_fact_0 rfl ?_
  refine z_iconst (pc := 1) (v := nI 0) hC dL_fact_1 (by decide) ?_
  refine z_aload_n (pc := 2) hC 0 dL_fact_2 rfl ?_
  refine z_iload_n (pc := 3) hC 1 dL_fact_3 rfl ?_
  refine z_callV_I (pc := 4) (y := yX3_fact) (wy := wsX3_fact) (rm := { frames := 6, cells := 0, slots := 0, locals := 147 }) (As := [.int (nI i)]) (rest := [.int (nI 0), .ref ov]) (na := 1) (C := RX3) (T := TX3) (NF := 5) (ci := 4) (wc := CW0 cI cJ q n Kd Aa Ab Ac cnt s) (wc2 := CW0 cI cJ q n Kd Aa Ab Ac cnt (cloT n cnt Kd Aa Ab Ac s)) hC hRm hDis hLis 0 rfl rfl gL_fact_X3_fact ⟨rfl, by decide +kernel, by decide +kernel⟩ rfl ⟨by decide, by decide⟩ ⟨by decide, by decide⟩ rfl (Nat.le_of_ble_eq_true rfl) (by decide +kernel) (c_X3_fact_ok _ _ cI cJ cZ q n Kd Aa Ab Ac cnt s i hn hcnt hax hi hfc) [0, 1, 2, 3, 4, 5, 6, 7, 8, 9, 10] [11] [1, 2, 3, 4, 5, 6, 7, 8, 9, 10, 11, 0] [(ov, .inl (cJ, 1, .inr (.inl F)))] rfl (by decide) rfl (by decide) (by decide) (CWo cI cJ q n Kd Aa Ab Ac cnt (cloT n cnt Kd Aa Ab Ac s) ov F) rfl (by decide) rfl dL_fact_4 ?_
  refine z_i2l (pc := 7) hC dL_fact_7 rfl ?_
  refine z_last (pc := 8) hC 11 1 rfl rfl (by decide) (by decide) (CWo cI cJ q n Kd Aa Ab Ac cnt (cloT n cnt Kd Aa Ab Ac s) ov (vp_updL F 0 ((cloT n cnt Kd Aa Ab Ac s).1.2.2.1.1 i).toInt64)) rfl dL_fact_8 ?_
  refine z_goto (pc := 9) (tgt := 15) hC dL_fact_9 (by decide) ?_
  refine z_iconst (pc := 15) (v := nI 0) hC dL_fact_15 (by decide) ?_
  exact z_iret (pc := 16) hC hQ hRT rfl rfl rfl dL_fact_16
set_option maxRecDepth 100000 in
set_option maxHeartbeats 4000000 in
theorem c_L_fact_throw (l : Launch) (hfl : l.flags = flags0) (D : va_G) (cI cJ cZ : ClassId) (q : Nat → Nat) (n : Nat) (Kd Aa Ab Ac : Nat → Int32) (cnt : Nat) (s : CSt) (ov : Nat) (F : Nat → Int64) (p0 : Int32) (hn : n ≤ 24) (hcnt : cnt ≤ 80) (hax : ∀ k, k < cnt → axV n (Kd k) (Aa k) (Ab k) (Ac k)) (hi : p0 < 0 ∨ nI (cloT n cnt Kd Aa Ab Ac s).1.2.2.1.2 ≤ p0) (hfc : (cloT n cnt Kd Aa Ab Ac s).1.2.2.1.2 ≤ 4032) : ML l yL_fact wsL_fact { frames := 8, cells := 1, slots := 6, locals := 169 } D (tyL cI cJ cZ) [.ref (q 0), .int p0, .ref ov] (CWo cI cJ q n Kd Aa Ab Ac cnt s ov F) (CWo cI cJ q n Kd Aa Ab Ac cnt (cloT n cnt Kd Aa Ab Ac s) ov F) (nI 1) := by
  refine metL_of (cc := cL_fact) (maxL := 4) (ret := (some .int)) (by decide +kernel) rfl (Nat.le_of_ble_eq_true rfl) ?_
  intro K hC hRm hNL hDis hLis hRT hTh hQ
  refine z_aload_n (pc := 0) hC 2 dL_fact_0 rfl ?_
  refine z_iconst (pc := 1) (v := nI 0) hC dL_fact_1 (by decide) ?_
  refine z_aload_n (pc := 2) hC 0 dL_fact_2 rfl ?_
  refine z_iload_n (pc := 3) hC 1 dL_fact_3 rfl ?_
  refine z_catchV (pc := 4) (y := yX3_fact) (wy := wsX3_fact) (rm := { frames := 7, cells := 1, slots := 6, locals := 147 }) (As := [.int p0]) (rest := [.int (nI 0), .ref ov]) (na := 1) (C := RX3) (T := TX3) (NF := 5) (ci := 4) (wc := CW0 cI cJ q n Kd Aa Ab Ac cnt s) (wc2 := CW0 cI cJ q n Kd Aa Ab Ac cnt (cloT n cnt Kd Aa Ab Ac s)) hC hRm hDis hLis hTh 0 rfl rfl gL_fact_X3_fact ⟨rfl, by decide +kernel, by decide +kernel⟩ rfl ⟨by decide, by decide⟩ ⟨by decide, by decide⟩ rfl (Nat.le_of_ble_eq_true rfl) (by decide +kernel) (c_X3_fact_throw _ hfl _ cI cJ cZ q n Kd Aa Ab Ac cnt s p0 hn hcnt hax hi hfc) [0, 1, 2, 3, 4, 5, 6, 7, 8, 9, 10] [11] [1, 2, 3, 4, 5, 6, 7, 8, 9, 10, 11, 0] [(ov, .inl (cJ, 1, .inr (.inl F)))] rfl (by decide) rfl (by decide) (by decide) (CWo cI cJ q n Kd Aa Ab Ac cnt (cloT n cnt Kd Aa Ab Ac s) ov F) rfl (by decide) rfl dL_fact_4 (by decide) rfl (fun x => ?_)
  refine z_astore_n (pc := 12) hC hNL [(3, .ref x), (0, .ref (q 0)), (1, .int p0), (2, .ref ov)] dL_fact_12 (by decide) rfl ?_
  refine z_iconst (pc := 13) (v := nI 1) hC dL_fact_13 (by decide) ?_
  exact z_iret (pc := 14) hC hQ hRT rfl rfl rfl dL_fact_14
