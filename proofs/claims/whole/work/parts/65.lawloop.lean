/-! the law: which case, the loop, the start -/

theorem lw_cgrow {K : KT} {l : Launch} {D : va_G} {cI cJ cZ : ClassId} {q p : Nat → Nat} {ov b L i nn kk : Nat} {xs : Nat → Int32} (hC : Cx K cL_law RL wsL_law (tyL cI cJ cZ)) (hRm : Rm K room_1) (hNL : NLis K 7) (hDis : Dis K D) (hLis : Lis K l) (hSc : ScrK K b L xs) (hL : L ≤ 2560) (hi5 : i + 5 ≤ L) (hn9 : nn + 1 ≤ 1049) (hk9 : kk + 6 ≤ 49595) {n cnt : Nat} {Kd Aa Ab Ac : Nat → Int32} {s : CSt} {Rw : Nat → Int32} {Nd : Nat → Int64} {ct : Nat} {Ax : Nat → Int32} {ms : MSt} {Prf Wt : Nat → Int32} {th : Int32} {F : Nat → Int64} (hI : INV n cnt Kd Aa Ab Ac s Rw ct Ax ms Prf) (hN : Nx K cI cJ cZ q p ov b i (nn + 1) (kk + 6)) : Z K nn kk (LW cI cJ cZ q p ov n cnt Kd Aa Ab Ac s Rw Nd ct Ax ms Prf Wt th F) (LVq q p ov b i) 108 [] := by
  obtain ⟨h2n, hn24, hc80⟩ := hI.1
  by_cases hg : n < 24
  · exact lw_grow_ok hC hRm hNL hDis hLis hSc hL hi5 hn9 hk9 hI hN hg
  · exact lw_grow_full hC hRm hNL hDis hLis hSc hL hi5 hn9 hk9 hI hN (by omega)

theorem lw_caxiom {K : KT} {l : Launch} {D : va_G} {cI cJ cZ : ClassId} {q p : Nat → Nat} {ov b L i nn kk : Nat} {xs : Nat → Int32} (hC : Cx K cL_law RL wsL_law (tyL cI cJ cZ)) (hRm : Rm K room_1) (hNL : NLis K 7) (hDis : Dis K D) (hLis : Lis K l) (hSc : ScrK K b L xs) (hL : L ≤ 2560) (hi5 : i + 5 ≤ L) (hn9 : nn + 1 ≤ 1049) (hk9 : kk + 6 ≤ 49595) {n cnt : Nat} {Kd Aa Ab Ac : Nat → Int32} {s : CSt} {Rw : Nat → Int32} {Nd : Nat → Int64} {ct : Nat} {Ax : Nat → Int32} {ms : MSt} {Prf Wt : Nat → Int32} {th : Int32} {F : Nat → Int64} (hI : INV n cnt Kd Aa Ab Ac s Rw ct Ax ms Prf) (hN : Nx K cI cJ cZ q p ov b i (nn + 1) (kk + 6)) : Z K nn kk (LW cI cJ cZ q p ov n cnt Kd Aa Ab Ac s Rw Nd ct Ax ms Prf Wt th F) (LVq q p ov b i) 121 [] := by
  obtain ⟨h2n, hn24, hc80⟩ := hI.1
  cases ha : isAx n (xs (i + 1)) (xs (i + 2)) (xs (i + 3)) (xs (i + 4)) with
  | false => exact lw_axiom_bad hC hRm hNL hDis hLis hSc hL hi5 hn9 hk9 hI hN ha
  | true =>
    by_cases hc : cnt < 80
    · exact lw_axiom_ok hC hRm hNL hDis hLis hSc hL hi5 hn9 hk9 hI hN ha hc
    · exact lw_axiom_full hC hRm hNL hDis hLis hSc hL hi5 hn9 hk9 hI hN ha (by omega)

theorem lw_cdrop {K : KT} {l : Launch} {D : va_G} {cI cJ cZ : ClassId} {q p : Nat → Nat} {ov b L i nn kk : Nat} {xs : Nat → Int32} (hC : Cx K cL_law RL wsL_law (tyL cI cJ cZ)) (hRm : Rm K room_1) (hNL : NLis K 7) (hDis : Dis K D) (hLis : Lis K l) (hSc : ScrK K b L xs) (hL : L ≤ 2560) (hi5 : i + 5 ≤ L) (hn9 : nn + 1 ≤ 1049) (hk9 : kk + 6 ≤ 49595) {n cnt : Nat} {Kd Aa Ab Ac : Nat → Int32} {s : CSt} {Rw : Nat → Int32} {Nd : Nat → Int64} {ct : Nat} {Ax : Nat → Int32} {ms : MSt} {Prf Wt : Nat → Int32} {th : Int32} {F : Nat → Int64} (hI : INV n cnt Kd Aa Ab Ac s Rw ct Ax ms Prf) (hN : Nx K cI cJ cZ q p ov b i (nn + 1) (kk + 6)) : Z K nn kk (LW cI cJ cZ q p ov n cnt Kd Aa Ab Ac s Rw Nd ct Ax ms Prf Wt th F) (LVq q p ov b i) 182 [] := by
  obtain ⟨h2n, hn24, hc80⟩ := hI.1
  cases hd : isCl (xs (i + 1)) (nI cnt) with
  | false => exact lw_drop_bad hC hRm hNL hDis hLis hSc hL hi5 hn9 hk9 hI hN hd
  | true =>
    obtain ⟨k1, hk1, ek⟩ := isCl_of (by omega) hd
    exact lw_drop_ok hC hRm hNL hDis hLis hSc hL hi5 hn9 hk9 hI hN k1 hk1 ek

theorem lw_csub {K : KT} {l : Launch} {D : va_G} {cI cJ cZ : ClassId} {q p : Nat → Nat} {ov b L i nn kk : Nat} {xs : Nat → Int32} (hC : Cx K cL_law RL wsL_law (tyL cI cJ cZ)) (hRm : Rm K room_1) (hNL : NLis K 7) (hDis : Dis K D) (hLis : Lis K l) (hSc : ScrK K b L xs) (hL : L ≤ 2560) (hi5 : i + 5 ≤ L) (hn9 : nn + 1 ≤ 1049) (hk9 : kk + 6 ≤ 49595) {n cnt : Nat} {Kd Aa Ab Ac : Nat → Int32} {s : CSt} {Rw : Nat → Int32} {Nd : Nat → Int64} {ct : Nat} {Ax : Nat → Int32} {ms : MSt} {Prf Wt : Nat → Int32} {th : Int32} {F : Nat → Int64} (hI : INV n cnt Kd Aa Ab Ac s Rw ct Ax ms Prf) (hN : Nx K cI cJ cZ q p ov b i (nn + 1) (kk + 6)) : Z K nn kk (LW cI cJ cZ q p ov n cnt Kd Aa Ab Ac s Rw Nd ct Ax ms Prf Wt th F) (LVq q p ov b i) 207 [] := by
  obtain ⟨h2n, hn24, hc80⟩ := hI.1
  cases hb : (isCl (xs (i + 1)) (nI n) && isCl (xs (i + 2)) (nI n)) with
  | false => exact lw_sub_bad hC hRm hNL hDis hLis hSc hL hi5 hn9 hk9 hI hN hb
  | true =>
    rw [Bool.and_eq_true] at hb
    obtain ⟨a1, ha1, ea⟩ := isCl_of (by omega) hb.1
    obtain ⟨b1, hb1, eb⟩ := isCl_of (by omega) hb.2
    exact lw_sub_ok hC hRm hNL hDis hLis hSc hL hi5 hn9 hk9 hI hN a1 b1 ha1 hb1 ea eb

theorem lw_clink {K : KT} {l : Launch} {D : va_G} {cI cJ cZ : ClassId} {q p : Nat → Nat} {ov b L i nn kk : Nat} {xs : Nat → Int32} (hC : Cx K cL_law RL wsL_law (tyL cI cJ cZ)) (hRm : Rm K room_1) (hNL : NLis K 7) (hDis : Dis K D) (hLis : Lis K l) (hSc : ScrK K b L xs) (hL : L ≤ 2560) (hi5 : i + 5 ≤ L) (hn9 : nn + 1 ≤ 1049) (hk9 : kk + 6 ≤ 49595) {n cnt : Nat} {Kd Aa Ab Ac : Nat → Int32} {s : CSt} {Rw : Nat → Int32} {Nd : Nat → Int64} {ct : Nat} {Ax : Nat → Int32} {ms : MSt} {Prf Wt : Nat → Int32} {th : Int32} {F : Nat → Int64} (hI : INV n cnt Kd Aa Ab Ac s Rw ct Ax ms Prf) (hN : Nx K cI cJ cZ q p ov b i (nn + 1) (kk + 6)) : Z K nn kk (LW cI cJ cZ q p ov n cnt Kd Aa Ab Ac s Rw Nd ct Ax ms Prf Wt th F) (LVq q p ov b i) 244 [] := by
  obtain ⟨h2n, hn24, hc80⟩ := hI.1
  cases hb : (isCl (xs (i + 1)) (nI n) && isRo (xs (i + 2)) && isCl (xs (i + 3)) (nI n)) with
  | false => exact lw_link_bad hC hRm hNL hDis hLis hSc hL hi5 hn9 hk9 hI hN hb
  | true =>
    rw [Bool.and_eq_true, Bool.and_eq_true] at hb
    obtain ⟨a1, ha1, ea⟩ := isCl_of (by omega) hb.1.1
    obtain ⟨r1, hr1, er⟩ := isRo_of hb.1.2
    obtain ⟨b1, hb1, eb⟩ := isCl_of (by omega) hb.2
    exact lw_link_ok hC hRm hNL hDis hLis hSc hL hi5 hn9 hk9 hI hN a1 r1 b1 ha1 hr1 hb1 ea er eb

theorem lw_cfact {K : KT} {l : Launch} {D : va_G} {cI cJ cZ : ClassId} {q p : Nat → Nat} {ov b L i nn kk : Nat} {xs : Nat → Int32} (hC : Cx K cL_law RL wsL_law (tyL cI cJ cZ)) (hRm : Rm K room_1) (hNL : NLis K 7) (hDis : Dis K D) (hLis : Lis K l) (hSc : ScrK K b L xs) (hL : L ≤ 2560) (hi5 : i + 5 ≤ L) (hn9 : nn + 1 ≤ 1049) (hk9 : kk + 6 ≤ 49595) {n cnt : Nat} {Kd Aa Ab Ac : Nat → Int32} {s : CSt} {Rw : Nat → Int32} {Nd : Nat → Int64} {ct : Nat} {Ax : Nat → Int32} {ms : MSt} {Prf Wt : Nat → Int32} {th : Int32} {F : Nat → Int64} (hI : INV n cnt Kd Aa Ab Ac s Rw ct Ax ms Prf) (hN : Nx K cI cJ cZ q p ov b i (nn + 1) (kk + 6)) (hTh : ThM K) (hfl : l.flags = flags0) : Z K nn kk (LW cI cJ cZ q p ov n cnt Kd Aa Ab Ac s Rw Nd ct Ax ms Prf Wt th F) (LVq q p ov b i) 319 [] := by
  obtain ⟨h2n, hn24, hc80⟩ := hI.1
  obtain ⟨hI2, hFr⟩ := hI.closed
  obtain ⟨f1, f2, f3, f4, f5, f6⟩ := hFr.fc hn24 h2n
  cases hj : isCl (xs (i + 1)) (nI (cloT n cnt Kd Aa Ab Ac s).1.2.2.1.2) with
  | false => exact lw_fact_no hC hRm hNL hDis hLis hSc hL hi5 hn9 hk9 hI hN hTh hfl hj
  | true =>
    obtain ⟨j1, hj1, ej⟩ := isCl_of (by omega) hj
    exact lw_fact_ok hC hRm hNL hDis hLis hSc hL hi5 hn9 hk9 hI hN hTh j1 hj1 ej

theorem lw_crow {K : KT} {l : Launch} {D : va_G} {cI cJ cZ : ClassId} {q p : Nat → Nat} {ov b L i nn kk : Nat} {xs : Nat → Int32} (hC : Cx K cL_law RL wsL_law (tyL cI cJ cZ)) (hRm : Rm K room_1) (hNL : NLis K 7) (hDis : Dis K D) (hLis : Lis K l) (hSc : ScrK K b L xs) (hL : L ≤ 2560) (hi5 : i + 5 ≤ L) (hn9 : nn + 1 ≤ 1049) (hk9 : kk + 6 ≤ 49595) {n cnt : Nat} {Kd Aa Ab Ac : Nat → Int32} {s : CSt} {Rw : Nat → Int32} {Nd : Nat → Int64} {ct : Nat} {Ax : Nat → Int32} {ms : MSt} {Prf Wt : Nat → Int32} {th : Int32} {F : Nat → Int64} (hI : INV n cnt Kd Aa Ab Ac s Rw ct Ax ms Prf) (hN : Nx K cI cJ cZ q p ov b i (nn + 1) (kk + 6)) : Z K nn kk (LW cI cJ cZ q p ov n cnt Kd Aa Ab Ac s Rw Nd ct Ax ms Prf Wt th F) (LVq q p ov b i) 437 [] := by
  obtain ⟨h2n, hn24, hc80⟩ := hI.1
  have hct := hI.2.2.2.2.2.1
  cases hr : isCl (xs (i + 1)) (nI ct) with
  | false => exact lw_row_bad hC hRm hNL hDis hLis hSc hL hi5 hn9 hk9 hI hN hr
  | true =>
    obtain ⟨j1, hj1, ej⟩ := isCl_of (by omega) hr
    exact lw_row_ok hC hRm hNL hDis hLis hSc hL hi5 hn9 hk9 hI hN j1 hj1 ej

theorem lw_cempty {K : KT} {l : Launch} {D : va_G} {cI cJ cZ : ClassId} {q p : Nat → Nat} {ov b L i nn kk : Nat} {xs : Nat → Int32} (hC : Cx K cL_law RL wsL_law (tyL cI cJ cZ)) (hRm : Rm K room_1) (hNL : NLis K 7) (hDis : Dis K D) (hLis : Lis K l) (hSc : ScrK K b L xs) (hL : L ≤ 2560) (hi5 : i + 5 ≤ L) (hn9 : nn + 1 ≤ 1049) (hk9 : kk + 6 ≤ 49595) {n cnt : Nat} {Kd Aa Ab Ac : Nat → Int32} {s : CSt} {Rw : Nat → Int32} {Nd : Nat → Int64} {ct : Nat} {Ax : Nat → Int32} {ms : MSt} {Prf Wt : Nat → Int32} {th : Int32} {F : Nat → Int64} (hI : INV n cnt Kd Aa Ab Ac s Rw ct Ax ms Prf) (hN : Nx K cI cJ cZ q p ov b i (nn + 1) (kk + 6)) : Z K nn kk (LW cI cJ cZ q p ov n cnt Kd Aa Ab Ac s Rw Nd ct Ax ms Prf Wt th F) (LVq q p ov b i) 462 [] := by
  obtain ⟨h2n, hn24, hc80⟩ := hI.1
  cases hb : (isCl (xs (i + 1)) (nI n) && isCl (nI 1) (nI n)) with
  | false => exact lw_empty_bad hC hRm hNL hDis hLis hSc hL hi5 hn9 hk9 hI hN hb
  | true =>
    rw [Bool.and_eq_true] at hb
    obtain ⟨a1, ha1, ea⟩ := isCl_of (by omega) hb.1
    exact lw_empty_ok hC hRm hNL hDis hLis hSc hL hi5 hn9 hk9 hI hN a1 ha1 ea

theorem lw_csame {K : KT} {l : Launch} {D : va_G} {cI cJ cZ : ClassId} {q p : Nat → Nat} {ov b L i nn kk : Nat} {xs : Nat → Int32} (hC : Cx K cL_law RL wsL_law (tyL cI cJ cZ)) (hRm : Rm K room_1) (hNL : NLis K 7) (hDis : Dis K D) (hLis : Lis K l) (hSc : ScrK K b L xs) (hL : L ≤ 2560) (hi5 : i + 5 ≤ L) (hn9 : nn + 1 ≤ 1049) (hk9 : kk + 6 ≤ 49595) {n cnt : Nat} {Kd Aa Ab Ac : Nat → Int32} {s : CSt} {Rw : Nat → Int32} {Nd : Nat → Int64} {ct : Nat} {Ax : Nat → Int32} {ms : MSt} {Prf Wt : Nat → Int32} {th : Int32} {F : Nat → Int64} (hI : INV n cnt Kd Aa Ab Ac s Rw ct Ax ms Prf) (hN : Nx K cI cJ cZ q p ov b i (nn + 1) (kk + 6)) : Z K nn kk (LW cI cJ cZ q p ov n cnt Kd Aa Ab Ac s Rw Nd ct Ax ms Prf Wt th F) (LVq q p ov b i) 487 [] := by
  obtain ⟨h2n, hn24, hc80⟩ := hI.1
  cases hb : isCl (xs (i + 1)) (nI n) with
  | false => exact lw_same_bad hC hRm hNL hDis hLis hSc hL hi5 hn9 hk9 hI hN hb
  | true =>
    obtain ⟨a1, ha1, ea⟩ := isCl_of (by omega) hb
    exact lw_same_ok hC hRm hNL hDis hLis hSc hL hi5 hn9 hk9 hI hN a1 ha1 ea

theorem lw_cparent {K : KT} {l : Launch} {D : va_G} {cI cJ cZ : ClassId} {q p : Nat → Nat} {ov b L i nn kk : Nat} {xs : Nat → Int32} (hC : Cx K cL_law RL wsL_law (tyL cI cJ cZ)) (hRm : Rm K room_1) (hNL : NLis K 7) (hDis : Dis K D) (hLis : Lis K l) (hSc : ScrK K b L xs) (hL : L ≤ 2560) (hi5 : i + 5 ≤ L) (hn9 : nn + 1 ≤ 1049) (hk9 : kk + 6 ≤ 49595) {n cnt : Nat} {Kd Aa Ab Ac : Nat → Int32} {s : CSt} {Rw : Nat → Int32} {Nd : Nat → Int64} {ct : Nat} {Ax : Nat → Int32} {ms : MSt} {Prf Wt : Nat → Int32} {th : Int32} {F : Nat → Int64} (hI : INV n cnt Kd Aa Ab Ac s Rw ct Ax ms Prf) (hN : Nx K cI cJ cZ q p ov b i (nn + 1) (kk + 6)) : Z K nn kk (LW cI cJ cZ q p ov n cnt Kd Aa Ab Ac s Rw Nd ct Ax ms Prf Wt th F) (LVq q p ov b i) 512 [] := by
  obtain ⟨h2n, hn24, hc80⟩ := hI.1
  cases hb : (isCl (xs (i + 1)) (nI n) && decide (0 ≤ (xs (i + 2)))) with
  | false => exact lw_parent_bad hC hRm hNL hDis hLis hSc hL hi5 hn9 hk9 hI hN hb
  | true =>
    rw [Bool.and_eq_true] at hb
    obtain ⟨a1, ha1, ea⟩ := isCl_of (by omega) hb.1
    exact lw_parent_ok hC hRm hNL hDis hLis hSc hL hi5 hn9 hk9 hI hN a1 ha1 ea (of_decide_eq_true hb.2)

theorem lw_iter {K : KT} {l : Launch} {D : va_G} {cI cJ cZ : ClassId} {q p : Nat → Nat} {ov b L : Nat} {xs : Nat → Int32} (hC : Cx K cL_law RL wsL_law (tyL cI cJ cZ)) (hRm : Rm K room_1) (hNL : NLis K 7) (hDis : Dis K D) (hLis : Lis K l) (hSc : ScrK K b L xs) (hTh : ThM K) (hE : EndK K b) (hfl : l.flags = flags0) (hL : L ≤ 2560) {t : Nat} (ht : t ≤ 512) (hN : 5 * t + 5 ≤ L → Nx K cI cJ cZ q p ov b (5 * t) (24 + t + 1) (41397 + 6 * t + 6)) {n cnt : Nat} {Kd Aa Ab Ac : Nat → Int32} {s : CSt} {Rw : Nat → Int32} {Nd : Nat → Int64} {ct : Nat} {Ax : Nat → Int32} {ms : MSt} {Prf Wt : Nat → Int32} {th : Int32} {F : Nat → Int64} (hI : INV n cnt Kd Aa Ab Ac s Rw ct Ax ms Prf) : Z K (24 + t) (41397 + 6 * t) (LW cI cJ cZ q p ov n cnt Kd Aa Ab Ac s Rw Nd ct Ax ms Prf Wt th F) (LVq q p ov b (5 * t)) 23 [] := by
  refine z_iload (pc := 23) hC 0 dL_law_23 rfl ?_
  refine z_aload_n (pc := 25) hC 4 dL_law_25 rfl ?_
  refine z_slen (pc := 26) hC hSc dL_law_26 ?_
  refine z_iconst (pc := 27) (v := nI 5) hC dL_law_27 (by decide) ?_
  refine z_isub (pc := 28) (v := nI L - nI 5) hC dL_law_28 rfl ?_
  have hsub : (nI L - nI 5).toInt = (L : Int) - 5 := pk_sub_toInt (by omega) (by decide)
  have hti : (nI (5 * t)).toInt = ((5 * t : Nat) : Int) := nI_toInt (by omega)
  refine z_icmp_gt (pc := 29) (tgt := 555) hC dL_law_29 (by decide) (fun _ => ?_) (fun h29 => ?_)
  · refine z_iconst (pc := 555) (v := nI 1) hC dL_law_555 (by decide) ?_
    exact z_lawret (pc := 556) hC hSc hE (by omega) (by omega) dL_law_556
  have hi5 : 5 * t + 5 ≤ L := by
    rw [Int32.lt_iff_toInt_lt, hsub, hti] at h29
    omega
  refine z_aload_n (pc := 32) hC 4 dL_law_32 rfl ?_
  refine z_iload (pc := 33) hC 0 dL_law_33 rfl ?_
  refine z_sld (pc := 35) (j := 5 * t) (v := xs (5 * t)) hC hSc (by omega) (by omega) rfl dL_law_35 ?_
  refine z_bipush (pc := 36) (v := nI 15) hC dL_law_36 (by decide +kernel) ?_
  refine z_iand (pc := 38) (v := xs (5 * t) &&& nI 15) hC dL_law_38 rfl ?_
  by_cases e0 : xs (5 * t) &&& nI 15 = nI 0
  · refine z_tableIn (pc := 39) (x := xs (5 * t) &&& nI 15) (off := 69) (tgt := 108) hC dL_law_39 (by rw [e0]; decide +kernel) (by rw [e0]; decide +kernel) (by rw [e0]; decide +kernel) (by decide) ?_
    exact lw_cgrow hC hRm hNL hDis hLis hSc hL hi5 (by omega) (by omega) hI (hN hi5)
  by_cases e1 : xs (5 * t) &&& nI 15 = nI 1
  · refine z_tableIn (pc := 39) (x := xs (5 * t) &&& nI 15) (off := 82) (tgt := 121) hC dL_law_39 (by rw [e1]; decide +kernel) (by rw [e1]; decide +kernel) (by rw [e1]; decide +kernel) (by decide) ?_
    exact lw_caxiom hC hRm hNL hDis hLis hSc hL hi5 (by omega) (by omega) hI (hN hi5)
  by_cases e2 : xs (5 * t) &&& nI 15 = nI 2
  · refine z_tableIn (pc := 39) (x := xs (5 * t) &&& nI 15) (off := 143) (tgt := 182) hC dL_law_39 (by rw [e2]; decide +kernel) (by rw [e2]; decide +kernel) (by rw [e2]; decide +kernel) (by decide) ?_
    exact lw_cdrop hC hRm hNL hDis hLis hSc hL hi5 (by omega) (by omega) hI (hN hi5)
  by_cases e3 : xs (5 * t) &&& nI 15 = nI 3
  · refine z_tableIn (pc := 39) (x := xs (5 * t) &&& nI 15) (off := 168) (tgt := 207) hC dL_law_39 (by rw [e3]; decide +kernel) (by rw [e3]; decide +kernel) (by rw [e3]; decide +kernel) (by decide) ?_
    exact lw_csub hC hRm hNL hDis hLis hSc hL hi5 (by omega) (by omega) hI (hN hi5)
  by_cases e4 : xs (5 * t) &&& nI 15 = nI 4
  · refine z_tableIn (pc := 39) (x := xs (5 * t) &&& nI 15) (off := 205) (tgt := 244) hC dL_law_39 (by rw [e4]; decide +kernel) (by rw [e4]; decide +kernel) (by rw [e4]; decide +kernel) (by decide) ?_
    exact lw_clink hC hRm hNL hDis hLis hSc hL hi5 (by omega) (by omega) hI (hN hi5)
  by_cases e5 : xs (5 * t) &&& nI 15 = nI 5
  · refine z_tableIn (pc := 39) (x := xs (5 * t) &&& nI 15) (off := 254) (tgt := 293) hC dL_law_39 (by rw [e5]; decide +kernel) (by rw [e5]; decide +kernel) (by rw [e5]; decide +kernel) (by decide) ?_
    exact lw_rounds hC hRm hNL hDis hLis hSc hL hi5 (by omega) (by omega) hI (hN hi5)
  by_cases e6 : xs (5 * t) &&& nI 15 = nI 6
  · refine z_tableIn (pc := 39) (x := xs (5 * t) &&& nI 15) (off := 267) (tgt := 306) hC dL_law_39 (by rw [e6]; decide +kernel) (by rw [e6]; decide +kernel) (by rw [e6]; decide +kernel) (by decide) ?_
    exact lw_facts hC hRm hNL hDis hLis hSc hL hi5 (by omega) (by omega) hI (hN hi5)
  by_cases e7 : xs (5 * t) &&& nI 15 = nI 7
  · refine z_tableIn (pc := 39) (x := xs (5 * t) &&& nI 15) (off := 280) (tgt := 319) hC dL_law_39 (by rw [e7]; decide +kernel) (by rw [e7]; decide +kernel) (by rw [e7]; decide +kernel) (by decide) ?_
    exact lw_cfact hC hRm hNL hDis hLis hSc hL hi5 (by omega) (by omega) hI (hN hi5) hTh hfl
  by_cases e8 : xs (5 * t) &&& nI 15 = nI 8
  · refine z_tableIn (pc := 39) (x := xs (5 * t) &&& nI 15) (off := 336) (tgt := 375) hC dL_law_39 (by rw [e8]; decide +kernel) (by rw [e8]; decide +kernel) (by rw [e8]; decide +kernel) (by decide) ?_
    exact lw_told hC hRm hNL hDis hLis hSc hL hi5 (by omega) (by omega) hI (hN hi5)
  by_cases e9 : xs (5 * t) &&& nI 15 = nI 9
  · refine z_tableIn (pc := 39) (x := xs (5 * t) &&& nI 15) (off := 373) (tgt := 412) hC dL_law_39 (by rw [e9]; decide +kernel) (by rw [e9]; decide +kernel) (by rw [e9]; decide +kernel) (by decide) ?_
    exact lw_trace hC hRm hNL hDis hLis hSc hL hi5 (by omega) (by omega) hI (hN hi5)
  by_cases e10 : xs (5 * t) &&& nI 15 = nI 10
  · refine z_tableIn (pc := 39) (x := xs (5 * t) &&& nI 15) (off := 398) (tgt := 437) hC dL_law_39 (by rw [e10]; decide +kernel) (by rw [e10]; decide +kernel) (by rw [e10]; decide +kernel) (by decide) ?_
    exact lw_crow hC hRm hNL hDis hLis hSc hL hi5 (by omega) (by omega) hI (hN hi5)
  by_cases e11 : xs (5 * t) &&& nI 15 = nI 11
  · refine z_tableIn (pc := 39) (x := xs (5 * t) &&& nI 15) (off := 423) (tgt := 462) hC dL_law_39 (by rw [e11]; decide +kernel) (by rw [e11]; decide +kernel) (by rw [e11]; decide +kernel) (by decide) ?_
    exact lw_cempty hC hRm hNL hDis hLis hSc hL hi5 (by omega) (by omega) hI (hN hi5)
  by_cases e12 : xs (5 * t) &&& nI 15 = nI 12
  · refine z_tableIn (pc := 39) (x := xs (5 * t) &&& nI 15) (off := 448) (tgt := 487) hC dL_law_39 (by rw [e12]; decide +kernel) (by rw [e12]; decide +kernel) (by rw [e12]; decide +kernel) (by decide) ?_
    exact lw_csame hC hRm hNL hDis hLis hSc hL hi5 (by omega) (by omega) hI (hN hi5)
  by_cases e13 : xs (5 * t) &&& nI 15 = nI 13
  · refine z_tableIn (pc := 39) (x := xs (5 * t) &&& nI 15) (off := 473) (tgt := 512) hC dL_law_39 (by rw [e13]; decide +kernel) (by rw [e13]; decide +kernel) (by rw [e13]; decide +kernel) (by decide) ?_
    exact lw_cparent hC hRm hNL hDis hLis hSc hL hi5 (by omega) (by omega) hI (hN hi5)
  refine z_tableOut (pc := 39) (x := xs (5 * t) &&& nI 15) (tgt := 549) hC dL_law_39 (by have q0 := sw_ne e0 (by decide); have q1 := sw_ne e1 (by decide); have q2 := sw_ne e2 (by decide); have q3 := sw_ne e3 (by decide); have q4 := sw_ne e4 (by decide); have q5 := sw_ne e5 (by decide); have q6 := sw_ne e6 (by decide); have q7 := sw_ne e7 (by decide); have q8 := sw_ne e8 (by decide); have q9 := sw_ne e9 (by decide); have q10 := sw_ne e10 (by decide); have q11 := sw_ne e11 (by decide); have q12 := sw_ne e12 (by decide); have q13 := sw_ne e13 (by decide); omega) (by decide) ?_
  exact z_widen (by omega) (by omega) (hN hi5 n cnt Kd Aa Ab Ac s Rw Nd ct Ax ms Prf Wt th F hI)
theorem lw_loop {K : KT} {l : Launch} {D : va_G} {cI cJ cZ : ClassId} {q p : Nat → Nat} {ov b L : Nat} {xs : Nat → Int32} (hC : Cx K cL_law RL wsL_law (tyL cI cJ cZ)) (hRm : Rm K room_1) (hNL : NLis K 7) (hDis : Dis K D) (hLis : Lis K l) (hSc : ScrK K b L xs) (hTh : ThM K) (hE : EndK K b) (hfl : l.flags = flags0) (hL : L ≤ 2560) : ∀ (f t : Nat), t ≤ 512 → L < 5 * t + 5 * f + 5 → ∀ {n cnt : Nat} {Kd Aa Ab Ac : Nat → Int32} {s : CSt} {Rw : Nat → Int32} {Nd : Nat → Int64} {ct : Nat} {Ax : Nat → Int32} {ms : MSt} {Prf Wt : Nat → Int32} {th : Int32} {F : Nat → Int64}, INV n cnt Kd Aa Ab Ac s Rw ct Ax ms Prf → Z K (24 + t) (41397 + 6 * t) (LW cI cJ cZ q p ov n cnt Kd Aa Ab Ac s Rw Nd ct Ax ms Prf Wt th F) (LVq q p ov b (5 * t)) 23 []
  | 0, t, ht, hf => fun hI => lw_iter hC hRm hNL hDis hLis hSc hTh hE hfl hL ht (fun h => absurd h (by omega)) hI
  | f + 1, t, ht, hf => fun hI => by
    refine lw_iter hC hRm hNL hDis hLis hSc hTh hE hfl hL ht (fun h => ?_) hI
    intro n cnt Kd Aa Ab Ac s Rw Nd ct Ax ms Prf Wt th F hI
    refine z_iinc (pc := 549) (q := 0) (x := nI (5 * t)) (v := nI (5 * (t + 1))) hC hNL (LVq q p ov b (5 * (t + 1))) dL_law_549 rfl (nI_add _ _) (by decide) rfl ?_
    refine z_goto (pc := 552) (tgt := 23) hC dL_law_552 (by decide) ?_
    exact lw_loop hC hRm hNL hDis hLis hSc hTh hE hfl hL f (t + 1) (by omega) (by omega) hI

theorem inlX3 : ∀ w ∈ wsX30, w ∈ wsL_law := fun _ h => List.mem_append_left _ (List.mem_append_left _ (List.mem_append_left _ (List.mem_append_left _ (List.mem_append_left _ (List.mem_append_left _ (List.mem_append_right _ h))))))
theorem inlX4 : ∀ w ∈ wsX40, w ∈ wsL_law := fun _ h => List.mem_append_left _ (List.mem_append_left _ (List.mem_append_left _ (List.mem_append_left _ (List.mem_append_left _ (List.mem_append_right _ h)))))
theorem inv0 : INV 2 0 (fun _ => 0) (fun _ => 0) (fun _ => 0) (fun _ => 0) (((fun _ => 0, fun _ => 0, nI 0), (fun _ => 0), ((fun _ => 0), 0), 0), 0, true) (fun _ => 0) 0 (fun _ => 0) ((fun _ => 0, fun _ => 0, fun _ => 0, fun _ => 0, 0), 0, (fun _ => 0, 0), false) (fun _ => 0) :=
  ⟨⟨by decide, by decide, by decide⟩, ⟨fun k hk => absurd hk (Nat.not_lt_zero k), fun k hk => absurd hk (Nat.not_lt_zero k), fun k hk => absurd hk (Nat.not_lt_zero k)⟩, rfl, fun q => absurd (show true = false from q) (by decide), ⟨fun c _ _ => ⟨0, by decide, rfl⟩, fun c _ _ => ⟨0, by decide, rfl⟩⟩, Nat.zero_le _, fun i hi => absurd hi (Nat.not_lt_zero i)⟩
set_option maxRecDepth 100000 in
set_option maxHeartbeats 4000000 in
theorem lw_start {K : KT} {l : Launch} {D : va_G} {cI cJ cZ : ClassId} {b L : Nat} {xs : Nat → Int32} (hC : Cx K cL_law RL wsL_law (tyL cI cJ cZ)) (hRm : Rm K room_1) (hNL : NLis K 7) (hDis : Dis K D) (hLis : Lis K l) (hSc : ScrK K b L xs) (hTh : ThM K) (hE : EndK K b) (hfl : l.flags = flags0) (hL : L ≤ 2560) : Z K 0 0 [] [(0, .ref b)] 0 [] := by
  have hinX3 := inlX3
  have hinX4 := inlX4
  refine z_new (pc := 0) (C := RX3) (T := TX3) (N := 5) (ci := 4) (fs := [.null, .null, .null, .int 0, .int 0]) hC hRm hinX3 tyX3 tyX3_ok (by decide +kernel) (by decide +kernel) (by decide +kernel) rfl (by decide +kernel) (by decide) (by decide) dL_law_0 (fun q0 => ?_)
  refine z_dup (pc := 3) hC dL_law_3 rfl ?_
  refine z_callI_X (pc := 4) (y := yX3_init) (wy := wsX3_init) (rm := { frames := 2, cells := 13, slots := 12831, locals := 32 }) (As := []) (rest := [.ref q0]) (na := 0) (wc := [(q0, .inr (4, [.null, .null, .null, .int 0, .int 0]))]) (w2 := fun u => [(u 0, .inr (4, [.ref (u 1), .ref (u 6), .ref (u 11), .int (nI 2), .int (bI (true))])), (u 1, .inr (1, [.ref (u 2), .ref (u 3), .ref (u 4), .ref (u 5), .int (nI 0)])), (u 2, .inl (cI, 80, .inl (fun _ => 0))), (u 3, .inl (cI, 80, .inl (fun _ => 0))), (u 4, .inl (cI, 80, .inl (fun _ => 0))), (u 5, .inl (cI, 80, .inl (fun _ => 0))), (u 6, .inr (2, [.ref (u 7), .ref (u 8), .ref (u 9), .ref (u 10), .int (nI 0), .int (nI 0), .int (nI 0), .int (nI 0)])), (u 7, .inl (cI, 168, .inl (fun _ => 0))), (u 8, .inl (cI, 168, .inl (fun _ => 0))), (u 9, .inl (cJ, 4032, .inr (.inl (fun _ => 0)))), (u 10, .inl (cI, 4032, .inl (fun _ => 0))), (u 11, .inr (3, [.ref (u 12), .ref (u 13), .int (nI 0)])), (u 12, .inl (cI, 4032, .inl (fun _ => 0))), (u 13, .inl (cJ, 63, .inr (.inl (fun _ => 0))))]) hC hRm hDis hLis gL_law_X3_init (by decide +kernel) (by decide +kernel) (by decide +kernel) rfl rfl ⟨by decide +kernel, by decide +kernel⟩ rfl ⟨by decide, by decide⟩ ⟨by decide, by decide⟩ rfl (Nat.le_of_ble_eq_true rfl) (by decide +kernel) (c_X3_init _ _ cI cJ cZ (q0) ) [0] [] [0, 1, 2, 3, 4, 5, 6, 7, 8, 9, 10, 11, 12, 13] [] rfl (by decide) rfl (by decide) (by decide) (fun u => [(u 0, .inr (4, [.ref (u 1), .ref (u 6), .ref (u 11), .int (nI 2), .int (bI (true))])), (u 1, .inr (1, [.ref (u 2), .ref (u 3), .ref (u 4), .ref (u 5), .int (nI 0)])), (u 2, .inl (cI, 80, .inl (fun _ => 0))), (u 3, .inl (cI, 80, .inl (fun _ => 0))), (u 4, .inl (cI, 80, .inl (fun _ => 0))), (u 5, .inl (cI, 80, .inl (fun _ => 0))), (u 6, .inr (2, [.ref (u 7), .ref (u 8), .ref (u 9), .ref (u 10), .int (nI 0), .int (nI 0), .int (nI 0), .int (nI 0)])), (u 7, .inl (cI, 168, .inl (fun _ => 0))), (u 8, .inl (cI, 168, .inl (fun _ => 0))), (u 9, .inl (cJ, 4032, .inr (.inl (fun _ => 0)))), (u 10, .inl (cI, 4032, .inl (fun _ => 0))), (u 11, .inr (3, [.ref (u 12), .ref (u 13), .int (nI 0)])), (u 12, .inl (cI, 4032, .inl (fun _ => 0))), (u 13, .inl (cJ, 63, .inr (.inl (fun _ => 0))))]) (fun _ => rfl) (by decide) rfl dL_law_4 (fun u4 hu4 => ?_)
  dsimp only at hu4 ⊢
  subst hu4
  refine z_astore_n (pc := 7) hC hNL [(1, .ref (u4 0)), (0, .ref b)] dL_law_7 (by decide) rfl ?_
  refine z_new (pc := 8) (C := RX4) (T := TX4) (N := 16) (ci := 5) (fs := [.int 0, .null, .int 0, .int 0, .null, .null, .null, .null, .int 0, .int 0, .null, .int 0, .null, .int 0, .int 0, .null]) hC hRm hinX4 tyX4 tyX4_ok (by decide +kernel) (by decide +kernel) (by decide +kernel) rfl (by decide +kernel) (by decide) (by decide) dL_law_8 (fun q8 => ?_)
  refine z_dup (pc := 11) hC dL_law_11 rfl ?_
  refine z_callI_X (pc := 12) (y := yX4_init) (wy := wsX4_init) (rm := { frames := 1, cells := 8, slots := 28544, locals := 12 }) (As := []) (rest := [.ref q8]) (na := 0) (wc := [(q8, .inr (5, [.int 0, .null, .int 0, .int 0, .null, .null, .null, .null, .int 0, .int 0, .null, .int 0, .null, .int 0, .int 0, .null]))]) (w2 := fun u => [(u 0, .inr (5, [.int (nI 2), .ref (u 1), .int 0, .int 0, .ref (u 2), .ref (u 3), .ref (u 4), .ref (u 5), .int 0, .int 0, .ref (u 6), .int 0, .ref (u 7), .int 0, .int 0, .ref (u 8)])), (u 1, .inl (cI, 320, .inl (fun _ => 0))), (u 2, .inl (cI, 4032, .inl (fun _ => 0))), (u 3, .inl (cI, 4032, .inl (fun _ => 0))), (u 4, .inl (cI, 4032, .inl (fun _ => 0))), (u 5, .inl (cI, 4032, .inl (fun _ => 0))), (u 6, .inl (cI, 4032, .inl (fun _ => 0))), (u 7, .inl (cI, 4032, .inl (fun _ => 0))), (u 8, .inl (cZ, 4032, .inl (fun _ => 0)))]) hC hRm hDis hLis gL_law_X4_init (by decide +kernel) (by decide +kernel) (by decide +kernel) rfl rfl ⟨by decide +kernel, by decide +kernel⟩ rfl ⟨by decide, by decide⟩ ⟨by decide, by decide⟩ rfl (Nat.le_of_ble_eq_true rfl) (by decide +kernel) (c_X4_init _ _ cI cJ cZ (q8) ) [14] [0, 1, 2, 3, 4, 5, 6, 7, 8, 9, 10, 11, 12, 13] [0, 1, 2, 3, 4, 5, 6, 7, 8, 9, 10, 11, 12, 13, 14, 15, 16, 17, 18, 19, 20, 21, 22] [(u4 0, .inr (4, [.ref (u4 1), .ref (u4 6), .ref (u4 11), .int (nI 2), .int (bI (true))])), (u4 1, .inr (1, [.ref (u4 2), .ref (u4 3), .ref (u4 4), .ref (u4 5), .int (nI 0)])), (u4 2, .inl (cI, 80, .inl (fun _ => 0))), (u4 3, .inl (cI, 80, .inl (fun _ => 0))), (u4 4, .inl (cI, 80, .inl (fun _ => 0))), (u4 5, .inl (cI, 80, .inl (fun _ => 0))), (u4 6, .inr (2, [.ref (u4 7), .ref (u4 8), .ref (u4 9), .ref (u4 10), .int (nI 0), .int (nI 0), .int (nI 0), .int (nI 0)])), (u4 7, .inl (cI, 168, .inl (fun _ => 0))), (u4 8, .inl (cI, 168, .inl (fun _ => 0))), (u4 9, .inl (cJ, 4032, .inr (.inl (fun _ => 0)))), (u4 10, .inl (cI, 4032, .inl (fun _ => 0))), (u4 11, .inr (3, [.ref (u4 12), .ref (u4 13), .int (nI 0)])), (u4 12, .inl (cI, 4032, .inl (fun _ => 0))), (u4 13, .inl (cJ, 63, .inr (.inl (fun _ => 0))))] rfl (by decide) rfl (by decide) (by decide) (fun u => [(u4 0, .inr (4, [.ref (u4 1), .ref (u4 6), .ref (u4 11), .int (nI 2), .int (bI (true))])), (u4 1, .inr (1, [.ref (u4 2), .ref (u4 3), .ref (u4 4), .ref (u4 5), .int (nI 0)])), (u4 2, .inl (cI, 80, .inl (fun _ => 0))), (u4 3, .inl (cI, 80, .inl (fun _ => 0))), (u4 4, .inl (cI, 80, .inl (fun _ => 0))), (u4 5, .inl (cI, 80, .inl (fun _ => 0))), (u4 6, .inr (2, [.ref (u4 7), .ref (u4 8), .ref (u4 9), .ref (u4 10), .int (nI 0), .int (nI 0), .int (nI 0), .int (nI 0)])), (u4 7, .inl (cI, 168, .inl (fun _ => 0))), (u4 8, .inl (cI, 168, .inl (fun _ => 0))), (u4 9, .inl (cJ, 4032, .inr (.inl (fun _ => 0)))), (u4 10, .inl (cI, 4032, .inl (fun _ => 0))), (u4 11, .inr (3, [.ref (u4 12), .ref (u4 13), .int (nI 0)])), (u4 12, .inl (cI, 4032, .inl (fun _ => 0))), (u4 13, .inl (cJ, 63, .inr (.inl (fun _ => 0)))), (u 0, .inr (5, [.int (nI 2), .ref (u 1), .int 0, .int 0, .ref (u 2), .ref (u 3), .ref (u 4), .ref (u 5), .int 0, .int 0, .ref (u 6), .int 0, .ref (u 7), .int 0, .int 0, .ref (u 8)])), (u 1, .inl (cI, 320, .inl (fun _ => 0))), (u 2, .inl (cI, 4032, .inl (fun _ => 0))), (u 3, .inl (cI, 4032, .inl (fun _ => 0))), (u 4, .inl (cI, 4032, .inl (fun _ => 0))), (u 5, .inl (cI, 4032, .inl (fun _ => 0))), (u 6, .inl (cI, 4032, .inl (fun _ => 0))), (u 7, .inl (cI, 4032, .inl (fun _ => 0))), (u 8, .inl (cZ, 4032, .inl (fun _ => 0)))]) (fun _ => rfl) (by decide) rfl dL_law_12 (fun u12 hu12 => ?_)
  dsimp only at hu12 ⊢
  subst hu12
  refine z_astore_n (pc := 15) hC hNL [(2, .ref (u12 0)), (1, .ref (u4 0)), (0, .ref b)] dL_law_15 (by decide) rfl ?_
  refine z_iconst (pc := 16) (v := (nI 1)) hC dL_law_16 (by decide +kernel) ?_
  refine z_newa (pc := 17) (ty := .long) (N := 1) (a0 := (1, .inr (.inl (fun _ => 0)))) hC hRm (by decide +kernel) rfl (fun _ h => by cases h) 1 rfl (fun _ => rfl) (by decide) (by decide +kernel) (by decide) (by decide) dL_law_17 (fun q17 => ?_)
  refine z_astore_n (pc := 19) hC hNL [(3, .ref q17), (2, .ref (u12 0)), (1, .ref (u4 0)), (0, .ref b)] dL_law_19 (by decide) rfl ?_
  refine z_iconst (pc := 20) (v := (nI 0)) hC dL_law_20 (by decide +kernel) ?_
  refine z_istore (pc := 21) hC hNL [(4, .int (nI 0)), (3, .ref q17), (2, .ref (u12 0)), (1, .ref (u4 0)), (0, .ref b)] dL_law_21 (by decide) rfl ?_
  refine z_widen (n' := 24 + 0) (k' := 41397 + 6 * 0) (by decide) (by decide) ?_
  exact lw_loop (q := u4) (p := u12) (ov := q17) hC hRm hNL hDis hLis hSc hTh hE hfl hL L 0 (by omega) (by omega) (n := 2) (cnt := 0) (Kd := fun _ => 0) (Aa := fun _ => 0) (Ab := fun _ => 0) (Ac := fun _ => 0) (s := (((fun _ => 0, fun _ => 0, nI 0), (fun _ => 0), ((fun _ => 0), 0), 0), 0, true)) (Rw := fun _ => 0) (Nd := fun _ => 0) (ct := 0) (Ax := fun _ => 0) (ms := ((fun _ => 0, fun _ => 0, fun _ => 0, fun _ => 0, 0), 0, (fun _ => 0, 0), false)) (Prf := fun _ => 0) (Wt := fun _ => 0) (th := 0) (F := fun _ => 0) inv0

