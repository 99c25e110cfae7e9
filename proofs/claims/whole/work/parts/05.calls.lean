theorem va_P.subM {D : va_G} {cl : List vw_C} {ws ws' : va_W} {H : Heap} (h : va_P D cl ws H) (is : List Nat) (hs : is.map (fun i => ws[i]?) = ws'.map some) : va_P D cl ws' H := by
  intro k q hk
  have h1 : (is.map (fun i => ws[i]?))[k]? = some (some q) := by rw [hs, List.getElem?_map, hk]; rfl
  rw [List.getElem?_map] at h1
  cases hi : is[k]? with
  | none => rw [hi] at h1; cases h1
  | some i => rw [hi] at h1; exact h i q (Option.some.inj h1)
section ZC
variable {K : KT} {cc : ByteArray} {own : String} {Ts : List Cond} {tys : List (ClassId × FieldType)} {n k : Nat} {ws : va_W} {lv : List (Nat × Value)} {pc : Nat} {rest : List Value}
theorem z_callV_I (hC : Cx K cc own Ts tys) {R0 : Room} (hR0 : Rm K R0) {D0 : va_G} (hD0 : Dis K D0) {l0 : Launch} (hl0 : Lis K l0) {y : MethodName} {wy wy' : List Cond} {rm : Room} {index maxL na : Nat} {bytes : ByteArray} {ret : Option FieldType} {As : List Value} {wc wc2 : va_W} {r : Int32} {C : String} {T : u_T} {NF ci a : Nat} (q0 : Nat) {fs : List Value} (hq0 : wc[q0]? = some (a, .inr (ci, fs))) (hcl : vwCl[ci]? = some (C, T, NF)) (hG : GoodIn Ts (wsV own index C y wy)) (hy0 : y.cls = C ∧ y.cls ≠ "java/lang/invoke/MethodHandle" ∧ y.cls ≠ "java/lang/invoke/VarHandle") (hw : wy = Cond.code y bytes maxL ret :: wy') (hroom : rm.frames + 1 ≤ R0.frames ∧ 8 + (maxL + 11) + rm.locals ≤ R0.locals) (hcs : n + rm.cells ≤ R0.cells ∧ k + rm.slots ≤ R0.slots) (hlen : As.length = na) (hrest : (rest.map fun v => v.category).sum ≤ 8) (hpd : (parseMethodDescriptor y.desc).map (fun d => d.parameters.length) = some na) (hM : MI l0 y wy rm D0 tys (.ref a :: As) wc wc2 r) (isC isR isF : List Nat) (wr : va_W) (hsC : isC.map (fun i => ws[i]?) = wc.map some) (hnC : va_nd isC = true) (hsR : isR.map (fun i => ws[i]?) = wr.map some) (hnR : va_nd isR = true) (hdis : ∀ i ∈ isR, i ∉ isC) (ws' : va_W) (hsF : isF.map (fun i => (wr ++ wc2)[i]?) = ws'.map some) (hnF : va_nd isF = true) {st : List Value} (hst : st = As.reverse ++ .ref a :: rest) (hd : decode cc pc = .ok (.invokevirtual index, 3)) (kk : Z K (n + rm.cells) (k + rm.slots) ws' lv (pc + 3) (.int r :: rest)) : Z K n k ws lv pc st := by
  obtain ⟨p, l, e, R, s, m, args, below, meth, c, nL, D, A, Q⟩ := K
  obtain ⟨hx, hb, hml, hown, hts, hK, hA, hN, hlk⟩ := hC
  intro H locs ls hP hD hS hl
  have hR0 : R = R0 := hR0
  have hD0 : D = D0 := hD0
  have hl0 : l = l0 := hl0
  subst hR0
  subst hD0
  subst hl0
  have hPc := hP.subM isC hsC
  have hDc := hD.sub isC hnC hsC
  have hFc := va_free (wc := wc) hD hS hA isC hsC
  refine va_calli (va_runV (As := As) (rest := rest) ⟨hx, hb, hml, hown, hts⟩ (hM H.size) (cwV na hts hG hw rfl rfl ⟨hy0.1, hy0.2.1, hy0.2.2, hpd⟩ hroom) ⟨Pw.blind, va_recv hK hPc hcl hq0, fun U hU hW => ⟨rfl, by rw [hU], by rw [hU]; exact hPc, va_K.moved hW.alike hK, hDc.weaken (fun _ _ _ _ => trivial), NW.moved hW hN⟩⟩ rfl hlen hl.1 hst (lv_room hrest) hd hcs) hS (fun q _ h => hFc q h) hFc (fun x u t H1 locs1 ht hvm hw2 hB hz1 hk1 hS1 => ?_)
  obtain ⟨hP1, hK1, hD1⟩ := hB
  have hw3 : x = r := hw2
  subst hw3
  rw [ht] at hP1
  obtain ⟨hP2, hD2⟩ := va_join (wr := wr) (w1 := wc2) hP hD isC isR hsC hsR hnR hdis hk1 hFc hP1 hD1
  exact kk H1 locs1 ls (hP2.subM isF hsF) (hD2.sub isF hnF hsF) hS1 hl
theorem z_callV_V (hC : Cx K cc own Ts tys) {R0 : Room} (hR0 : Rm K R0) {D0 : va_G} (hD0 : Dis K D0) {l0 : Launch} (hl0 : Lis K l0) {y : MethodName} {wy wy' : List Cond} {rm : Room} {index maxL na : Nat} {bytes : ByteArray} {ret : Option FieldType} {As : List Value} {wc wc2 : va_W} {C : String} {T : u_T} {NF ci a : Nat} (q0 : Nat) {fs : List Value} (hq0 : wc[q0]? = some (a, .inr (ci, fs))) (hcl : vwCl[ci]? = some (C, T, NF)) (hG : GoodIn Ts (wsV own index C y wy)) (hy0 : y.cls = C ∧ y.cls ≠ "java/lang/invoke/MethodHandle" ∧ y.cls ≠ "java/lang/invoke/VarHandle") (hw : wy = Cond.code y bytes maxL ret :: wy') (hroom : rm.frames + 1 ≤ R0.frames ∧ 8 + (maxL + 11) + rm.locals ≤ R0.locals) (hcs : n + rm.cells ≤ R0.cells ∧ k + rm.slots ≤ R0.slots) (hlen : As.length = na) (hrest : (rest.map fun v => v.category).sum ≤ 8) (hpd : (parseMethodDescriptor y.desc).map (fun d => d.parameters.length) = some na) (hM : MV l0 y wy rm D0 tys (.ref a :: As) wc wc2 ) (isC isR isF : List Nat) (wr : va_W) (hsC : isC.map (fun i => ws[i]?) = wc.map some) (hnC : va_nd isC = true) (hsR : isR.map (fun i => ws[i]?) = wr.map some) (hnR : va_nd isR = true) (hdis : ∀ i ∈ isR, i ∉ isC) (ws' : va_W) (hsF : isF.map (fun i => (wr ++ wc2)[i]?) = ws'.map some) (hnF : va_nd isF = true) {st : List Value} (hst : st = As.reverse ++ .ref a :: rest) (hd : decode cc pc = .ok (.invokevirtual index, 3)) (kk : Z K (n + rm.cells) (k + rm.slots) ws' lv (pc + 3) (rest)) : Z K n k ws lv pc st := by
  obtain ⟨p, l, e, R, s, m, args, below, meth, c, nL, D, A, Q⟩ := K
  obtain ⟨hx, hb, hml, hown, hts, hK, hA, hN, hlk⟩ := hC
  intro H locs ls hP hD hS hl
  have hR0 : R = R0 := hR0
  have hD0 : D = D0 := hD0
  have hl0 : l = l0 := hl0
  subst hR0
  subst hD0
  subst hl0
  have hPc := hP.subM isC hsC
  have hDc := hD.sub isC hnC hsC
  have hFc := va_free (wc := wc) hD hS hA isC hsC
  refine va_callv (va_runV (As := As) (rest := rest) ⟨hx, hb, hml, hown, hts⟩ (hM H.size) (cwV na hts hG hw rfl rfl ⟨hy0.1, hy0.2.1, hy0.2.2, hpd⟩ hroom) ⟨Pw.blind, va_recv hK hPc hcl hq0, fun U hU hW => ⟨rfl, by rw [hU], by rw [hU]; exact hPc, va_K.moved hW.alike hK, hDc.weaken (fun _ _ _ _ => trivial), NW.moved hW hN⟩⟩ rfl hlen hl.1 hst (lv_room hrest) hd hcs) hS (fun q _ h => hFc q h) hFc (fun u t H1 locs1 ht hvm hw2 hB hz1 hk1 hS1 => ?_)
  obtain ⟨hP1, hK1, hD1⟩ := hB
  rw [ht] at hP1
  obtain ⟨hP2, hD2⟩ := va_join (wr := wr) (w1 := wc2) hP hD isC isR hsC hsR hnR hdis hk1 hFc hP1 hD1
  exact kk H1 locs1 ls (hP2.subM isF hsF) (hD2.sub isF hnF hsF) hS1 hl
theorem z_callV_A (hC : Cx K cc own Ts tys) {R0 : Room} (hR0 : Rm K R0) {D0 : va_G} (hD0 : Dis K D0) {l0 : Launch} (hl0 : Lis K l0) {y : MethodName} {wy wy' : List Cond} {rm : Room} {index maxL na : Nat} {bytes : ByteArray} {ret : Option FieldType} {As : List Value} {wc wc2 : va_W} {r : Nat} {C : String} {T : u_T} {NF ci a : Nat} (q0 : Nat) {fs : List Value} (hq0 : wc[q0]? = some (a, .inr (ci, fs))) (hcl : vwCl[ci]? = some (C, T, NF)) (hG : GoodIn Ts (wsV own index C y wy)) (hy0 : y.cls = C ∧ y.cls ≠ "java/lang/invoke/MethodHandle" ∧ y.cls ≠ "java/lang/invoke/VarHandle") (hw : wy = Cond.code y bytes maxL ret :: wy') (hroom : rm.frames + 1 ≤ R0.frames ∧ 8 + (maxL + 11) + rm.locals ≤ R0.locals) (hcs : n + rm.cells ≤ R0.cells ∧ k + rm.slots ≤ R0.slots) (hlen : As.length = na) (hrest : (rest.map fun v => v.category).sum ≤ 8) (hpd : (parseMethodDescriptor y.desc).map (fun d => d.parameters.length) = some na) (hM : MA l0 y wy rm D0 tys (.ref a :: As) wc wc2 r) (isC isR isF : List Nat) (wr : va_W) (hsC : isC.map (fun i => ws[i]?) = wc.map some) (hnC : va_nd isC = true) (hsR : isR.map (fun i => ws[i]?) = wr.map some) (hnR : va_nd isR = true) (hdis : ∀ i ∈ isR, i ∉ isC) (ws' : va_W) (hsF : isF.map (fun i => (wr ++ wc2)[i]?) = ws'.map some) (hnF : va_nd isF = true) {st : List Value} (hst : st = As.reverse ++ .ref a :: rest) (hd : decode cc pc = .ok (.invokevirtual index, 3)) (kk : Z K (n + rm.cells) (k + rm.slots) ws' lv (pc + 3) (.ref r :: rest)) : Z K n k ws lv pc st := by
  obtain ⟨p, l, e, R, s, m, args, below, meth, c, nL, D, A, Q⟩ := K
  obtain ⟨hx, hb, hml, hown, hts, hK, hA, hN, hlk⟩ := hC
  intro H locs ls hP hD hS hl
  have hR0 : R = R0 := hR0
  have hD0 : D = D0 := hD0
  have hl0 : l = l0 := hl0
  subst hR0
  subst hD0
  subst hl0
  have hPc := hP.subM isC hsC
  have hDc := hD.sub isC hnC hsC
  have hFc := va_free (wc := wc) hD hS hA isC hsC
  refine va_callr (va_runV (As := As) (rest := rest) ⟨hx, hb, hml, hown, hts⟩ (hM H.size) (cwV na hts hG hw rfl rfl ⟨hy0.1, hy0.2.1, hy0.2.2, hpd⟩ hroom) ⟨Pw.blind, va_recv hK hPc hcl hq0, fun U hU hW => ⟨rfl, by rw [hU], by rw [hU]; exact hPc, va_K.moved hW.alike hK, hDc.weaken (fun _ _ _ _ => trivial), NW.moved hW hN⟩⟩ rfl hlen hl.1 hst (lv_room hrest) hd hcs) hS (fun q _ h => hFc q h) hFc (fun u x t H1 locs1 ht hvm hw2 hB hz1 hk1 hS1 => ?_)
  obtain ⟨hw3, hP1, hK1, hD1⟩ := hB
  subst hw3
  rw [ht] at hP1
  obtain ⟨hP2, hD2⟩ := va_join (wr := wr) (w1 := wc2) hP hD isC isR hsC hsR hnR hdis hk1 hFc hP1 hD1
  exact kk H1 locs1 ls (hP2.subM isF hsF) (hD2.sub isF hnF hsF) hS1 hl
theorem z_callVN_I (hC : Cx K cc own Ts tys) {R0 : Room} (hR0 : Rm K R0) {D0 : va_G} (hD0 : Dis K D0) {l0 : Launch} (hl0 : Lis K l0) {y : MethodName} {wy wy' : List Cond} {rm : Room} {index maxL na : Nat} {bytes : ByteArray} {ret : Option FieldType} {As : List Value} {wc wc2 : va_W} {r : Int32} {C : String} {T : u_T} {NF ci a : Nat} (q0 : Nat) {fs : List Value} (hq0 : wc[q0]? = some (a, .inr (ci, fs))) (hcl : vwCl[ci]? = some (C, T, NF)) (hG : GoodIn Ts wy) (hnw : (own, index, y) ∈ nwM) (hini : Cond.initialized y.cls ∈ Ts) (hins : Cond.instanceMethod y ∈ Ts) (hsel : Cond.selects C y y ∈ Ts) (hy0 : y.cls ≠ "java/lang/invoke/MethodHandle" ∧ y.cls ≠ "java/lang/invoke/VarHandle") (hw : wy = Cond.code y bytes maxL ret :: wy') (hroom : rm.frames + 1 ≤ R0.frames ∧ 8 + (maxL + 11) + rm.locals ≤ R0.locals) (hcs : n + rm.cells ≤ R0.cells ∧ k + rm.slots ≤ R0.slots) (hlen : As.length = na) (hrest : (rest.map fun v => v.category).sum ≤ 8) (hpd : (parseMethodDescriptor y.desc).map (fun d => d.parameters.length) = some na) (hM : MI l0 y wy rm D0 tys (.ref a :: As) wc wc2 r) (isC isR isF : List Nat) (wr : va_W) (hsC : isC.map (fun i => ws[i]?) = wc.map some) (hnC : va_nd isC = true) (hsR : isR.map (fun i => ws[i]?) = wr.map some) (hnR : va_nd isR = true) (hdis : ∀ i ∈ isR, i ∉ isC) (ws' : va_W) (hsF : isF.map (fun i => (wr ++ wc2)[i]?) = ws'.map some) (hnF : va_nd isF = true) {st : List Value} (hst : st = As.reverse ++ .ref a :: rest) (hd : decode cc pc = .ok (.invokevirtual index, 3)) (kk : Z K (n + rm.cells) (k + rm.slots) ws' lv (pc + 3) (.int r :: rest)) : Z K n k ws lv pc st := by
  obtain ⟨p, l, e, R, s, m, args, below, meth, c, nL, D, A, Q⟩ := K
  obtain ⟨hx, hb, hml, hown, hts, hK, hA, hN, hlk⟩ := hC
  intro H locs ls hP hD hS hl
  have hR0 : R = R0 := hR0
  have hD0 : D = D0 := hD0
  have hl0 : l = l0 := hl0
  subst hR0
  subst hD0
  subst hl0
  have hPc := hP.subM isC hsC
  have hDc := hD.sub isC hnC hsC
  have hFc := va_free (wc := wc) hD hS hA isC hsC
  refine va_calli (va_runVN (C := C) (host := RX3) (As := As) (rest := rest) ⟨hx, hb, hml, hown, hts⟩ (hM H.size) ⟨va_cnB na hts hG hw rfl rfl (hN.m hnw) (hts _ hini) ⟨hy0.1, hy0.2, hpd⟩ hroom, hts _ hins, hts _ hsel⟩ ⟨Pw.blind, va_recv hK hPc hcl hq0, fun U hU hW => ⟨rfl, by rw [hU], by rw [hU]; exact hPc, va_K.moved hW.alike hK, hDc.weaken (fun _ _ _ _ => trivial), NW.moved hW hN⟩⟩ rfl hlen hl.1 hst (lv_room hrest) hd hcs) hS (fun q _ h => hFc q h) hFc (fun x u t H1 locs1 ht hvm hw2 hB hz1 hk1 hS1 => ?_)
  obtain ⟨hP1, hK1, hD1⟩ := hB
  have hw3 : x = r := hw2
  subst hw3
  rw [ht] at hP1
  obtain ⟨hP2, hD2⟩ := va_join (wr := wr) (w1 := wc2) hP hD isC isR hsC hsR hnR hdis hk1 hFc hP1 hD1
  exact kk H1 locs1 ls (hP2.subM isF hsF) (hD2.sub isF hnF hsF) hS1 hl
theorem z_callVN_V (hC : Cx K cc own Ts tys) {R0 : Room} (hR0 : Rm K R0) {D0 : va_G} (hD0 : Dis K D0) {l0 : Launch} (hl0 : Lis K l0) {y : MethodName} {wy wy' : List Cond} {rm : Room} {index maxL na : Nat} {bytes : ByteArray} {ret : Option FieldType} {As : List Value} {wc wc2 : va_W} {C : String} {T : u_T} {NF ci a : Nat} (q0 : Nat) {fs : List Value} (hq0 : wc[q0]? = some (a, .inr (ci, fs))) (hcl : vwCl[ci]? = some (C, T, NF)) (hG : GoodIn Ts wy) (hnw : (own, index, y) ∈ nwM) (hini : Cond.initialized y.cls ∈ Ts) (hins : Cond.instanceMethod y ∈ Ts) (hsel : Cond.selects C y y ∈ Ts) (hy0 : y.cls ≠ "java/lang/invoke/MethodHandle" ∧ y.cls ≠ "java/lang/invoke/VarHandle") (hw : wy = Cond.code y bytes maxL ret :: wy') (hroom : rm.frames + 1 ≤ R0.frames ∧ 8 + (maxL + 11) + rm.locals ≤ R0.locals) (hcs : n + rm.cells ≤ R0.cells ∧ k + rm.slots ≤ R0.slots) (hlen : As.length = na) (hrest : (rest.map fun v => v.category).sum ≤ 8) (hpd : (parseMethodDescriptor y.desc).map (fun d => d.parameters.length) = some na) (hM : MV l0 y wy rm D0 tys (.ref a :: As) wc wc2 ) (isC isR isF : List Nat) (wr : va_W) (hsC : isC.map (fun i => ws[i]?) = wc.map some) (hnC : va_nd isC = true) (hsR : isR.map (fun i => ws[i]?) = wr.map some) (hnR : va_nd isR = true) (hdis : ∀ i ∈ isR, i ∉ isC) (ws' : va_W) (hsF : isF.map (fun i => (wr ++ wc2)[i]?) = ws'.map some) (hnF : va_nd isF = true) {st : List Value} (hst : st = As.reverse ++ .ref a :: rest) (hd : decode cc pc = .ok (.invokevirtual index, 3)) (kk : Z K (n + rm.cells) (k + rm.slots) ws' lv (pc + 3) (rest)) : Z K n k ws lv pc st := by
  obtain ⟨p, l, e, R, s, m, args, below, meth, c, nL, D, A, Q⟩ := K
  obtain ⟨hx, hb, hml, hown, hts, hK, hA, hN, hlk⟩ := hC
  intro H locs ls hP hD hS hl
  have hR0 : R = R0 := hR0
  have hD0 : D = D0 := hD0
  have hl0 : l = l0 := hl0
  subst hR0
  subst hD0
  subst hl0
  have hPc := hP.subM isC hsC
  have hDc := hD.sub isC hnC hsC
  have hFc := va_free (wc := wc) hD hS hA isC hsC
  refine va_callv (va_runVN (C := C) (host := RX3) (As := As) (rest := rest) ⟨hx, hb, hml, hown, hts⟩ (hM H.size) ⟨va_cnB na hts hG hw rfl rfl (hN.m hnw) (hts _ hini) ⟨hy0.1, hy0.2, hpd⟩ hroom, hts _ hins, hts _ hsel⟩ ⟨Pw.blind, va_recv hK hPc hcl hq0, fun U hU hW => ⟨rfl, by rw [hU], by rw [hU]; exact hPc, va_K.moved hW.alike hK, hDc.weaken (fun _ _ _ _ => trivial), NW.moved hW hN⟩⟩ rfl hlen hl.1 hst (lv_room hrest) hd hcs) hS (fun q _ h => hFc q h) hFc (fun u t H1 locs1 ht hvm hw2 hB hz1 hk1 hS1 => ?_)
  obtain ⟨hP1, hK1, hD1⟩ := hB
  rw [ht] at hP1
  obtain ⟨hP2, hD2⟩ := va_join (wr := wr) (w1 := wc2) hP hD isC isR hsC hsR hnR hdis hk1 hFc hP1 hD1
  exact kk H1 locs1 ls (hP2.subM isF hsF) (hD2.sub isF hnF hsF) hS1 hl
theorem z_callS_I (hC : Cx K cc own Ts tys) {R0 : Room} (hR0 : Rm K R0) {D0 : va_G} (hD0 : Dis K D0) {l0 : Launch} (hl0 : Lis K l0) {y : MethodName} {wy wy' : List Cond} {rm : Room} {index maxL na : Nat} {bytes : ByteArray} {ret : Option FieldType} {As : List Value} {wc wc2 : va_W} {r : Int32} (hG : GoodIn Ts (va_wsS own index y wy)) (hy0 : y.cls ≠ "java/lang/invoke/MethodHandle" ∧ y.cls ≠ "java/lang/invoke/VarHandle") (hw : wy = Cond.code y bytes maxL ret :: wy') (hroom : rm.frames + 1 ≤ R0.frames ∧ 8 + (maxL + 11) + rm.locals ≤ R0.locals) (hcs : n + rm.cells ≤ R0.cells ∧ k + rm.slots ≤ R0.slots) (hlen : As.length = na) (hrest : (rest.map fun v => v.category).sum ≤ 8) (hpd : (parseMethodDescriptor y.desc).map (fun d => d.parameters.length) = some na) (hM : MI l0 y wy rm D0 tys (As) wc wc2 r) (isC isR isF : List Nat) (wr : va_W) (hsC : isC.map (fun i => ws[i]?) = wc.map some) (hnC : va_nd isC = true) (hsR : isR.map (fun i => ws[i]?) = wr.map some) (hnR : va_nd isR = true) (hdis : ∀ i ∈ isR, i ∉ isC) (ws' : va_W) (hsF : isF.map (fun i => (wr ++ wc2)[i]?) = ws'.map some) (hnF : va_nd isF = true) {st : List Value} (hst : st = As.reverse ++ rest) (hd : decode cc pc = .ok (.invokestatic index, 3)) (kk : Z K (n + rm.cells) (k + rm.slots) ws' lv (pc + 3) (.int r :: rest)) : Z K n k ws lv pc st := by
  obtain ⟨p, l, e, R, s, m, args, below, meth, c, nL, D, A, Q⟩ := K
  obtain ⟨hx, hb, hml, hown, hts, hK, hA, hN, hlk⟩ := hC
  intro H locs ls hP hD hS hl
  have hR0 : R = R0 := hR0
  have hD0 : D = D0 := hD0
  have hl0 : l = l0 := hl0
  subst hR0
  subst hD0
  subst hl0
  have hPc := hP.subM isC hsC
  have hDc := hD.sub isC hnC hsC
  have hFc := va_free (wc := wc) hD hS hA isC hsC
  refine va_calli (va_runS (As := As) (rest := rest) ⟨hx, hb, hml, hown, hts⟩ (hM H.size) (va_cwS na hts hG hw rfl rfl ⟨hy0.1, hy0.2, hpd⟩ hroom) ⟨Pw.blind, fun U hU hW => ⟨rfl, by rw [hU], by rw [hU]; exact hPc, va_K.moved hW.alike hK, hDc.weaken (fun _ _ _ _ => trivial), NW.moved hW hN⟩⟩ rfl hlen hl.1 hst (lv_room hrest) hd hcs) hS (fun q _ h => hFc q h) hFc (fun x u t H1 locs1 ht hvm hw2 hB hz1 hk1 hS1 => ?_)
  obtain ⟨hP1, hK1, hD1⟩ := hB
  have hw3 : x = r := hw2
  subst hw3
  rw [ht] at hP1
  obtain ⟨hP2, hD2⟩ := va_join (wr := wr) (w1 := wc2) hP hD isC isR hsC hsR hnR hdis hk1 hFc hP1 hD1
  exact kk H1 locs1 ls (hP2.subM isF hsF) (hD2.sub isF hnF hsF) hS1 hl
theorem z_callS_V (hC : Cx K cc own Ts tys) {R0 : Room} (hR0 : Rm K R0) {D0 : va_G} (hD0 : Dis K D0) {l0 : Launch} (hl0 : Lis K l0) {y : MethodName} {wy wy' : List Cond} {rm : Room} {index maxL na : Nat} {bytes : ByteArray} {ret : Option FieldType} {As : List Value} {wc wc2 : va_W} (hG : GoodIn Ts (va_wsS own index y wy)) (hy0 : y.cls ≠ "java/lang/invoke/MethodHandle" ∧ y.cls ≠ "java/lang/invoke/VarHandle") (hw : wy = Cond.code y bytes maxL ret :: wy') (hroom : rm.frames + 1 ≤ R0.frames ∧ 8 + (maxL + 11) + rm.locals ≤ R0.locals) (hcs : n + rm.cells ≤ R0.cells ∧ k + rm.slots ≤ R0.slots) (hlen : As.length = na) (hrest : (rest.map fun v => v.category).sum ≤ 8) (hpd : (parseMethodDescriptor y.desc).map (fun d => d.parameters.length) = some na) (hM : MV l0 y wy rm D0 tys (As) wc wc2 ) (isC isR isF : List Nat) (wr : va_W) (hsC : isC.map (fun i => ws[i]?) = wc.map some) (hnC : va_nd isC = true) (hsR : isR.map (fun i => ws[i]?) = wr.map some) (hnR : va_nd isR = true) (hdis : ∀ i ∈ isR, i ∉ isC) (ws' : va_W) (hsF : isF.map (fun i => (wr ++ wc2)[i]?) = ws'.map some) (hnF : va_nd isF = true) {st : List Value} (hst : st = As.reverse ++ rest) (hd : decode cc pc = .ok (.invokestatic index, 3)) (kk : Z K (n + rm.cells) (k + rm.slots) ws' lv (pc + 3) (rest)) : Z K n k ws lv pc st := by
  obtain ⟨p, l, e, R, s, m, args, below, meth, c, nL, D, A, Q⟩ := K
  obtain ⟨hx, hb, hml, hown, hts, hK, hA, hN, hlk⟩ := hC
  intro H locs ls hP hD hS hl
  have hR0 : R = R0 := hR0
  have hD0 : D = D0 := hD0
  have hl0 : l = l0 := hl0
  subst hR0
  subst hD0
  subst hl0
  have hPc := hP.subM isC hsC
  have hDc := hD.sub isC hnC hsC
  have hFc := va_free (wc := wc) hD hS hA isC hsC
  refine va_callv (va_runS (As := As) (rest := rest) ⟨hx, hb, hml, hown, hts⟩ (hM H.size) (va_cwS na hts hG hw rfl rfl ⟨hy0.1, hy0.2, hpd⟩ hroom) ⟨Pw.blind, fun U hU hW => ⟨rfl, by rw [hU], by rw [hU]; exact hPc, va_K.moved hW.alike hK, hDc.weaken (fun _ _ _ _ => trivial), NW.moved hW hN⟩⟩ rfl hlen hl.1 hst (lv_room hrest) hd hcs) hS (fun q _ h => hFc q h) hFc (fun u t H1 locs1 ht hvm hw2 hB hz1 hk1 hS1 => ?_)
  obtain ⟨hP1, hK1, hD1⟩ := hB
  rw [ht] at hP1
  obtain ⟨hP2, hD2⟩ := va_join (wr := wr) (w1 := wc2) hP hD isC isR hsC hsR hnR hdis hk1 hFc hP1 hD1
  exact kk H1 locs1 ls (hP2.subM isF hsF) (hD2.sub isF hnF hsF) hS1 hl
theorem z_callSN_I (hC : Cx K cc own Ts tys) {R0 : Room} (hR0 : Rm K R0) {D0 : va_G} (hD0 : Dis K D0) {l0 : Launch} (hl0 : Lis K l0) {y : MethodName} {wy wy' : List Cond} {rm : Room} {index maxL na : Nat} {bytes : ByteArray} {ret : Option FieldType} {As : List Value} {wc wc2 : va_W} {r : Int32} (hG : GoodIn Ts wy) (hnw : (own, index, y) ∈ nwM) (hini : Cond.initialized y.cls ∈ Ts) (hsta : Cond.static y ∈ Ts) (hy0 : y.cls ≠ "java/lang/invoke/MethodHandle" ∧ y.cls ≠ "java/lang/invoke/VarHandle") (hw : wy = Cond.code y bytes maxL ret :: wy') (hroom : rm.frames + 1 ≤ R0.frames ∧ 8 + (maxL + 11) + rm.locals ≤ R0.locals) (hcs : n + rm.cells ≤ R0.cells ∧ k + rm.slots ≤ R0.slots) (hlen : As.length = na) (hrest : (rest.map fun v => v.category).sum ≤ 8) (hpd : (parseMethodDescriptor y.desc).map (fun d => d.parameters.length) = some na) (hM : MI l0 y wy rm D0 tys (As) wc wc2 r) (isC isR isF : List Nat) (wr : va_W) (hsC : isC.map (fun i => ws[i]?) = wc.map some) (hnC : va_nd isC = true) (hsR : isR.map (fun i => ws[i]?) = wr.map some) (hnR : va_nd isR = true) (hdis : ∀ i ∈ isR, i ∉ isC) (ws' : va_W) (hsF : isF.map (fun i => (wr ++ wc2)[i]?) = ws'.map some) (hnF : va_nd isF = true) {st : List Value} (hst : st = As.reverse ++ rest) (hd : decode cc pc = .ok (.invokestatic index, 3)) (kk : Z K (n + rm.cells) (k + rm.slots) ws' lv (pc + 3) (.int r :: rest)) : Z K n k ws lv pc st := by
  obtain ⟨p, l, e, R, s, m, args, below, meth, c, nL, D, A, Q⟩ := K
  obtain ⟨hx, hb, hml, hown, hts, hK, hA, hN, hlk⟩ := hC
  intro H locs ls hP hD hS hl
  have hR0 : R = R0 := hR0
  have hD0 : D = D0 := hD0
  have hl0 : l = l0 := hl0
  subst hR0
  subst hD0
  subst hl0
  have hPc := hP.subM isC hsC
  have hDc := hD.sub isC hnC hsC
  have hFc := va_free (wc := wc) hD hS hA isC hsC
  refine va_calli (va_runSN (host := RX3) (As := As) (rest := rest) ⟨hx, hb, hml, hown, hts⟩ (hM H.size) ⟨va_cnB na hts hG hw rfl rfl (hN.m hnw) (hts _ hini) ⟨hy0.1, hy0.2, hpd⟩ hroom, hts _ hsta, trivial⟩ ⟨Pw.blind, fun U hU hW => ⟨rfl, by rw [hU], by rw [hU]; exact hPc, va_K.moved hW.alike hK, hDc.weaken (fun _ _ _ _ => trivial), NW.moved hW hN⟩⟩ rfl hlen hl.1 hst (lv_room hrest) hd hcs) hS (fun q _ h => hFc q h) hFc (fun x u t H1 locs1 ht hvm hw2 hB hz1 hk1 hS1 => ?_)
  obtain ⟨hP1, hK1, hD1⟩ := hB
  have hw3 : x = r := hw2
  subst hw3
  rw [ht] at hP1
  obtain ⟨hP2, hD2⟩ := va_join (wr := wr) (w1 := wc2) hP hD isC isR hsC hsR hnR hdis hk1 hFc hP1 hD1
  exact kk H1 locs1 ls (hP2.subM isF hsF) (hD2.sub isF hnF hsF) hS1 hl
theorem z_callI_V (hC : Cx K cc own Ts tys) {R0 : Room} (hR0 : Rm K R0) {D0 : va_G} (hD0 : Dis K D0) {l0 : Launch} (hl0 : Lis K l0) {y : MethodName} {wy wy' : List Cond} {rm : Room} {index maxL na : Nat} {bytes : ByteArray} {ret : Option FieldType} {As : List Value} {wc wc2 : va_W} {a : Nat} (hG : GoodIn Ts wy) (hini : Cond.initialized y.cls ∈ Ts) (hlk0 : Cond.methodLink own index y ∈ Ts) (hins : Cond.instanceMethod y ∈ Ts) (hy1 : y.name = "<init>") (hret : ret = none) (hy0 : y.cls ≠ "java/lang/invoke/MethodHandle" ∧ y.cls ≠ "java/lang/invoke/VarHandle") (hw : wy = Cond.code y bytes maxL ret :: wy') (hroom : rm.frames + 1 ≤ R0.frames ∧ 8 + (maxL + 11) + rm.locals ≤ R0.locals) (hcs : n + rm.cells ≤ R0.cells ∧ k + rm.slots ≤ R0.slots) (hlen : As.length = na) (hrest : (rest.map fun v => v.category).sum ≤ 8) (hpd : (parseMethodDescriptor y.desc).map (fun d => d.parameters.length) = some na) (hM : MV l0 y wy rm D0 tys (.ref a :: As) wc wc2 ) (isC isR isF : List Nat) (wr : va_W) (hsC : isC.map (fun i => ws[i]?) = wc.map some) (hnC : va_nd isC = true) (hsR : isR.map (fun i => ws[i]?) = wr.map some) (hnR : va_nd isR = true) (hdis : ∀ i ∈ isR, i ∉ isC) (ws' : va_W) (hsF : isF.map (fun i => (wr ++ wc2)[i]?) = ws'.map some) (hnF : va_nd isF = true) {st : List Value} (hst : st = As.reverse ++ .ref a :: rest) (hd : decode cc pc = .ok (.invokespecial index, 3)) (kk : Z K (n + rm.cells) (k + rm.slots) ws' lv (pc + 3) (rest)) : Z K n k ws lv pc st := by
  obtain ⟨p, l, e, R, s, m, args, below, meth, c, nL, D, A, Q⟩ := K
  obtain ⟨hx, hb, hml, hown, hts, hK, hA, hN, hlk⟩ := hC
  intro H locs ls hP hD hS hl
  have hR0 : R = R0 := hR0
  have hD0 : D = D0 := hD0
  have hl0 : l = l0 := hl0
  subst hR0
  subst hD0
  subst hl0
  have hPc := hP.subM isC hsC
  have hDc := hD.sub isC hnC hsC
  have hFc := va_free (wc := wc) hD hS hA isC hsC
  subst hret
  refine va_callv (va_runI (As := As) (rest := rest) ⟨hx, hb, hml, hown, hts⟩ (hM H.size) (cwI na hts hG hw rfl rfl (hts _ hini) (hts _ hlk0) (hts _ hins) hy1 ⟨hy0.1, hy0.2, hpd⟩ hroom) ⟨Pw.blind, fun U hU hW => ⟨rfl, by rw [hU], by rw [hU]; exact hPc, va_K.moved hW.alike hK, hDc.weaken (fun _ _ _ _ => trivial), NW.moved hW hN⟩⟩ rfl hlen hl.1 hst (lv_room hrest) hd hcs) hS (fun q _ h => hFc q h) hFc (fun u t H1 locs1 ht hvm hw2 hB hz1 hk1 hS1 => ?_)
  obtain ⟨hP1, hK1, hD1⟩ := hB
  rw [ht] at hP1
  obtain ⟨hP2, hD2⟩ := va_join (wr := wr) (w1 := wc2) hP hD isC isR hsC hsR hnR hdis hk1 hFc hP1 hD1
  exact kk H1 locs1 ls (hP2.subM isF hsF) (hD2.sub isF hnF hsF) hS1 hl
theorem z_callIN_V (hC : Cx K cc own Ts tys) {R0 : Room} (hR0 : Rm K R0) {D0 : va_G} (hD0 : Dis K D0) {l0 : Launch} (hl0 : Lis K l0) {y : MethodName} {wy wy' : List Cond} {rm : Room} {index maxL na : Nat} {bytes : ByteArray} {ret : Option FieldType} {As : List Value} {wc wc2 : va_W} {a : Nat} (hG : GoodIn Ts wy) (hnw : (own, index, y) ∈ nwM) (hini : Cond.initialized y.cls ∈ Ts) (hins : Cond.instanceMethod y ∈ Ts) (hy1 : y.name = "<init>") (hret : ret = none) (hy0 : y.cls ≠ "java/lang/invoke/MethodHandle" ∧ y.cls ≠ "java/lang/invoke/VarHandle") (hw : wy = Cond.code y bytes maxL ret :: wy') (hroom : rm.frames + 1 ≤ R0.frames ∧ 8 + (maxL + 11) + rm.locals ≤ R0.locals) (hcs : n + rm.cells ≤ R0.cells ∧ k + rm.slots ≤ R0.slots) (hlen : As.length = na) (hrest : (rest.map fun v => v.category).sum ≤ 8) (hpd : (parseMethodDescriptor y.desc).map (fun d => d.parameters.length) = some na) (hM : MV l0 y wy rm D0 tys (.ref a :: As) wc wc2 ) (isC isR isF : List Nat) (wr : va_W) (hsC : isC.map (fun i => ws[i]?) = wc.map some) (hnC : va_nd isC = true) (hsR : isR.map (fun i => ws[i]?) = wr.map some) (hnR : va_nd isR = true) (hdis : ∀ i ∈ isR, i ∉ isC) (ws' : va_W) (hsF : isF.map (fun i => (wr ++ wc2)[i]?) = ws'.map some) (hnF : va_nd isF = true) {st : List Value} (hst : st = As.reverse ++ .ref a :: rest) (hd : decode cc pc = .ok (.invokespecial index, 3)) (kk : Z K (n + rm.cells) (k + rm.slots) ws' lv (pc + 3) (rest)) : Z K n k ws lv pc st := by
  obtain ⟨p, l, e, R, s, m, args, below, meth, c, nL, D, A, Q⟩ := K
  obtain ⟨hx, hb, hml, hown, hts, hK, hA, hN, hlk⟩ := hC
  intro H locs ls hP hD hS hl
  have hR0 : R = R0 := hR0
  have hD0 : D = D0 := hD0
  have hl0 : l = l0 := hl0
  subst hR0
  subst hD0
  subst hl0
  have hPc := hP.subM isC hsC
  have hDc := hD.sub isC hnC hsC
  have hFc := va_free (wc := wc) hD hS hA isC hsC
  subst hret
  refine va_callv (va_runIN (host := RX3) (As := As) (rest := rest) ⟨hx, hb, hml, hown, hts⟩ (hM H.size) ⟨va_cnB na hts hG hw rfl rfl (hN.m hnw) (hts _ hini) ⟨hy0.1, hy0.2, hpd⟩ hroom, hy1, hts _ hins⟩ ⟨Pw.blind, fun U hU hW => ⟨rfl, by rw [hU], by rw [hU]; exact hPc, va_K.moved hW.alike hK, hDc.weaken (fun _ _ _ _ => trivial), NW.moved hW hN⟩⟩ rfl hlen hl.1 hst (lv_room hrest) hd hcs) hS (fun q _ h => hFc q h) hFc (fun u t H1 locs1 ht hvm hw2 hB hz1 hk1 hS1 => ?_)
  obtain ⟨hP1, hK1, hD1⟩ := hB
  rw [ht] at hP1
  obtain ⟨hP2, hD2⟩ := va_join (wr := wr) (w1 := wc2) hP hD isC isR hsC hsR hnR hdis hk1 hFc hP1 hD1
  exact kk H1 locs1 ls (hP2.subM isF hsF) (hD2.sub isF hnF hsF) hS1 hl
theorem z_objInit (hC : Cx K cc own Ts tys) {R0 : Room} (hR0 : Rm K R0) {N : Nat} (hN0 : NLis K N) {index a : Nat} (h1 : Cond.methodLink own index objectInit ∈ Ts) (h2 : Cond.instanceMethod objectInit ∈ Ts) (h3 : Cond.code objectInit ⟨#[0xb1]⟩ 1 none ∈ Ts) (hf : 1 ≤ R0.frames) (hlo : (rest.map fun v => v.category).sum + 12 ≤ R0.locals) (hd : decode cc pc = .ok (.invokespecial index, 3)) (kk : Z K n k ws lv (pc + 3) rest) : Z K n k ws lv pc (.ref a :: rest) := by
  obtain ⟨p, l, e, R, s, m, args, below, meth, c, nL, D, A, Q⟩ := K
  obtain ⟨hx, hb, hml, hown, hts, hK, hA, hN, hlk⟩ := hC
  intro H locs ls hP hD hS hl
  have hR0 : R = R0 := hR0
  subst hR0
  refine W.objInit hx hb hown (hts _ h1) (hts _ h2) (hts _ h3) rfl (by rw [hml]; exact hl.1) rfl hd hf (by show 2 * 0 + _ + 12 ≤ _; omega) ?_
  exact W.eq (g2 := F0 m (pc + 3) ls rest) rfl (kk H locs ls hP hD hS hl)
theorem z_new (hC : Cx K cc own Ts tys) {R0 : Room} (hR0 : Rm K R0) {C : String} {T : u_T} {N ci index : Nat} (hin : ∀ w ∈ u_ws C T N, w ∈ Ts) (ty : Nat → FieldType) (hty : ∀ k, k < N → parseFieldDescriptor (T k).2.2.1 = some (ty k)) (hcl : Cond.classLink own index C ∈ Ts) (hinst : Cond.instantiable C N ∈ Ts) (hini : Cond.initialized C ∈ Ts) (hc : vwCl[ci]? = some (C, T, N)) {fs : List Value} (hfs : ∀ j, j < N → defaultValue (ty j) = vp_V fs j) (hcells : n + 1 ≤ R0.cells) (hslots : k + N ≤ R0.slots) (hd : decode cc pc = .ok (.new index, 3)) (kk : ∀ q : Nat, Z K (n + 1) (k + N) (ws ++ [(q, .inr (ci, fs))]) lv (pc + 3) (.ref q :: rest)) : Z K n k ws lv pc rest := by
  obtain ⟨p, l, e, R, s, m, args, below, meth, c, nL, D, A, Q⟩ := K
  obtain ⟨hx, hb, hml, hown, hts, hK, hA, hN, hlk⟩ := hC
  intro H locs ls hP hD hS hl
  have hR0 : R = R0 := hR0
  subst hR0
  exact va_new hx hb hts hin ty hty hown (hts _ hcl) (hts _ hinst) (hts _ hini) hK hP hD hS hA hc hfs hcells hslots hd (fun q H1 hP1 hD1 hS1 => kk q H1 locs ls hP1 hD1 hS1 hl)
theorem z_newa (hC : Cx K cc own Ts tys) {R0 : Room} (hR0 : Rm K R0) {atype : ArrayType} {ty : FieldType} (harr : Cond.arrayClass (newarray.typeOf atype) ∈ Ts) (hty : newarray.typeOf atype = ty) (hprim : ∀ C, ty ≠ .object C) (t0 : Nat) {cA : ClassId} (ht : tys[t0]? = some (cA, ty)) {N : Nat} {a0 : vp_A} (ha : ∀ cA : ClassId, vp_cell cA a0 = arrV cA N (fun _ => defaultValue ty)) (hN9 : N < 2 ^ 31) (hbytes : N * componentBytes ty ≤ 536870912) (hcells : n + 1 ≤ R0.cells) (hslots : k + N ≤ R0.slots) (hd : decode cc pc = .ok (.newarray atype, 2)) (kk : ∀ q : Nat, Z K (n + 1) (k + N) (ws ++ [(q, .inl (cA, a0))]) lv (pc + 2) (.ref q :: rest)) : Z K n k ws lv pc (.int (nI N) :: rest) := by
  obtain ⟨p, l, e, R, s, m, args, below, meth, c, nL, D, A, Q⟩ := K
  obtain ⟨hx, hb, hml, hown, hts, hK, hA, hN, hlk⟩ := hC
  intro H locs ls hP hD hS hl
  have hR0 : R = R0 := hR0
  subst hR0
  refine va_newa hx hb (hts _ harr) hty hK hP hD hS hA ha (nI_pos hN9) (nI_clamp hN9) hbytes hcells hslots hd (fun q cB H1 hK1 hP1 hD1 hS1 => ?_)
  have e1 := (hK.2 t0 _ ht).2
  have e2 := (hK1.2 tys.length (cB, ty) (by simp)).2
  have e3 : cB = cA := by
    cases ty with
    | object C => exact absurd rfl (hprim C)
    | _ => exact Option.some.inj (e2.symm.trans e1)
  subst e3
  exact kk q H1 locs ls hP1 hD1 hS1 hl
theorem z_copyi (hC : Cx K cc own Ts tys) {R0 : Room} (hR0 : Rm K R0) {index : Nat} (h1 : Cond.methodLink own index arraycopyName ∈ Ts) (h2 : Cond.native arraycopyName ∈ Ts) (h3 : Cond.static arraycopyName ∈ Ts) (h4 : Cond.initialized "java/lang/System" ∈ Ts) (q0 q1 t0 t1 : Nat) {a a0 : Nat} {c0 c1 : ClassId} {n0 n1 : Nat} {f g : Nat → Int32} (ha0 : ws[q0]? = some (a0, .inl (c0, n0, .inl f))) (ha1 : ws[q1]? = some (a, .inl (c1, n1, .inl g))) (ht0 : tys[t0]? = some (c0, .int)) (ht1 : tys[t1]? = some (c1, .int)) {sp dp N : Nat} (hs : sp + N ≤ n0) (hdp : dp + N ≤ n1) (hn0 : n0 < 2 ^ 31) (hn1 : n1 < 2 ^ 31) (hf : 1 ≤ R0.frames) (hlo : (rest.map fun v => v.category).sum + (nativeFrameWords "java/lang/System" "arraycopy" 5 + 11) ≤ R0.locals) (ws' : va_W) (hw : ws.set q1 (a, .inl (c1, n1, .inl (va_cpy f g sp dp N))) = ws') (hd : decode cc pc = .ok (.invokestatic index, 3)) (kk : Z K n k ws' lv (pc + 3) rest) : Z K n k ws lv pc (.int (nI N) :: .int (nI dp) :: .ref a :: .int (nI sp) :: .ref a0 :: rest) := by
  obtain ⟨p, l, e, R, s, m, args, below, meth, c, nL, D, A, Q⟩ := K
  obtain ⟨hx, hb, hml, hown, hts, hK, hA, hN, hlk⟩ := hC
  intro H locs ls hP hD hS hl
  have hR0 : R = R0 := hR0
  subst hR0
  subst hw
  have b1 : sp < 2 ^ 31 := by omega
  have b2 : dp < 2 ^ 31 := by omega
  have b3 : N < 2 ^ 31 := by omega
  refine va_copyi hx hb (by rw [hml]; exact hl.1.symm) hown (hts _ h1) (hts _ h2) (hts _ h3) (hts _ h4) hK hP hD hS q0 q1 t0 t1 ha0 ha1 ht0 ht1 rfl (nI_pos b1) (nI_pos b2) (nI_pos b3) (by rw [nI_clamp b1, nI_clamp b3]; exact hs) (by rw [nI_clamp b2, nI_clamp b3]; exact hdp) (fun _ _ => rfl) hf hlo hd ?_
  rw [nI_clamp b1, nI_clamp b2, nI_clamp b3]
  exact fun H1 locs1 hP1 hD1 hS1 => kk H1 locs1 ls hP1 hD1 hS1 hl
theorem z_widen {n' k' : Nat} {st : List Value} (h1 : n ≤ n') (h2 : k ≤ k') (kk : Z K n' k' ws lv pc st) : Z K n k ws lv pc st := by
  obtain ⟨p, l, e, R, s, m, args, below, meth, c, nL, D, A, Q⟩ := K
  intro H locs ls hP hD hS hl
  exact W.widen h1 h2 (kk H locs ls hP hD hS hl)
theorem z_lv {lv' : List (Nat × Value)} {st : List Value} (ks : List Nat) (h : lv_pick lv ks = lv') (kk : Z K n k ws lv' pc st) : Z K n k ws lv pc st := by
  obtain ⟨p, l, e, R, s, m, args, below, meth, c, nL, D, A, Q⟩ := K
  intro H locs ls hP hD hS hl
  exact kk H locs ls hP hD hS (lv_sub hl ks h)
theorem z_ws {ws' : va_W} {st : List Value} (is : List Nat) (hn : va_nd is = true) (h : is.map (fun i => ws[i]?) = ws'.map some) (kk : Z K n k ws' lv pc st) : Z K n k ws lv pc st := by
  obtain ⟨p, l, e, R, s, m, args, below, meth, c, nL, D, A, Q⟩ := K
  intro H locs ls hP hD hS hl
  exact kk H locs ls (hP.subM is h) (hD.sub is hn h) hS hl
end ZC
