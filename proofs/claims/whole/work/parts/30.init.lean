/-! constructors: the new cells' addresses come as a function u -/
def MX (l : Launch) (y : MethodName) (wy : List Cond) (rm : Room) (D : va_G) (tys : List (ClassId × FieldType)) (av : List Value) (w : va_W) (P : (Nat → Nat) → Prop) (w2 : (Nat → Nat) → va_W) : Prop := ∀ sz : Nat, Met l y wy rm (va_Pc av (Pw D tys w sz)) (va_Qv P (fun (u : Nat → Nat) (t : State) => Bw D tys (va_A w sz) (w2 u) () t) (va_A w sz)) rm.cells rm.slots (va_A w sz)
def RX (K : KT) (n k : Nat) (tys : List (ClassId × FieldType)) (P : (Nat → Nat) → Prop) (w2 : (Nat → Nat) → va_W) : Prop := match K with
  | (_, _, _, _, s, _, args, below, _, _, _, D, A, Q) => Q = MQ below (va_Qv P (fun (u : Nat → Nat) (t : State) => Bw D tys A (w2 u) () t) A) args s n k A
theorem metX_of {l : Launch} {y : MethodName} {wy wy' : List Cond} {rm : Room} {D : va_G} {tys : List (ClassId × FieldType)} {av : List Value} {w : va_W} {P : (Nat → Nat) → Prop} {w2 : (Nat → Nat) → va_W} {cc : ByteArray} {maxL : Nat} {ret : Option FieldType} (hy : plainName y.cls = true) (hw : wy = Cond.code y cc maxL ret :: wy') (hm : (lg_sl av).length ≤ maxL)
    (body : ∀ K : KT, Cx K cc y.cls wy tys → Rm K rm → NLis K maxL → Dis K D → Lis K l → RetT K ret → (y.name = "<init>" → IsInit K) → RX K rm.cells rm.slots tys P w2 → Z K 0 0 w (lv_args 0 av) 0 []) : MX l y wy rm D tys av w P w2 := by
  intro sz
  refine Met.ofW (cc := cc) (maxL := maxL) (ret := ret) hy hw ?_
  intro p e s m args below meth c s₁ B hml hv
  obtain ⟨rfl, hsz, hP, hK, hD0, hN⟩ := hv
  have hts := atoms_spec (ws := wy) B.pre
  have hown : s.vm.findClass y.cls = some m.cls := findClass_of_methodNamed B.named
  subst hsz
  have hD := hD0.self (sz := s.heap.size)
  have hA : ∀ q : Nat, s.heap.size ≤ q → va_A w s.heap.size q := fun q h => Or.inr h
  have hl := lv_entry av (n := maxL) hm
  rw [lg_entry_eq]
  exact body (p, l, e, (headSpec wy rm).room, s, m, av.toArray, below, meth, c, maxL, D, va_A w s.heap.size, _) ⟨B.exec, B.bytes, hml, hown, hts, hK, hA, hN, B.notSynchronized⟩ rfl rfl rfl rfl B.returns (fun h => (name_of_methodNamed B.named B.method).1.trans h) rfl s.heap [] _ hP hD va_S.rf hl
theorem z_vretX {K : KT} {cc : ByteArray} {own : String} {Ts : List Cond} {tys : List (ClassId × FieldType)} {n k : Nat} {ws : va_W} {lv : List (Nat × Value)} {pc : Nat} (hC : Cx K cc own Ts tys) {P : (Nat → Nat) → Prop} {w2 : (Nat → Nat) → va_W} (hQ : RX K n k tys P w2) (hr : RetT K none) (u : Nat → Nat) (hP0 : P u) (hw : ws = w2 u) (hd : decode cc pc = .ok (.return_, 1)) : Z K n k ws lv pc [] := by
  obtain ⟨p, l, e, R, s, m, args, below, meth, c, nL, D, A, Q⟩ := K
  obtain ⟨hx, hb, hml, hown, hts, hK, hA, hN, hlk⟩ := hC
  intro H locs ls hP hD hS hl
  subst hw
  have hQ := hQ
  dsimp only [RX] at hQ
  rw [hQ]
  exact W.vret hx hb hr (fun t ht hW => ⟨⟨u, rfl, hP0, by rw [ht]; exact hP, va_K.moved hW.alike hK, hD⟩, hS.F ht⟩) hS.2.2 hd hlk

section ZCXI
variable {K : KT} {cc : ByteArray} {own : String} {Ts : List Cond} {tys : List (ClassId × FieldType)} {n k : Nat} {ws : va_W} {lv : List (Nat × Value)} {pc : Nat} {rest : List Value}
theorem z_callI_X (hC : Cx K cc own Ts tys) {R0 : Room} (hR0 : Rm K R0) {D0 : va_G} (hD0 : Dis K D0) {l0 : Launch} (hl0 : Lis K l0) {y : MethodName} {wy wy' : List Cond} {rm : Room} {index maxL na : Nat} {bytes : ByteArray} {ret : Option FieldType} {As : List Value} {wc : va_W} {P : (Nat → Nat) → Prop} {w2 : (Nat → Nat) → va_W} {a : Nat} (hG : GoodIn Ts wy) (hini : Cond.initialized y.cls ∈ Ts) (hlk0 : Cond.methodLink own index y ∈ Ts) (hins : Cond.instanceMethod y ∈ Ts) (hy1 : y.name = "<init>") (hret : ret = none) (hy0 : y.cls ≠ "java/lang/invoke/MethodHandle" ∧ y.cls ≠ "java/lang/invoke/VarHandle") (hw : wy = Cond.code y bytes maxL ret :: wy') (hroom : rm.frames + 1 ≤ R0.frames ∧ 8 + (maxL + 11) + rm.locals ≤ R0.locals) (hcs : n + rm.cells ≤ R0.cells ∧ k + rm.slots ≤ R0.slots) (hlen : As.length = na) (hrest : (rest.map fun v => v.category).sum ≤ 8) (hpd : (parseMethodDescriptor y.desc).map (fun d => d.parameters.length) = some na) (hM : MX l0 y wy rm D0 tys (.ref a :: As) wc P w2) (isC isR isF : List Nat) (wr : va_W) (hsC : isC.map (fun i => ws[i]?) = wc.map some) (hnC : va_nd isC = true) (hsR : isR.map (fun i => ws[i]?) = wr.map some) (hnR : va_nd isR = true) (hdis : ∀ i ∈ isR, i ∉ isC) (ws' : (Nat → Nat) → va_W) (hsF : ∀ u, isF.map (fun i => (wr ++ w2 u)[i]?) = (ws' u).map some) (hnF : va_nd isF = true) {st : List Value} (hst : st = As.reverse ++ .ref a :: rest) (hd : decode cc pc = .ok (.invokespecial index, 3)) (kk : ∀ u : Nat → Nat, P u → Z K (n + rm.cells) (k + rm.slots) (ws' u) lv (pc + 3) rest) : Z K n k ws lv pc st := by
  obtain ⟨p, l, e, R, s, m, args, below, meth, c, nL, D, A, Q⟩ := K
  obtain ⟨hx, hb, hml, hown, hts, hK, hA, hN, hlk⟩ := hC
  intro H locs ls hP hD hS hl
  have hR0 : R = R0 := hR0
  have hD0 : D = D0 := hD0
  have hl0 : l = l0 := hl0
  subst hR0
  subst hD0
  subst hl0
  have hPc := hP.subM isC hsC
  have hDc := hD.sub isC hnC hsC
  have hFc := va_free (wc := wc) hD hS hA isC hsC
  subst hret
  refine va_callv (va_runI (As := As) (rest := rest) ⟨hx, hb, hml, hown, hts⟩ (hM H.size) (cwI na hts hG hw rfl rfl (hts _ hini) (hts _ hlk0) (hts _ hins) hy1 ⟨hy0.1, hy0.2, hpd⟩ hroom) ⟨Pw.blind, fun U hU hW => ⟨rfl, by rw [hU], by rw [hU]; exact hPc, va_K.moved hW.alike hK, hDc.weaken (fun _ _ _ _ => trivial), NW.moved hW hN⟩⟩ rfl hlen hl.1 hst (lv_room hrest) hd hcs) hS (fun q _ h => hFc q h) hFc (fun u t H1 locs1 ht hvm hw2 hB hz1 hk1 hS1 => ?_)
  obtain ⟨hP1, hK1, hD1⟩ := hB
  rw [ht] at hP1
  obtain ⟨hP2, hD2⟩ := va_join (wr := wr) (w1 := w2 u) hP hD isC isR hsC hsR hnR hdis hk1 hFc hP1 hD1
  exact kk u hw2 H1 locs1 ls (hP2.subM isF (hsF u)) (hD2.sub isF hnF (hsF u)) hS1 hl
end ZCXI

section ZCXIN
variable {K : KT} {cc : ByteArray} {own : String} {Ts : List Cond} {tys : List (ClassId × FieldType)} {n k : Nat} {ws : va_W} {lv : List (Nat × Value)} {pc : Nat} {rest : List Value}
theorem z_callIN_X (hC : Cx K cc own Ts tys) {R0 : Room} (hR0 : Rm K R0) {D0 : va_G} (hD0 : Dis K D0) {l0 : Launch} (hl0 : Lis K l0) {y : MethodName} {wy wy' : List Cond} {rm : Room} {index maxL na : Nat} {bytes : ByteArray} {ret : Option FieldType} {As : List Value} {wc : va_W} {P : (Nat → Nat) → Prop} {w2 : (Nat → Nat) → va_W} {a : Nat} (hG : GoodIn Ts wy) (hnw : (own, index, y) ∈ nwM) (hini : Cond.initialized y.cls ∈ Ts) (hins : Cond.instanceMethod y ∈ Ts) (hy1 : y.name = "<init>") (hret : ret = none) (hy0 : y.cls ≠ "java/lang/invoke/MethodHandle" ∧ y.cls ≠ "java/lang/invoke/VarHandle") (hw : wy = Cond.code y bytes maxL ret :: wy') (hroom : rm.frames + 1 ≤ R0.frames ∧ 8 + (maxL + 11) + rm.locals ≤ R0.locals) (hcs : n + rm.cells ≤ R0.cells ∧ k + rm.slots ≤ R0.slots) (hlen : As.length = na) (hrest : (rest.map fun v => v.category).sum ≤ 8) (hpd : (parseMethodDescriptor y.desc).map (fun d => d.parameters.length) = some na) (hM : MX l0 y wy rm D0 tys (.ref a :: As) wc P w2) (isC isR isF : List Nat) (wr : va_W) (hsC : isC.map (fun i => ws[i]?) = wc.map some) (hnC : va_nd isC = true) (hsR : isR.map (fun i => ws[i]?) = wr.map some) (hnR : va_nd isR = true) (hdis : ∀ i ∈ isR, i ∉ isC) (ws' : (Nat → Nat) → va_W) (hsF : ∀ u, isF.map (fun i => (wr ++ w2 u)[i]?) = (ws' u).map some) (hnF : va_nd isF = true) {st : List Value} (hst : st = As.reverse ++ .ref a :: rest) (hd : decode cc pc = .ok (.invokespecial index, 3)) (kk : ∀ u : Nat → Nat, P u → Z K (n + rm.cells) (k + rm.slots) (ws' u) lv (pc + 3) rest) : Z K n k ws lv pc st := by
  obtain ⟨p, l, e, R, s, m, args, below, meth, c, nL, D, A, Q⟩ := K
  obtain ⟨hx, hb, hml, hown, hts, hK, hA, hN, hlk⟩ := hC
  intro H locs ls hP hD hS hl
  have hR0 : R = R0 := hR0
  have hD0 : D = D0 := hD0
  have hl0 : l = l0 := hl0
  subst hR0
  subst hD0
  subst hl0
  have hPc := hP.subM isC hsC
  have hDc := hD.sub isC hnC hsC
  have hFc := va_free (wc := wc) hD hS hA isC hsC
  subst hret
  refine va_callv (va_runIN (host := RX3) (As := As) (rest := rest) ⟨hx, hb, hml, hown, hts⟩ (hM H.size) ⟨va_cnB na hts hG hw rfl rfl (hN.m hnw) (hts _ hini) ⟨hy0.1, hy0.2, hpd⟩ hroom, hy1, hts _ hins⟩ ⟨Pw.blind, fun U hU hW => ⟨rfl, by rw [hU], by rw [hU]; exact hPc, va_K.moved hW.alike hK, hDc.weaken (fun _ _ _ _ => trivial), NW.moved hW hN⟩⟩ rfl hlen hl.1 hst (lv_room hrest) hd hcs) hS (fun q _ h => hFc q h) hFc (fun u t H1 locs1 ht hvm hw2 hB hz1 hk1 hS1 => ?_)
  obtain ⟨hP1, hK1, hD1⟩ := hB
  rw [ht] at hP1
  obtain ⟨hP2, hD2⟩ := va_join (wr := wr) (w1 := w2 u) hP hD isC isR hsC hsR hnR hdis hk1 hFc hP1 hD1
  exact kk u hw2 H1 locs1 ls (hP2.subM isF (hsF u)) (hD2.sub isF hnF (hsF u)) hS1 hl
end ZCXIN

set_option maxRecDepth 100000 in
set_option maxHeartbeats 4000000 in
theorem c_X0_init (l : Launch) (D : va_G) (cI cJ cZ : ClassId) (h : Nat) : MX l yX0_init wsX0_init { frames := 1, cells := 4, slots := 320, locals := 12 } D (tyL cI cJ cZ) [.ref h] [(h, .inr (1, [.null, .null, .null, .null, .int 0]))] (fun u => u 1 = h) (fun u => [(u 1, .inr (1, [.ref (u 2), .ref (u 3), .ref (u 4), .ref (u 5), .int (nI 0)])), (u 2, .inl (cI, 80, .inl (fun _ => 0))), (u 3, .inl (cI, 80, .inl (fun _ => 0))), (u 4, .inl (cI, 80, .inl (fun _ => 0))), (u 5, .inl (cI, 80, .inl (fun _ => 0)))]) := by
  refine metX_of (cc := cX0_init) (maxL := 1) (ret := none) (by decide +kernel) rfl (Nat.le_of_ble_eq_true rfl) ?_
  intro K hC hRm hNL hDis hLis hRT hIni hQ
  have hinX0 : ∀ w ∈ wsX00, w ∈ wsX0_init := by decide +kernel
  refine z_aload_n (pc := 0) hC 0 dX0_init_0 rfl ?_
  refine z_objInit (pc := 1) hC hRm hNL (by decide +kernel) (by decide +kernel) (by decide +kernel) (by decide) (Nat.le_of_ble_eq_true rfl) dX0_init_1 ?_
  refine z_aload_n (pc := 4) hC 0 dX0_init_4 rfl ?_
  refine z_bipush (pc := 5) (v := (nI 80)) hC dX0_init_5 (by decide +kernel) ?_
  refine z_newa (pc := 7) (ty := .int) (N := 80) (a0 := (80, .inl (fun _ => 0))) hC hRm (by decide +kernel) rfl (fun _ h => by cases h) 0 rfl (fun _ => rfl) (by decide) (by decide +kernel) (by decide) (by decide) dX0_init_7 (fun q7 => ?_)
  refine z_putF (pc := 9) (C := RX0) (T := TX0) (N := 5) hC hinX0 0 rfl rfl 0 (by decide) (hIni rfl) tyX0 tyX0_ok nmX0 (by decide +kernel) rfl rfl (rfl) (rfl) (Nat.le_of_ble_eq_true rfl) [(h, .inr (1, [.ref q7, .null, .null, .null, .int 0])), (q7, .inl (cI, 80, .inl (fun _ => 0)))] rfl dX0_init_9 ?_
  refine z_aload_n (pc := 12) hC 0 dX0_init_12 rfl ?_
  refine z_bipush (pc := 13) (v := (nI 80)) hC dX0_init_13 (by decide +kernel) ?_
  refine z_newa (pc := 15) (ty := .int) (N := 80) (a0 := (80, .inl (fun _ => 0))) hC hRm (by decide +kernel) rfl (fun _ h => by cases h) 0 rfl (fun _ => rfl) (by decide) (by decide +kernel) (by decide) (by decide) dX0_init_15 (fun q15 => ?_)
  refine z_putF (pc := 17) (C := RX0) (T := TX0) (N := 5) hC hinX0 0 rfl rfl 1 (by decide) (hIni rfl) tyX0 tyX0_ok nmX0 (by decide +kernel) rfl rfl (rfl) (rfl) (Nat.le_of_ble_eq_true rfl) [(h, .inr (1, [.ref q7, .ref q15, .null, .null, .int 0])), (q7, .inl (cI, 80, .inl (fun _ => 0))), (q15, .inl (cI, 80, .inl (fun _ => 0)))] rfl dX0_init_17 ?_
  refine z_aload_n (pc := 20) hC 0 dX0_init_20 rfl ?_
  refine z_bipush (pc := 21) (v := (nI 80)) hC dX0_init_21 (by decide +kernel) ?_
  refine z_newa (pc := 23) (ty := .int) (N := 80) (a0 := (80, .inl (fun _ => 0))) hC hRm (by decide +kernel) rfl (fun _ h => by cases h) 0 rfl (fun _ => rfl) (by decide) (by decide +kernel) (by decide) (by decide) dX0_init_23 (fun q23 => ?_)
  refine z_putF (pc := 25) (C := RX0) (T := TX0) (N := 5) hC hinX0 0 rfl rfl 2 (by decide) (hIni rfl) tyX0 tyX0_ok nmX0 (by decide +kernel) rfl rfl (rfl) (rfl) (Nat.le_of_ble_eq_true rfl) [(h, .inr (1, [.ref q7, .ref q15, .ref q23, .null, .int 0])), (q7, .inl (cI, 80, .inl (fun _ => 0))), (q15, .inl (cI, 80, .inl (fun _ => 0))), (q23, .inl (cI, 80, .inl (fun _ => 0)))] rfl dX0_init_25 ?_
  refine z_aload_n (pc := 28) hC 0 dX0_init_28 rfl ?_
  refine z_bipush (pc := 29) (v := (nI 80)) hC dX0_init_29 (by decide +kernel) ?_
  refine z_newa (pc := 31) (ty := .int) (N := 80) (a0 := (80, .inl (fun _ => 0))) hC hRm (by decide +kernel) rfl (fun _ h => by cases h) 0 rfl (fun _ => rfl) (by decide) (by decide +kernel) (by decide) (by decide) dX0_init_31 (fun q31 => ?_)
  refine z_putF (pc := 33) (C := RX0) (T := TX0) (N := 5) hC hinX0 0 rfl rfl 3 (by decide) (hIni rfl) tyX0 tyX0_ok nmX0 (by decide +kernel) rfl rfl (rfl) (rfl) (Nat.le_of_ble_eq_true rfl) [(h, .inr (1, [.ref q7, .ref q15, .ref q23, .ref q31, .int 0])), (q7, .inl (cI, 80, .inl (fun _ => 0))), (q15, .inl (cI, 80, .inl (fun _ => 0))), (q23, .inl (cI, 80, .inl (fun _ => 0))), (q31, .inl (cI, 80, .inl (fun _ => 0)))] rfl dX0_init_33 ?_
  refine z_aload_n (pc := 36) hC 0 dX0_init_36 rfl ?_
  refine z_iconst (pc := 37) (v := (nI 0)) hC dX0_init_37 (by decide +kernel) ?_
  refine z_put (pc := 38) (C := RX0) (T := TX0) (N := 5) hC hinX0 0 rfl rfl 4 (by decide) tyX0 tyX0_ok nmX0 (by decide +kernel) rfl (rfl) (rfl) (Nat.le_of_ble_eq_true rfl) [(h, .inr (1, [.ref q7, .ref q15, .ref q23, .ref q31, .int (nI 0)])), (q7, .inl (cI, 80, .inl (fun _ => 0))), (q15, .inl (cI, 80, .inl (fun _ => 0))), (q23, .inl (cI, 80, .inl (fun _ => 0))), (q31, .inl (cI, 80, .inl (fun _ => 0)))] rfl dX0_init_38 ?_
  refine z_ws (ws' := [(h, .inr (1, [.ref q7, .ref q15, .ref q23, .ref q31, .int (nI 0)])), (q7, .inl (cI, 80, .inl (fun _ => 0))), (q15, .inl (cI, 80, .inl (fun _ => 0))), (q23, .inl (cI, 80, .inl (fun _ => 0))), (q31, .inl (cI, 80, .inl (fun _ => 0)))]) [0, 1, 2, 3, 4] (by decide) rfl ?_
  exact z_vretX (pc := 41) hC hQ hRT (fun k => if k = 1 then h else if k = 2 then q7 else if k = 3 then q15 else if k = 4 then q23 else q31) (rfl) (rfl) dX0_init_41

set_option maxRecDepth 100000 in
set_option maxHeartbeats 4000000 in
theorem c_X1_init (l : Launch) (D : va_G) (cI cJ cZ : ClassId) (h : Nat) : MX l yX1_init wsX1_init { frames := 1, cells := 4, slots := 8400, locals := 12 } D (tyL cI cJ cZ) [.ref h] [(h, .inr (2, [.null, .null, .null, .null, .int 0, .int 0, .int 0, .int 0]))] (fun u => u 6 = h) (fun u => [(u 6, .inr (2, [.ref (u 7), .ref (u 8), .ref (u 9), .ref (u 10), .int (nI 0), .int (nI 0), .int (nI 0), .int (nI 0)])), (u 7, .inl (cI, 168, .inl (fun _ => 0))), (u 8, .inl (cI, 168, .inl (fun _ => 0))), (u 9, .inl (cJ, 4032, .inr (.inl (fun _ => 0)))), (u 10, .inl (cI, 4032, .inl (fun _ => 0)))]) := by
  refine metX_of (cc := cX1_init) (maxL := 1) (ret := none) (by decide +kernel) rfl (Nat.le_of_ble_eq_true rfl) ?_
  intro K hC hRm hNL hDis hLis hRT hIni hQ
  have hinX1 : ∀ w ∈ wsX10, w ∈ wsX1_init := by decide +kernel
  refine z_aload_n (pc := 0) hC 0 dX1_init_0 rfl ?_
  refine z_objInit (pc := 1) hC hRm hNL (by decide +kernel) (by decide +kernel) (by decide +kernel) (by decide) (Nat.le_of_ble_eq_true rfl) dX1_init_1 ?_
  refine z_aload_n (pc := 4) hC 0 dX1_init_4 rfl ?_
  refine z_sipush (pc := 5) (v := (nI 168)) hC dX1_init_5 (by decide +kernel) ?_
  refine z_newa (pc := 8) (ty := .int) (N := 168) (a0 := (168, .inl (fun _ => 0))) hC hRm (by decide +kernel) rfl (fun _ h => by cases h) 0 rfl (fun _ => rfl) (by decide) (by decide +kernel) (by decide) (by decide) dX1_init_8 (fun q8 => ?_)
  refine z_putF (pc := 10) (C := RX1) (T := TX1) (N := 8) hC hinX1 0 rfl rfl 0 (by decide) (hIni rfl) tyX1 tyX1_ok nmX1 (by decide +kernel) rfl rfl (rfl) (rfl) (Nat.le_of_ble_eq_true rfl) [(h, .inr (2, [.ref q8, .null, .null, .null, .int 0, .int 0, .int 0, .int 0])), (q8, .inl (cI, 168, .inl (fun _ => 0)))] rfl dX1_init_10 ?_
  refine z_aload_n (pc := 13) hC 0 dX1_init_13 rfl ?_
  refine z_sipush (pc := 14) (v := (nI 168)) hC dX1_init_14 (by decide +kernel) ?_
  refine z_newa (pc := 17) (ty := .int) (N := 168) (a0 := (168, .inl (fun _ => 0))) hC hRm (by decide +kernel) rfl (fun _ h => by cases h) 0 rfl (fun _ => rfl) (by decide) (by decide +kernel) (by decide) (by decide) dX1_init_17 (fun q17 => ?_)
  refine z_putF (pc := 19) (C := RX1) (T := TX1) (N := 8) hC hinX1 0 rfl rfl 1 (by decide) (hIni rfl) tyX1 tyX1_ok nmX1 (by decide +kernel) rfl rfl (rfl) (rfl) (Nat.le_of_ble_eq_true rfl) [(h, .inr (2, [.ref q8, .ref q17, .null, .null, .int 0, .int 0, .int 0, .int 0])), (q8, .inl (cI, 168, .inl (fun _ => 0))), (q17, .inl (cI, 168, .inl (fun _ => 0)))] rfl dX1_init_19 ?_
  refine z_aload_n (pc := 22) hC 0 dX1_init_22 rfl ?_
  refine z_sipush (pc := 23) (v := (nI 4032)) hC dX1_init_23 (by decide +kernel) ?_
  refine z_newa (pc := 26) (ty := .long) (N := 4032) (a0 := (4032, .inr (.inl (fun _ => 0)))) hC hRm (by decide +kernel) rfl (fun _ h => by cases h) 1 rfl (fun _ => rfl) (by decide) (by decide +kernel) (by decide) (by decide) dX1_init_26 (fun q26 => ?_)
  refine z_putF (pc := 28) (C := RX1) (T := TX1) (N := 8) hC hinX1 0 rfl rfl 2 (by decide) (hIni rfl) tyX1 tyX1_ok nmX1 (by decide +kernel) rfl rfl (rfl) (rfl) (Nat.le_of_ble_eq_true rfl) [(h, .inr (2, [.ref q8, .ref q17, .ref q26, .null, .int 0, .int 0, .int 0, .int 0])), (q8, .inl (cI, 168, .inl (fun _ => 0))), (q17, .inl (cI, 168, .inl (fun _ => 0))), (q26, .inl (cJ, 4032, .inr (.inl (fun _ => 0))))] rfl dX1_init_28 ?_
  refine z_aload_n (pc := 31) hC 0 dX1_init_31 rfl ?_
  refine z_sipush (pc := 32) (v := (nI 4032)) hC dX1_init_32 (by decide +kernel) ?_
  refine z_newa (pc := 35) (ty := .int) (N := 4032) (a0 := (4032, .inl (fun _ => 0))) hC hRm (by decide +kernel) rfl (fun _ h => by cases h) 0 rfl (fun _ => rfl) (by decide) (by decide +kernel) (by decide) (by decide) dX1_init_35 (fun q35 => ?_)
  refine z_putF (pc := 37) (C := RX1) (T := TX1) (N := 8) hC hinX1 0 rfl rfl 3 (by decide) (hIni rfl) tyX1 tyX1_ok nmX1 (by decide +kernel) rfl rfl (rfl) (rfl) (Nat.le_of_ble_eq_true rfl) [(h, .inr (2, [.ref q8, .ref q17, .ref q26, .ref q35, .int 0, .int 0, .int 0, .int 0])), (q8, .inl (cI, 168, .inl (fun _ => 0))), (q17, .inl (cI, 168, .inl (fun _ => 0))), (q26, .inl (cJ, 4032, .inr (.inl (fun _ => 0)))), (q35, .inl (cI, 4032, .inl (fun _ => 0)))] rfl dX1_init_37 ?_
  refine z_aload_n (pc := 40) hC 0 dX1_init_40 rfl ?_
  refine z_iconst (pc := 41) (v := (nI 0)) hC dX1_init_41 (by decide +kernel) ?_
  refine z_put (pc := 42) (C := RX1) (T := TX1) (N := 8) hC hinX1 0 rfl rfl 4 (by decide) tyX1 tyX1_ok nmX1 (by decide +kernel) rfl (rfl) (rfl) (Nat.le_of_ble_eq_true rfl) [(h, .inr (2, [.ref q8, .ref q17, .ref q26, .ref q35, .int (nI 0), .int 0, .int 0, .int 0])), (q8, .inl (cI, 168, .inl (fun _ => 0))), (q17, .inl (cI, 168, .inl (fun _ => 0))), (q26, .inl (cJ, 4032, .inr (.inl (fun _ => 0)))), (q35, .inl (cI, 4032, .inl (fun _ => 0)))] rfl dX1_init_42 ?_
  refine z_aload_n (pc := 45) hC 0 dX1_init_45 rfl ?_
  refine z_iconst (pc := 46) (v := (nI 0)) hC dX1_init_46 (by decide +kernel) ?_
  refine z_put (pc := 47) (C := RX1) (T := TX1) (N := 8) hC hinX1 0 rfl rfl 5 (by decide) tyX1 tyX1_ok nmX1 (by decide +kernel) rfl (rfl) (rfl) (Nat.le_of_ble_eq_true rfl) [(h, .inr (2, [.ref q8, .ref q17, .ref q26, .ref q35, .int (nI 0), .int (nI 0), .int 0, .int 0])), (q8, .inl (cI, 168, .inl (fun _ => 0))), (q17, .inl (cI, 168, .inl (fun _ => 0))), (q26, .inl (cJ, 4032, .inr (.inl (fun _ => 0)))), (q35, .inl (cI, 4032, .inl (fun _ => 0)))] rfl dX1_init_47 ?_
  refine z_aload_n (pc := 50) hC 0 dX1_init_50 rfl ?_
  refine z_iconst (pc := 51) (v := (nI 0)) hC dX1_init_51 (by decide +kernel) ?_
  refine z_put (pc := 52) (C := RX1) (T := TX1) (N := 8) hC hinX1 0 rfl rfl 6 (by decide) tyX1 tyX1_ok nmX1 (by decide +kernel) rfl (rfl) (rfl) (Nat.le_of_ble_eq_true rfl) [(h, .inr (2, [.ref q8, .ref q17, .ref q26, .ref q35, .int (nI 0), .int (nI 0), .int (nI 0), .int 0])), (q8, .inl (cI, 168, .inl (fun _ => 0))), (q17, .inl (cI, 168, .inl (fun _ => 0))), (q26, .inl (cJ, 4032, .inr (.inl (fun _ => 0)))), (q35, .inl (cI, 4032, .inl (fun _ => 0)))] rfl dX1_init_52 ?_
  refine z_aload_n (pc := 55) hC 0 dX1_init_55 rfl ?_
  refine z_iconst (pc := 56) (v := (nI 0)) hC dX1_init_56 (by decide +kernel) ?_
  refine z_put (pc := 57) (C := RX1) (T := TX1) (N := 8) hC hinX1 0 rfl rfl 7 (by decide) tyX1 tyX1_ok nmX1 (by decide +kernel) rfl (rfl) (rfl) (Nat.le_of_ble_eq_true rfl) [(h, .inr (2, [.ref q8, .ref q17, .ref q26, .ref q35, .int (nI 0), .int (nI 0), .int (nI 0), .int (nI 0)])), (q8, .inl (cI, 168, .inl (fun _ => 0))), (q17, .inl (cI, 168, .inl (fun _ => 0))), (q26, .inl (cJ, 4032, .inr (.inl (fun _ => 0)))), (q35, .inl (cI, 4032, .inl (fun _ => 0)))] rfl dX1_init_57 ?_
  refine z_ws (ws' := [(h, .inr (2, [.ref q8, .ref q17, .ref q26, .ref q35, .int (nI 0), .int (nI 0), .int (nI 0), .int (nI 0)])), (q8, .inl (cI, 168, .inl (fun _ => 0))), (q17, .inl (cI, 168, .inl (fun _ => 0))), (q26, .inl (cJ, 4032, .inr (.inl (fun _ => 0)))), (q35, .inl (cI, 4032, .inl (fun _ => 0)))]) [0, 1, 2, 3, 4] (by decide) rfl ?_
  exact z_vretX (pc := 60) hC hQ hRT (fun k => if k = 6 then h else if k = 7 then q8 else if k = 8 then q17 else if k = 9 then q26 else q35) (rfl) (rfl) dX1_init_60

set_option maxRecDepth 100000 in
set_option maxHeartbeats 4000000 in
theorem c_X2_init (l : Launch) (D : va_G) (cI cJ cZ : ClassId) (h : Nat) : MX l yX2_init wsX2_init { frames := 1, cells := 2, slots := 4095, locals := 12 } D (tyL cI cJ cZ) [.ref h] [(h, .inr (3, [.null, .null, .int 0]))] (fun u => u 11 = h) (fun u => [(u 11, .inr (3, [.ref (u 12), .ref (u 13), .int (nI 0)])), (u 12, .inl (cI, 4032, .inl (fun _ => 0))), (u 13, .inl (cJ, 63, .inr (.inl (fun _ => 0))))]) := by
  refine metX_of (cc := cX2_init) (maxL := 1) (ret := none) (by decide +kernel) rfl (Nat.le_of_ble_eq_true rfl) ?_
  intro K hC hRm hNL hDis hLis hRT hIni hQ
  have hinX2 : ∀ w ∈ wsX20, w ∈ wsX2_init := by decide +kernel
  refine z_aload_n (pc := 0) hC 0 dX2_init_0 rfl ?_
  refine z_objInit (pc := 1) hC hRm hNL (by decide +kernel) (by decide +kernel) (by decide +kernel) (by decide) (Nat.le_of_ble_eq_true rfl) dX2_init_1 ?_
  refine z_aload_n (pc := 4) hC 0 dX2_init_4 rfl ?_
  refine z_sipush (pc := 5) (v := (nI 4032)) hC dX2_init_5 (by decide +kernel) ?_
  refine z_newa (pc := 8) (ty := .int) (N := 4032) (a0 := (4032, .inl (fun _ => 0))) hC hRm (by decide +kernel) rfl (fun _ h => by cases h) 0 rfl (fun _ => rfl) (by decide) (by decide +kernel) (by decide) (by decide) dX2_init_8 (fun q8 => ?_)
  refine z_putF (pc := 10) (C := RX2) (T := TX2) (N := 3) hC hinX2 0 rfl rfl 0 (by decide) (hIni rfl) tyX2 tyX2_ok nmX2 (by decide +kernel) rfl rfl (rfl) (rfl) (Nat.le_of_ble_eq_true rfl) [(h, .inr (3, [.ref q8, .null, .int 0])), (q8, .inl (cI, 4032, .inl (fun _ => 0)))] rfl dX2_init_10 ?_
  refine z_aload_n (pc := 13) hC 0 dX2_init_13 rfl ?_
  refine z_bipush (pc := 14) (v := (nI 63)) hC dX2_init_14 (by decide +kernel) ?_
  refine z_newa (pc := 16) (ty := .long) (N := 63) (a0 := (63, .inr (.inl (fun _ => 0)))) hC hRm (by decide +kernel) rfl (fun _ h => by cases h) 1 rfl (fun _ => rfl) (by decide) (by decide +kernel) (by decide) (by decide) dX2_init_16 (fun q16 => ?_)
  refine z_putF (pc := 18) (C := RX2) (T := TX2) (N := 3) hC hinX2 0 rfl rfl 1 (by decide) (hIni rfl) tyX2 tyX2_ok nmX2 (by decide +kernel) rfl rfl (rfl) (rfl) (Nat.le_of_ble_eq_true rfl) [(h, .inr (3, [.ref q8, .ref q16, .int 0])), (q8, .inl (cI, 4032, .inl (fun _ => 0))), (q16, .inl (cJ, 63, .inr (.inl (fun _ => 0))))] rfl dX2_init_18 ?_
  refine z_aload_n (pc := 21) hC 0 dX2_init_21 rfl ?_
  refine z_iconst (pc := 22) (v := (nI 0)) hC dX2_init_22 (by decide +kernel) ?_
  refine z_put (pc := 23) (C := RX2) (T := TX2) (N := 3) hC hinX2 0 rfl rfl 2 (by decide) tyX2 tyX2_ok nmX2 (by decide +kernel) rfl (rfl) (rfl) (Nat.le_of_ble_eq_true rfl) [(h, .inr (3, [.ref q8, .ref q16, .int (nI 0)])), (q8, .inl (cI, 4032, .inl (fun _ => 0))), (q16, .inl (cJ, 63, .inr (.inl (fun _ => 0))))] rfl dX2_init_23 ?_
  refine z_ws (ws' := [(h, .inr (3, [.ref q8, .ref q16, .int (nI 0)])), (q8, .inl (cI, 4032, .inl (fun _ => 0))), (q16, .inl (cJ, 63, .inr (.inl (fun _ => 0))))]) [0, 1, 2] (by decide) rfl ?_
  exact z_vretX (pc := 26) hC hQ hRT (fun k => if k = 11 then h else if k = 12 then q8 else q16) (rfl) (rfl) dX2_init_26

set_option maxRecDepth 100000 in
set_option maxHeartbeats 4000000 in
theorem c_X4_init (l : Launch) (D : va_G) (cI cJ cZ : ClassId) (h : Nat) : MX l yX4_init wsX4_init { frames := 1, cells := 8, slots := 28544, locals := 12 } D (tyL cI cJ cZ) [.ref h] [(h, .inr (5, [.int 0, .null, .int 0, .int 0, .null, .null, .null, .null, .int 0, .int 0, .null, .int 0, .null, .int 0, .int 0, .null]))] (fun u => u 0 = h) (fun u => [(u 0, .inr (5, [.int (nI 2), .ref (u 1), .int 0, .int 0, .ref (u 2), .ref (u 3), .ref (u 4), .ref (u 5), .int 0, .int 0, .ref (u 6), .int 0, .ref (u 7), .int 0, .int 0, .ref (u 8)])), (u 1, .inl (cI, 320, .inl (fun _ => 0))), (u 2, .inl (cI, 4032, .inl (fun _ => 0))), (u 3, .inl (cI, 4032, .inl (fun _ => 0))), (u 4, .inl (cI, 4032, .inl (fun _ => 0))), (u 5, .inl (cI, 4032, .inl (fun _ => 0))), (u 6, .inl (cI, 4032, .inl (fun _ => 0))), (u 7, .inl (cI, 4032, .inl (fun _ => 0))), (u 8, .inl (cZ, 4032, .inl (fun _ => 0)))]) := by
  refine metX_of (cc := cX4_init) (maxL := 1) (ret := none) (by decide +kernel) rfl (Nat.le_of_ble_eq_true rfl) ?_
  intro K hC hRm hNL hDis hLis hRT hIni hQ
  have hinX4 : ∀ w ∈ wsX40, w ∈ wsX4_init := by decide +kernel
  refine z_aload_n (pc := 0) hC 0 dX4_init_0 rfl ?_
  refine z_objInit (pc := 1) hC hRm hNL (by decide +kernel) (by decide +kernel) (by decide +kernel) (by decide) (Nat.le_of_ble_eq_true rfl) dX4_init_1 ?_
  refine z_aload_n (pc := 4) hC 0 dX4_init_4 rfl ?_
  refine z_iconst (pc := 5) (v := (nI 2)) hC dX4_init_5 (by decide +kernel) ?_
  refine z_put (pc := 6) (C := RX4) (T := TX4) (N := 16) hC hinX4 0 rfl rfl 0 (by decide) tyX4 tyX4_ok nmX4 (by decide +kernel) rfl (rfl) (rfl) (Nat.le_of_ble_eq_true rfl) [(h, .inr (5, [.int (nI 2), .null, .int 0, .int 0, .null, .null, .null, .null, .int 0, .int 0, .null, .int 0, .null, .int 0, .int 0, .null]))] rfl dX4_init_6 ?_
  refine z_aload_n (pc := 9) hC 0 dX4_init_9 rfl ?_
  refine z_sipush (pc := 10) (v := (nI 320)) hC dX4_init_10 (by decide +kernel) ?_
  refine z_newa (pc := 13) (ty := .int) (N := 320) (a0 := (320, .inl (fun _ => 0))) hC hRm (by decide +kernel) rfl (fun _ h => by cases h) 0 rfl (fun _ => rfl) (by decide) (by decide +kernel) (by decide) (by decide) dX4_init_13 (fun q13 => ?_)
  refine z_putF (pc := 15) (C := RX4) (T := TX4) (N := 16) hC hinX4 0 rfl rfl 1 (by decide) (hIni rfl) tyX4 tyX4_ok nmX4 (by decide +kernel) rfl rfl (rfl) (rfl) (Nat.le_of_ble_eq_true rfl) [(h, .inr (5, [.int (nI 2), .ref q13, .int 0, .int 0, .null, .null, .null, .null, .int 0, .int 0, .null, .int 0, .null, .int 0, .int 0, .null])), (q13, .inl (cI, 320, .inl (fun _ => 0)))] rfl dX4_init_15 ?_
  refine z_aload_n (pc := 18) hC 0 dX4_init_18 rfl ?_
  refine z_sipush (pc := 19) (v := (nI 4032)) hC dX4_init_19 (by decide +kernel) ?_
  refine z_newa (pc := 22) (ty := .int) (N := 4032) (a0 := (4032, .inl (fun _ => 0))) hC hRm (by decide +kernel) rfl (fun _ h => by cases h) 0 rfl (fun _ => rfl) (by decide) (by decide +kernel) (by decide) (by decide) dX4_init_22 (fun q22 => ?_)
  refine z_putF (pc := 24) (C := RX4) (T := TX4) (N := 16) hC hinX4 0 rfl rfl 4 (by decide) (hIni rfl) tyX4 tyX4_ok nmX4 (by decide +kernel) rfl rfl (rfl) (rfl) (Nat.le_of_ble_eq_true rfl) [(h, .inr (5, [.int (nI 2), .ref q13, .int 0, .int 0, .ref q22, .null, .null, .null, .int 0, .int 0, .null, .int 0, .null, .int 0, .int 0, .null])), (q13, .inl (cI, 320, .inl (fun _ => 0))), (q22, .inl (cI, 4032, .inl (fun _ => 0)))] rfl dX4_init_24 ?_
  refine z_aload_n (pc := 27) hC 0 dX4_init_27 rfl ?_
  refine z_sipush (pc := 28) (v := (nI 4032)) hC dX4_init_28 (by decide +kernel) ?_
  refine z_newa (pc := 31) (ty := .int) (N := 4032) (a0 := (4032, .inl (fun _ => 0))) hC hRm (by decide +kernel) rfl (fun _ h => by cases h) 0 rfl (fun _ => rfl) (by decide) (by decide +kernel) (by decide) (by decide) dX4_init_31 (fun q31 => ?_)
  refine z_putF (pc := 33) (C := RX4) (T := TX4) (N := 16) hC hinX4 0 rfl rfl 5 (by decide) (hIni rfl) tyX4 tyX4_ok nmX4 (by decide +kernel) rfl rfl (rfl) (rfl) (Nat.le_of_ble_eq_true rfl) [(h, .inr (5, [.int (nI 2), .ref q13, .int 0, .int 0, .ref q22, .ref q31, .null, .null, .int 0, .int 0, .null, .int 0, .null, .int 0, .int 0, .null])), (q13, .inl (cI, 320, .inl (fun _ => 0))), (q22, .inl (cI, 4032, .inl (fun _ => 0))), (q31, .inl (cI, 4032, .inl (fun _ => 0)))] rfl dX4_init_33 ?_
  refine z_aload_n (pc := 36) hC 0 dX4_init_36 rfl ?_
  refine z_sipush (pc := 37) (v := (nI 4032)) hC dX4_init_37 (by decide +kernel) ?_
  refine z_newa (pc := 40) (ty := .int) (N := 4032) (a0 := (4032, .inl (fun _ => 0))) hC hRm (by decide +kernel) rfl (fun _ h => by cases h) 0 rfl (fun _ => rfl) (by decide) (by decide +kernel) (by decide) (by decide) dX4_init_40 (fun q40 => ?_)
  refine z_putF (pc := 42) (C := RX4) (T := TX4) (N := 16) hC hinX4 0 rfl rfl 6 (by decide) (hIni rfl) tyX4 tyX4_ok nmX4 (by decide +kernel) rfl rfl (rfl) (rfl) (Nat.le_of_ble_eq_true rfl) [(h, .inr (5, [.int (nI 2), .ref q13, .int 0, .int 0, .ref q22, .ref q31, .ref q40, .null, .int 0, .int 0, .null, .int 0, .null, .int 0, .int 0, .null])), (q13, .inl (cI, 320, .inl (fun _ => 0))), (q22, .inl (cI, 4032, .inl (fun _ => 0))), (q31, .inl (cI, 4032, .inl (fun _ => 0))), (q40, .inl (cI, 4032, .inl (fun _ => 0)))] rfl dX4_init_42 ?_
  refine z_aload_n (pc := 45) hC 0 dX4_init_45 rfl ?_
  refine z_sipush (pc := 46) (v := (nI 4032)) hC dX4_init_46 (by decide +kernel) ?_
  refine z_newa (pc := 49) (ty := .int) (N := 4032) (a0 := (4032, .inl (fun _ => 0))) hC hRm (by decide +kernel) rfl (fun _ h => by cases h) 0 rfl (fun _ => rfl) (by decide) (by decide +kernel) (by decide) (by decide) dX4_init_49 (fun q49 => ?_)
  refine z_putF (pc := 51) (C := RX4) (T := TX4) (N := 16) hC hinX4 0 rfl rfl 7 (by decide) (hIni rfl) tyX4 tyX4_ok nmX4 (by decide +kernel) rfl rfl (rfl) (rfl) (Nat.le_of_ble_eq_true rfl) [(h, .inr (5, [.int (nI 2), .ref q13, .int 0, .int 0, .ref q22, .ref q31, .ref q40, .ref q49, .int 0, .int 0, .null, .int 0, .null, .int 0, .int 0, .null])), (q13, .inl (cI, 320, .inl (fun _ => 0))), (q22, .inl (cI, 4032, .inl (fun _ => 0))), (q31, .inl (cI, 4032, .inl (fun _ => 0))), (q40, .inl (cI, 4032, .inl (fun _ => 0))), (q49, .inl (cI, 4032, .inl (fun _ => 0)))] rfl dX4_init_51 ?_
  refine z_aload_n (pc := 54) hC 0 dX4_init_54 rfl ?_
  refine z_sipush (pc := 55) (v := (nI 4032)) hC dX4_init_55 (by decide +kernel) ?_
  refine z_newa (pc := 58) (ty := .int) (N := 4032) (a0 := (4032, .inl (fun _ => 0))) hC hRm (by decide +kernel) rfl (fun _ h => by cases h) 0 rfl (fun _ => rfl) (by decide) (by decide +kernel) (by decide) (by decide) dX4_init_58 (fun q58 => ?_)
  refine z_putF (pc := 60) (C := RX4) (T := TX4) (N := 16) hC hinX4 0 rfl rfl 10 (by decide) (hIni rfl) tyX4 tyX4_ok nmX4 (by decide +kernel) rfl rfl (rfl) (rfl) (Nat.le_of_ble_eq_true rfl) [(h, .inr (5, [.int (nI 2), .ref q13, .int 0, .int 0, .ref q22, .ref q31, .ref q40, .ref q49, .int 0, .int 0, .ref q58, .int 0, .null, .int 0, .int 0, .null])), (q13, .inl (cI, 320, .inl (fun _ => 0))), (q22, .inl (cI, 4032, .inl (fun _ => 0))), (q31, .inl (cI, 4032, .inl (fun _ => 0))), (q40, .inl (cI, 4032, .inl (fun _ => 0))), (q49, .inl (cI, 4032, .inl (fun _ => 0))), (q58, .inl (cI, 4032, .inl (fun _ => 0)))] rfl dX4_init_60 ?_
  refine z_aload_n (pc := 63) hC 0 dX4_init_63 rfl ?_
  refine z_sipush (pc := 64) (v := (nI 4032)) hC dX4_init_64 (by decide +kernel) ?_
  refine z_newa (pc := 67) (ty := .int) (N := 4032) (a0 := (4032, .inl (fun _ => 0))) hC hRm (by decide +kernel) rfl (fun _ h => by cases h) 0 rfl (fun _ => rfl) (by decide) (by decide +kernel) (by decide) (by decide) dX4_init_67 (fun q67 => ?_)
  refine z_putF (pc := 69) (C := RX4) (T := TX4) (N := 16) hC hinX4 0 rfl rfl 12 (by decide) (hIni rfl) tyX4 tyX4_ok nmX4 (by decide +kernel) rfl rfl (rfl) (rfl) (Nat.le_of_ble_eq_true rfl) [(h, .inr (5, [.int (nI 2), .ref q13, .int 0, .int 0, .ref q22, .ref q31, .ref q40, .ref q49, .int 0, .int 0, .ref q58, .int 0, .ref q67, .int 0, .int 0, .null])), (q13, .inl (cI, 320, .inl (fun _ => 0))), (q22, .inl (cI, 4032, .inl (fun _ => 0))), (q31, .inl (cI, 4032, .inl (fun _ => 0))), (q40, .inl (cI, 4032, .inl (fun _ => 0))), (q49, .inl (cI, 4032, .inl (fun _ => 0))), (q58, .inl (cI, 4032, .inl (fun _ => 0))), (q67, .inl (cI, 4032, .inl (fun _ => 0)))] rfl dX4_init_69 ?_
  refine z_aload_n (pc := 72) hC 0 dX4_init_72 rfl ?_
  refine z_sipush (pc := 73) (v := (nI 4032)) hC dX4_init_73 (by decide +kernel) ?_
  refine z_newa (pc := 76) (ty := .boolean) (N := 4032) (a0 := (4032, .inl (fun _ => 0))) hC hRm (by decide +kernel) rfl (fun _ h => by cases h) 2 rfl (fun _ => rfl) (by decide) (by decide +kernel) (by decide) (by decide) dX4_init_76 (fun q76 => ?_)
  refine z_putF (pc := 78) (C := RX4) (T := TX4) (N := 16) hC hinX4 0 rfl rfl 15 (by decide) (hIni rfl) tyX4 tyX4_ok nmX4 (by decide +kernel) rfl rfl (rfl) (rfl) (Nat.le_of_ble_eq_true rfl) [(h, .inr (5, [.int (nI 2), .ref q13, .int 0, .int 0, .ref q22, .ref q31, .ref q40, .ref q49, .int 0, .int 0, .ref q58, .int 0, .ref q67, .int 0, .int 0, .ref q76])), (q13, .inl (cI, 320, .inl (fun _ => 0))), (q22, .inl (cI, 4032, .inl (fun _ => 0))), (q31, .inl (cI, 4032, .inl (fun _ => 0))), (q40, .inl (cI, 4032, .inl (fun _ => 0))), (q49, .inl (cI, 4032, .inl (fun _ => 0))), (q58, .inl (cI, 4032, .inl (fun _ => 0))), (q67, .inl (cI, 4032, .inl (fun _ => 0))), (q76, .inl (cZ, 4032, .inl (fun _ => 0)))] rfl dX4_init_78 ?_
  refine z_ws (ws' := [(h, .inr (5, [.int (nI 2), .ref q13, .int 0, .int 0, .ref q22, .ref q31, .ref q40, .ref q49, .int 0, .int 0, .ref q58, .int 0, .ref q67, .int 0, .int 0, .ref q76])), (q13, .inl (cI, 320, .inl (fun _ => 0))), (q22, .inl (cI, 4032, .inl (fun _ => 0))), (q31, .inl (cI, 4032, .inl (fun _ => 0))), (q40, .inl (cI, 4032, .inl (fun _ => 0))), (q49, .inl (cI, 4032, .inl (fun _ => 0))), (q58, .inl (cI, 4032, .inl (fun _ => 0))), (q67, .inl (cI, 4032, .inl (fun _ => 0))), (q76, .inl (cZ, 4032, .inl (fun _ => 0)))]) [0, 1, 2, 3, 4, 5, 6, 7, 8] (by decide) rfl ?_
  exact z_vretX (pc := 81) hC hQ hRT (fun k => if k = 0 then h else if k = 1 then q13 else if k = 2 then q22 else if k = 3 then q31 else if k = 4 then q40 else if k = 5 then q49 else if k = 6 then q58 else if k = 7 then q67 else q76) (rfl) (rfl) dX4_init_81

set_option maxRecDepth 100000 in
set_option maxHeartbeats 4000000 in
theorem c_X3_init (l : Launch) (D : va_G) (cI cJ cZ : ClassId) (h : Nat) : MX l yX3_init wsX3_init { frames := 2, cells := 13, slots := 12831, locals := 32 } D (tyL cI cJ cZ) [.ref h] [(h, .inr (4, [.null, .null, .null, .int 0, .int 0]))] (fun u => u 0 = h) (fun u => [(u 0, .inr (4, [.ref (u 1), .ref (u 6), .ref (u 11), .int (nI 2), .int (bI (true))])), (u 1, .inr (1, [.ref (u 2), .ref (u 3), .ref (u 4), .ref (u 5), .int (nI 0)])), (u 2, .inl (cI, 80, .inl (fun _ => 0))), (u 3, .inl (cI, 80, .inl (fun _ => 0))), (u 4, .inl (cI, 80, .inl (fun _ => 0))), (u 5, .inl (cI, 80, .inl (fun _ => 0))), (u 6, .inr (2, [.ref (u 7), .ref (u 8), .ref (u 9), .ref (u 10), .int (nI 0), .int (nI 0), .int (nI 0), .int (nI 0)])), (u 7, .inl (cI, 168, .inl (fun _ => 0))), (u 8, .inl (cI, 168, .inl (fun _ => 0))), (u 9, .inl (cJ, 4032, .inr (.inl (fun _ => 0)))), (u 10, .inl (cI, 4032, .inl (fun _ => 0))), (u 11, .inr (3, [.ref (u 12), .ref (u 13), .int (nI 0)])), (u 12, .inl (cI, 4032, .inl (fun _ => 0))), (u 13, .inl (cJ, 63, .inr (.inl (fun _ => 0))))]) := by
  refine metX_of (cc := cX3_init) (maxL := 1) (ret := none) (by decide +kernel) rfl (Nat.le_of_ble_eq_true rfl) ?_
  intro K hC hRm hNL hDis hLis hRT hIni hQ
  have hinX0 : ∀ w ∈ wsX00, w ∈ wsX3_init := by decide +kernel
  have hinX1 : ∀ w ∈ wsX10, w ∈ wsX3_init := by decide +kernel
  have hinX2 : ∀ w ∈ wsX20, w ∈ wsX3_init := by decide +kernel
  have hinX3 : ∀ w ∈ wsX30, w ∈ wsX3_init := by decide +kernel
  refine z_aload_n (pc := 0) hC 0 dX3_init_0 rfl ?_
  refine z_objInit (pc := 1) hC hRm hNL (by decide +kernel) (by decide +kernel) (by decide +kernel) (by decide) (Nat.le_of_ble_eq_true rfl) dX3_init_1 ?_
  refine z_aload_n (pc := 4) hC 0 dX3_init_4 rfl ?_
  refine z_new (pc := 5) (C := RX0) (T := TX0) (N := 5) (ci := 1) (fs := [.null, .null, .null, .null, .int 0]) hC hRm hinX0 tyX0 tyX0_ok (by decide +kernel) (by decide +kernel) (by decide +kernel) rfl (by decide +kernel) (by decide) (by decide) dX3_init_5 (fun q5 => ?_)
  refine z_dup (pc := 8) hC dX3_init_8 rfl ?_
  refine z_callIN_X (pc := 9) (y := yX0_init) (wy := wsX0_init) (rm := { frames := 1, cells := 4, slots := 320, locals := 12 }) (As := []) (rest := [.ref q5, .ref h]) (na := 0) (wc := [(q5, .inr (1, [.null, .null, .null, .null, .int 0]))]) (w2 := fun u => [(u 1, .inr (1, [.ref (u 2), .ref (u 3), .ref (u 4), .ref (u 5), .int (nI 0)])), (u 2, .inl (cI, 80, .inl (fun _ => 0))), (u 3, .inl (cI, 80, .inl (fun _ => 0))), (u 4, .inl (cI, 80, .inl (fun _ => 0))), (u 5, .inl (cI, 80, .inl (fun _ => 0)))]) hC hRm hDis hLis gX3_init_X0_init_n11 (by decide +kernel) (by decide +kernel) (by decide +kernel) rfl rfl ⟨by decide +kernel, by decide +kernel⟩ rfl ⟨by decide, by decide⟩ ⟨by decide, by decide⟩ rfl (Nat.le_of_ble_eq_true rfl) (by decide +kernel) (c_X0_init _ _ cI cJ cZ (q5) ) [1] [0] [0, 1, 2, 3, 4, 5] [(h, .inr (4, [.null, .null, .null, .int 0, .int 0]))] rfl (by decide) rfl (by decide) (by decide) (fun u => [(h, .inr (4, [.null, .null, .null, .int 0, .int 0])), (u 1, .inr (1, [.ref (u 2), .ref (u 3), .ref (u 4), .ref (u 5), .int (nI 0)])), (u 2, .inl (cI, 80, .inl (fun _ => 0))), (u 3, .inl (cI, 80, .inl (fun _ => 0))), (u 4, .inl (cI, 80, .inl (fun _ => 0))), (u 5, .inl (cI, 80, .inl (fun _ => 0)))]) (fun _ => rfl) (by decide) rfl dX3_init_9 (fun u9 hu9 => ?_)
  dsimp only at hu9 ⊢
  subst hu9
  refine z_putF (pc := 12) (C := RX3) (T := TX3) (N := 5) hC hinX3 0 rfl rfl 0 (by decide) (hIni rfl) tyX3 tyX3_ok nmX3 (by decide +kernel) rfl rfl (rfl) (rfl) (Nat.le_of_ble_eq_true rfl) [(h, .inr (4, [.ref (u9 1), .null, .null, .int 0, .int 0])), (u9 1, .inr (1, [.ref (u9 2), .ref (u9 3), .ref (u9 4), .ref (u9 5), .int (nI 0)])), (u9 2, .inl (cI, 80, .inl (fun _ => 0))), (u9 3, .inl (cI, 80, .inl (fun _ => 0))), (u9 4, .inl (cI, 80, .inl (fun _ => 0))), (u9 5, .inl (cI, 80, .inl (fun _ => 0)))] rfl dX3_init_12 ?_
  refine z_aload_n (pc := 15) hC 0 dX3_init_15 rfl ?_
  refine z_new (pc := 16) (C := RX1) (T := TX1) (N := 8) (ci := 2) (fs := [.null, .null, .null, .null, .int 0, .int 0, .int 0, .int 0]) hC hRm hinX1 tyX1 tyX1_ok (by decide +kernel) (by decide +kernel) (by decide +kernel) rfl (by decide +kernel) (by decide) (by decide) dX3_init_16 (fun q16 => ?_)
  refine z_dup (pc := 19) hC dX3_init_19 rfl ?_
  refine z_callIN_X (pc := 20) (y := yX1_init) (wy := wsX1_init) (rm := { frames := 1, cells := 4, slots := 8400, locals := 12 }) (As := []) (rest := [.ref q16, .ref h]) (na := 0) (wc := [(q16, .inr (2, [.null, .null, .null, .null, .int 0, .int 0, .int 0, .int 0]))]) (w2 := fun u => [(u 6, .inr (2, [.ref (u 7), .ref (u 8), .ref (u 9), .ref (u 10), .int (nI 0), .int (nI 0), .int (nI 0), .int (nI 0)])), (u 7, .inl (cI, 168, .inl (fun _ => 0))), (u 8, .inl (cI, 168, .inl (fun _ => 0))), (u 9, .inl (cJ, 4032, .inr (.inl (fun _ => 0)))), (u 10, .inl (cI, 4032, .inl (fun _ => 0)))]) hC hRm hDis hLis gX3_init_X1_init_n18 (by decide +kernel) (by decide +kernel) (by decide +kernel) rfl rfl ⟨by decide +kernel, by decide +kernel⟩ rfl ⟨by decide, by decide⟩ ⟨by decide, by decide⟩ rfl (Nat.le_of_ble_eq_true rfl) (by decide +kernel) (c_X1_init _ _ cI cJ cZ (q16) ) [6] [0, 1, 2, 3, 4, 5] [0, 1, 2, 3, 4, 5, 6, 7, 8, 9, 10] [(h, .inr (4, [.ref (u9 1), .null, .null, .int 0, .int 0])), (u9 1, .inr (1, [.ref (u9 2), .ref (u9 3), .ref (u9 4), .ref (u9 5), .int (nI 0)])), (u9 2, .inl (cI, 80, .inl (fun _ => 0))), (u9 3, .inl (cI, 80, .inl (fun _ => 0))), (u9 4, .inl (cI, 80, .inl (fun _ => 0))), (u9 5, .inl (cI, 80, .inl (fun _ => 0)))] rfl (by decide) rfl (by decide) (by decide) (fun u => [(h, .inr (4, [.ref (u9 1), .null, .null, .int 0, .int 0])), (u9 1, .inr (1, [.ref (u9 2), .ref (u9 3), .ref (u9 4), .ref (u9 5), .int (nI 0)])), (u9 2, .inl (cI, 80, .inl (fun _ => 0))), (u9 3, .inl (cI, 80, .inl (fun _ => 0))), (u9 4, .inl (cI, 80, .inl (fun _ => 0))), (u9 5, .inl (cI, 80, .inl (fun _ => 0))), (u 6, .inr (2, [.ref (u 7), .ref (u 8), .ref (u 9), .ref (u 10), .int (nI 0), .int (nI 0), .int (nI 0), .int (nI 0)])), (u 7, .inl (cI, 168, .inl (fun _ => 0))), (u 8, .inl (cI, 168, .inl (fun _ => 0))), (u 9, .inl (cJ, 4032, .inr (.inl (fun _ => 0)))), (u 10, .inl (cI, 4032, .inl (fun _ => 0)))]) (fun _ => rfl) (by decide) rfl dX3_init_20 (fun u20 hu20 => ?_)
  dsimp only at hu20 ⊢
  subst hu20
  refine z_putF (pc := 23) (C := RX3) (T := TX3) (N := 5) hC hinX3 0 rfl rfl 1 (by decide) (hIni rfl) tyX3 tyX3_ok nmX3 (by decide +kernel) rfl rfl (rfl) (rfl) (Nat.le_of_ble_eq_true rfl) [(h, .inr (4, [.ref (u9 1), .ref (u20 6), .null, .int 0, .int 0])), (u9 1, .inr (1, [.ref (u9 2), .ref (u9 3), .ref (u9 4), .ref (u9 5), .int (nI 0)])), (u9 2, .inl (cI, 80, .inl (fun _ => 0))), (u9 3, .inl (cI, 80, .inl (fun _ => 0))), (u9 4, .inl (cI, 80, .inl (fun _ => 0))), (u9 5, .inl (cI, 80, .inl (fun _ => 0))), (u20 6, .inr (2, [.ref (u20 7), .ref (u20 8), .ref (u20 9), .ref (u20 10), .int (nI 0), .int (nI 0), .int (nI 0), .int (nI 0)])), (u20 7, .inl (cI, 168, .inl (fun _ => 0))), (u20 8, .inl (cI, 168, .inl (fun _ => 0))), (u20 9, .inl (cJ, 4032, .inr (.inl (fun _ => 0)))), (u20 10, .inl (cI, 4032, .inl (fun _ => 0)))] rfl dX3_init_23 ?_
  refine z_aload_n (pc := 26) hC 0 dX3_init_26 rfl ?_
  refine z_new (pc := 27) (C := RX2) (T := TX2) (N := 3) (ci := 3) (fs := [.null, .null, .int 0]) hC hRm hinX2 tyX2 tyX2_ok (by decide +kernel) (by decide +kernel) (by decide +kernel) rfl (by decide +kernel) (by decide) (by decide) dX3_init_27 (fun q27 => ?_)
  refine z_dup (pc := 30) hC dX3_init_30 rfl ?_
  refine z_callIN_X (pc := 31) (y := yX2_init) (wy := wsX2_init) (rm := { frames := 1, cells := 2, slots := 4095, locals := 12 }) (As := []) (rest := [.ref q27, .ref h]) (na := 0) (wc := [(q27, .inr (3, [.null, .null, .int 0]))]) (w2 := fun u => [(u 11, .inr (3, [.ref (u 12), .ref (u 13), .int (nI 0)])), (u 12, .inl (cI, 4032, .inl (fun _ => 0))), (u 13, .inl (cJ, 63, .inr (.inl (fun _ => 0))))]) hC hRm hDis hLis gX3_init_X2_init_n25 (by decide +kernel) (by decide +kernel) (by decide +kernel) rfl rfl ⟨by decide +kernel, by decide +kernel⟩ rfl ⟨by decide, by decide⟩ ⟨by decide, by decide⟩ rfl (Nat.le_of_ble_eq_true rfl) (by decide +kernel) (c_X2_init _ _ cI cJ cZ (q27) ) [11] [0, 1, 2, 3, 4, 5, 6, 7, 8, 9, 10] [0, 1, 2, 3, 4, 5, 6, 7, 8, 9, 10, 11, 12, 13] [(h, .inr (4, [.ref (u9 1), .ref (u20 6), .null, .int 0, .int 0])), (u9 1, .inr (1, [.ref (u9 2), .ref (u9 3), .ref (u9 4), .ref (u9 5), .int (nI 0)])), (u9 2, .inl (cI, 80, .inl (fun _ => 0))), (u9 3, .inl (cI, 80, .inl (fun _ => 0))), (u9 4, .inl (cI, 80, .inl (fun _ => 0))), (u9 5, .inl (cI, 80, .inl (fun _ => 0))), (u20 6, .inr (2, [.ref (u20 7), .ref (u20 8), .ref (u20 9), .ref (u20 10), .int (nI 0), .int (nI 0), .int (nI 0), .int (nI 0)])), (u20 7, .inl (cI, 168, .inl (fun _ => 0))), (u20 8, .inl (cI, 168, .inl (fun _ => 0))), (u20 9, .inl (cJ, 4032, .inr (.inl (fun _ => 0)))), (u20 10, .inl (cI, 4032, .inl (fun _ => 0)))] rfl (by decide) rfl (by decide) (by decide) (fun u => [(h, .inr (4, [.ref (u9 1), .ref (u20 6), .null, .int 0, .int 0])), (u9 1, .inr (1, [.ref (u9 2), .ref (u9 3), .ref (u9 4), .ref (u9 5), .int (nI 0)])), (u9 2, .inl (cI, 80, .inl (fun _ => 0))), (u9 3, .inl (cI, 80, .inl (fun _ => 0))), (u9 4, .inl (cI, 80, .inl (fun _ => 0))), (u9 5, .inl (cI, 80, .inl (fun _ => 0))), (u20 6, .inr (2, [.ref (u20 7), .ref (u20 8), .ref (u20 9), .ref (u20 10), .int (nI 0), .int (nI 0), .int (nI 0), .int (nI 0)])), (u20 7, .inl (cI, 168, .inl (fun _ => 0))), (u20 8, .inl (cI, 168, .inl (fun _ => 0))), (u20 9, .inl (cJ, 4032, .inr (.inl (fun _ => 0)))), (u20 10, .inl (cI, 4032, .inl (fun _ => 0))), (u 11, .inr (3, [.ref (u 12), .ref (u 13), .int (nI 0)])), (u 12, .inl (cI, 4032, .inl (fun _ => 0))), (u 13, .inl (cJ, 63, .inr (.inl (fun _ => 0))))]) (fun _ => rfl) (by decide) rfl dX3_init_31 (fun u31 hu31 => ?_)
  dsimp only at hu31 ⊢
  subst hu31
  refine z_putF (pc := 34) (C := RX3) (T := TX3) (N := 5) hC hinX3 0 rfl rfl 2 (by decide) (hIni rfl) tyX3 tyX3_ok nmX3 (by decide +kernel) rfl rfl (rfl) (rfl) (Nat.le_of_ble_eq_true rfl) [(h, .inr (4, [.ref (u9 1), .ref (u20 6), .ref (u31 11), .int 0, .int 0])), (u9 1, .inr (1, [.ref (u9 2), .ref (u9 3), .ref (u9 4), .ref (u9 5), .int (nI 0)])), (u9 2, .inl (cI, 80, .inl (fun _ => 0))), (u9 3, .inl (cI, 80, .inl (fun _ => 0))), (u9 4, .inl (cI, 80, .inl (fun _ => 0))), (u9 5, .inl (cI, 80, .inl (fun _ => 0))), (u20 6, .inr (2, [.ref (u20 7), .ref (u20 8), .ref (u20 9), .ref (u20 10), .int (nI 0), .int (nI 0), .int (nI 0), .int (nI 0)])), (u20 7, .inl (cI, 168, .inl (fun _ => 0))), (u20 8, .inl (cI, 168, .inl (fun _ => 0))), (u20 9, .inl (cJ, 4032, .inr (.inl (fun _ => 0)))), (u20 10, .inl (cI, 4032, .inl (fun _ => 0))), (u31 11, .inr (3, [.ref (u31 12), .ref (u31 13), .int (nI 0)])), (u31 12, .inl (cI, 4032, .inl (fun _ => 0))), (u31 13, .inl (cJ, 63, .inr (.inl (fun _ => 0))))] rfl dX3_init_34 ?_
  refine z_aload_n (pc := 37) hC 0 dX3_init_37 rfl ?_
  refine z_iconst (pc := 38) (v := (nI 2)) hC dX3_init_38 (by decide +kernel) ?_
  refine z_put (pc := 39) (C := RX3) (T := TX3) (N := 5) hC hinX3 0 rfl rfl 3 (by decide) tyX3 tyX3_ok nmX3 (by decide +kernel) rfl (rfl) (rfl) (Nat.le_of_ble_eq_true rfl) [(h, .inr (4, [.ref (u9 1), .ref (u20 6), .ref (u31 11), .int (nI 2), .int 0])), (u9 1, .inr (1, [.ref (u9 2), .ref (u9 3), .ref (u9 4), .ref (u9 5), .int (nI 0)])), (u9 2, .inl (cI, 80, .inl (fun _ => 0))), (u9 3, .inl (cI, 80, .inl (fun _ => 0))), (u9 4, .inl (cI, 80, .inl (fun _ => 0))), (u9 5, .inl (cI, 80, .inl (fun _ => 0))), (u20 6, .inr (2, [.ref (u20 7), .ref (u20 8), .ref (u20 9), .ref (u20 10), .int (nI 0), .int (nI 0), .int (nI 0), .int (nI 0)])), (u20 7, .inl (cI, 168, .inl (fun _ => 0))), (u20 8, .inl (cI, 168, .inl (fun _ => 0))), (u20 9, .inl (cJ, 4032, .inr (.inl (fun _ => 0)))), (u20 10, .inl (cI, 4032, .inl (fun _ => 0))), (u31 11, .inr (3, [.ref (u31 12), .ref (u31 13), .int (nI 0)])), (u31 12, .inl (cI, 4032, .inl (fun _ => 0))), (u31 13, .inl (cJ, 63, .inr (.inl (fun _ => 0))))] rfl dX3_init_39 ?_
  refine z_aload_n (pc := 42) hC 0 dX3_init_42 rfl ?_
  refine z_iconst (pc := 43) (v := (nI 1)) hC dX3_init_43 (by decide +kernel) ?_
  refine z_topi (bI (true)) rfl ?_
  refine z_put (pc := 44) (C := RX3) (T := TX3) (N := 5) hC hinX3 0 rfl rfl 4 (by decide) tyX3 tyX3_ok nmX3 (by decide +kernel) rfl (by decide +kernel) (by decide +kernel) (Nat.le_of_ble_eq_true rfl) [(h, .inr (4, [.ref (u9 1), .ref (u20 6), .ref (u31 11), .int (nI 2), .int (bI (true))])), (u9 1, .inr (1, [.ref (u9 2), .ref (u9 3), .ref (u9 4), .ref (u9 5), .int (nI 0)])), (u9 2, .inl (cI, 80, .inl (fun _ => 0))), (u9 3, .inl (cI, 80, .inl (fun _ => 0))), (u9 4, .inl (cI, 80, .inl (fun _ => 0))), (u9 5, .inl (cI, 80, .inl (fun _ => 0))), (u20 6, .inr (2, [.ref (u20 7), .ref (u20 8), .ref (u20 9), .ref (u20 10), .int (nI 0), .int (nI 0), .int (nI 0), .int (nI 0)])), (u20 7, .inl (cI, 168, .inl (fun _ => 0))), (u20 8, .inl (cI, 168, .inl (fun _ => 0))), (u20 9, .inl (cJ, 4032, .inr (.inl (fun _ => 0)))), (u20 10, .inl (cI, 4032, .inl (fun _ => 0))), (u31 11, .inr (3, [.ref (u31 12), .ref (u31 13), .int (nI 0)])), (u31 12, .inl (cI, 4032, .inl (fun _ => 0))), (u31 13, .inl (cJ, 63, .inr (.inl (fun _ => 0))))] rfl dX3_init_44 ?_
  refine z_ws (ws' := [(h, .inr (4, [.ref (u9 1), .ref (u20 6), .ref (u31 11), .int (nI 2), .int (bI (true))])), (u9 1, .inr (1, [.ref (u9 2), .ref (u9 3), .ref (u9 4), .ref (u9 5), .int (nI 0)])), (u9 2, .inl (cI, 80, .inl (fun _ => 0))), (u9 3, .inl (cI, 80, .inl (fun _ => 0))), (u9 4, .inl (cI, 80, .inl (fun _ => 0))), (u9 5, .inl (cI, 80, .inl (fun _ => 0))), (u20 6, .inr (2, [.ref (u20 7), .ref (u20 8), .ref (u20 9), .ref (u20 10), .int (nI 0), .int (nI 0), .int (nI 0), .int (nI 0)])), (u20 7, .inl (cI, 168, .inl (fun _ => 0))), (u20 8, .inl (cI, 168, .inl (fun _ => 0))), (u20 9, .inl (cJ, 4032, .inr (.inl (fun _ => 0)))), (u20 10, .inl (cI, 4032, .inl (fun _ => 0))), (u31 11, .inr (3, [.ref (u31 12), .ref (u31 13), .int (nI 0)])), (u31 12, .inl (cI, 4032, .inl (fun _ => 0))), (u31 13, .inl (cJ, 63, .inr (.inl (fun _ => 0))))]) [0, 1, 2, 3, 4, 5, 6, 7, 8, 9, 10, 11, 12, 13] (by decide) rfl ?_
  exact z_vretX (pc := 47) hC hQ hRT (fun k => if k = 0 then h else if k ≤ 5 then u9 k else if k ≤ 10 then u20 k else u31 k) (rfl) (rfl) dX3_init_47
