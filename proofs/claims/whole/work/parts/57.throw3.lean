/-! fact, where there is no such number -/
set_option maxRecDepth 100000 in
set_option maxHeartbeats 4000000 in
theorem c_X3_fact_throw (l : Launch) (hfl : l.flags = flags0) (D : va_G) (cI cJ cZ : ClassId) (q : Nat → Nat) (n : Nat) (Kd : Nat → Int32) (Aa : Nat → Int32) (Ab : Nat → Int32) (Ac : Nat → Int32) (cnt : Nat) (s : CSt) (p0 : Int32) (hn : n ≤ 24) (hcnt : cnt ≤ 80) (hax : ∀ k, k < cnt → axV n (Kd k) (Aa k) (Ab k) (Ac k)) (hi : p0 < 0 ∨ nI (cloT n cnt Kd Aa Ab Ac s).1.2.2.1.2 ≤ p0) (hfc : (cloT n cnt Kd Aa Ab Ac s).1.2.2.1.2 ≤ 4032) : MT l yX3_fact wsX3_fact { frames := 7, cells := 1, slots := 6, locals := 147 } D (tyL cI cJ cZ) [.ref (q 0), .int p0] [(q 0, .inr (4, [.ref (q 1), .ref (q 6), .ref (q 11), .int (nI n), .int (bI (s.2.2))])), (q 1, .inr (1, [.ref (q 2), .ref (q 3), .ref (q 4), .ref (q 5), .int (nI cnt)])), (q 2, .inl (cI, 80, .inl Kd)), (q 3, .inl (cI, 80, .inl Aa)), (q 4, .inl (cI, 80, .inl Ab)), (q 5, .inl (cI, 80, .inl Ac)), (q 6, .inr (2, [.ref (q 7), .ref (q 8), .ref (q 9), .ref (q 10), .int (nI (s.2.1)), .int (nI ((s.1).2.2.1.2)), .int (nI ((s.1).2.2.2)), .int ((s.1).1.2.2)])), (q 7, .inl (cI, 168, .inl ((s.1).2.1))), (q 8, .inl (cI, 168, .inl ((s.1).1.1))), (q 9, .inl (cJ, 4032, .inr (.inl ((s.1).1.2.1)))), (q 10, .inl (cI, 4032, .inl ((s.1).2.2.1.1)))] [(q 0, .inr (4, [.ref (q 1), .ref (q 6), .ref (q 11), .int (nI n), .int (bI ((cloT n cnt Kd Aa Ab Ac s).2.2))])), (q 1, .inr (1, [.ref (q 2), .ref (q 3), .ref (q 4), .ref (q 5), .int (nI cnt)])), (q 2, .inl (cI, 80, .inl Kd)), (q 3, .inl (cI, 80, .inl Aa)), (q 4, .inl (cI, 80, .inl Ab)), (q 5, .inl (cI, 80, .inl Ac)), (q 6, .inr (2, [.ref (q 7), .ref (q 8), .ref (q 9), .ref (q 10), .int (nI ((cloT n cnt Kd Aa Ab Ac s).2.1)), .int (nI (((cloT n cnt Kd Aa Ab Ac s).1).2.2.1.2)), .int (nI (((cloT n cnt Kd Aa Ab Ac s).1).2.2.2)), .int (((cloT n cnt Kd Aa Ab Ac s).1).1.2.2)])), (q 7, .inl (cI, 168, .inl (((cloT n cnt Kd Aa Ab Ac s).1).2.1))), (q 8, .inl (cI, 168, .inl (((cloT n cnt Kd Aa Ab Ac s).1).1.1))), (q 9, .inl (cJ, 4032, .inr (.inl (((cloT n cnt Kd Aa Ab Ac s).1).1.2.1)))), (q 10, .inl (cI, 4032, .inl (((cloT n cnt Kd Aa Ab Ac s).1).2.2.1.1)))] := by
  refine metT_of hfl (cc := cX3_fact) (maxL := 3) (ret := (some .int)) (by decide +kernel) rfl (Nat.le_of_ble_eq_true rfl) ?_
  intro K hC hRm hNL hDis hLis hTh hQ
  have hinX1 : ∀ w ∈ wsX10, w ∈ wsX3_fact := by decide +kernel
  refine z_aload_n (pc := 0) hC 0 dX3_fact_0 rfl ?_
  refine z_callV_A (pc := 1) (y := yX3_closed) (wy := wsX3_closed) (rm := { frames := 5, cells := 0, slots := 0, locals := 127 }) (As := []) (rest := []) (na := 0) (C := RX3) (T := TX3) (NF := 5) (ci := 4) (wc := [(q 0, .inr (4, [.ref (q 1), .ref (q 6), .ref (q 11), .int (nI n), .int (bI (s.2.2))])), (q 1, .inr (1, [.ref (q 2), .ref (q 3), .ref (q 4), .ref (q 5), .int (nI cnt)])), (q 2, .inl (cI, 80, .inl Kd)), (q 3, .inl (cI, 80, .inl Aa)), (q 4, .inl (cI, 80, .inl Ab)), (q 5, .inl (cI, 80, .inl Ac)), (q 6, .inr (2, [.ref (q 7), .ref (q 8), .ref (q 9), .ref (q 10), .int (nI (s.2.1)), .int (nI ((s.1).2.2.1.2)), .int (nI ((s.1).2.2.2)), .int ((s.1).1.2.2)])), (q 7, .inl (cI, 168, .inl ((s.1).2.1))), (q 8, .inl (cI, 168, .inl ((s.1).1.1))), (q 9, .inl (cJ, 4032, .inr (.inl ((s.1).1.2.1)))), (q 10, .inl (cI, 4032, .inl ((s.1).2.2.1.1)))]) (wc2 := [(q 0, .inr (4, [.ref (q 1), .ref (q 6), .ref (q 11), .int (nI n), .int (bI ((cloT n cnt Kd Aa Ab Ac s).2.2))])), (q 1, .inr (1, [.ref (q 2), .ref (q 3), .ref (q 4), .ref (q 5), .int (nI cnt)])), (q 2, .inl (cI, 80, .inl Kd)), (q 3, .inl (cI, 80, .inl Aa)), (q 4, .inl (cI, 80, .inl Ab)), (q 5, .inl (cI, 80, .inl Ac)), (q 6, .inr (2, [.ref (q 7), .ref (q 8), .ref (q 9), .ref (q 10), .int (nI ((cloT n cnt Kd Aa Ab Ac s).2.1)), .int (nI (((cloT n cnt Kd Aa Ab Ac s).1).2.2.1.2)), .int (nI (((cloT n cnt Kd Aa Ab Ac s).1).2.2.2)), .int (((cloT n cnt Kd Aa Ab Ac s).1).1.2.2)])), (q 7, .inl (cI, 168, .inl (((cloT n cnt Kd Aa Ab Ac s).1).2.1))), (q 8, .inl (cI, 168, .inl (((cloT n cnt Kd Aa Ab Ac s).1).1.1))), (q 9, .inl (cJ, 4032, .inr (.inl (((cloT n cnt Kd Aa Ab Ac s).1).1.2.1)))), (q 10, .inl (cI, 4032, .inl (((cloT n cnt Kd Aa Ab Ac s).1).2.2.1.1)))]) hC hRm hDis hLis 0 rfl rfl gX3_fact_X3_closed ⟨rfl, by decide +kernel, by decide +kernel⟩ rfl ⟨by decide, by decide⟩ ⟨by decide, by decide⟩ rfl (Nat.le_of_ble_eq_true rfl) (by decide +kernel) (c_X3_closed _ _ cI cJ cZ (q) (n) (Kd) (Aa) (Ab) (Ac) (cnt) (s) (hn) (hcnt) (hax)) [0, 1, 2, 3, 4, 5, 6, 7, 8, 9, 10] [] [0, 1, 2, 3, 4, 5, 6, 7, 8, 9, 10] [] rfl (by decide) rfl (by decide) (by decide) [(q 0, .inr (4, [.ref (q 1), .ref (q 6), .ref (q 11), .int (nI n), .int (bI ((cloT n cnt Kd Aa Ab Ac s).2.2))])), (q 1, .inr (1, [.ref (q 2), .ref (q 3), .ref (q 4), .ref (q 5), .int (nI cnt)])), (q 2, .inl (cI, 80, .inl Kd)), (q 3, .inl (cI, 80, .inl Aa)), (q 4, .inl (cI, 80, .inl Ab)), (q 5, .inl (cI, 80, .inl Ac)), (q 6, .inr (2, [.ref (q 7), .ref (q 8), .ref (q 9), .ref (q 10), .int (nI ((cloT n cnt Kd Aa Ab Ac s).2.1)), .int (nI (((cloT n cnt Kd Aa Ab Ac s).1).2.2.1.2)), .int (nI (((cloT n cnt Kd Aa Ab Ac s).1).2.2.2)), .int (((cloT n cnt Kd Aa Ab Ac s).1).1.2.2)])), (q 7, .inl (cI, 168, .inl (((cloT n cnt Kd Aa Ab Ac s).1).2.1))), (q 8, .inl (cI, 168, .inl (((cloT n cnt Kd Aa Ab Ac s).1).1.1))), (q 9, .inl (cJ, 4032, .inr (.inl (((cloT n cnt Kd Aa Ab Ac s).1).1.2.1)))), (q 10, .inl (cI, 4032, .inl (((cloT n cnt Kd Aa Ab Ac s).1).2.2.1.1)))] rfl (by decide) rfl dX3_fact_1 ?_
  refine z_astore_n (pc := 4) hC hNL [(2, .ref (q 6)), (0, .ref (q 0)), (1, .int p0)] dX3_fact_4 (by decide) rfl ?_
  refine z_iload_n (pc := 5) hC 2 dX3_fact_5 rfl ?_
  refine z_if_lt (pc := 6) (tgt := 17) hC dX3_fact_6 (by decide) (fun h6 => ?_) (fun h6 => ?_)
  · exact z_throw (pc := 17) hC hRm hTh hQ (by decide +kernel) (by decide +kernel) (by decide +kernel) rfl rfl (by decide) (by decide) (by decide) (by decide) dX3_fact_17 dX3_fact_20 dX3_fact_21 dX3_fact_23 dX3_fact_26
  refine z_iload_n (pc := 9) hC 2 dX3_fact_9 rfl ?_
  refine z_aload_n (pc := 10) hC 0 dX3_fact_10 rfl ?_
  refine z_getN (pc := 11) (C := RX1) (T := TX1) (N := 8) hC hinX1 6 rfl rfl 5 (by decide) (by decide +kernel) rfl dX3_fact_11 ?_
  refine z_icmp_lt (pc := 14) (tgt := 27) hC dX3_fact_14 (by decide) (fun h14 => ?_) (fun h14 => ?_)
  · exact absurd h14 (fun h => hi.elim h6 (fun g => Int32.not_lt.mpr g h))
  exact z_throw (pc := 17) hC hRm hTh hQ (by decide +kernel) (by decide +kernel) (by decide +kernel) rfl rfl (by decide) (by decide) (by decide) (by decide) dX3_fact_17 dX3_fact_20 dX3_fact_21 dX3_fact_23 dX3_fact_26
/-! the law's own fact: a method with a handler -/
def ThL (K : KT) : Prop := match K with
  | (_, _, _, _, s, _, _, _, _, c, _, _, A, _) => ThW s ∧ (∀ (q : Nat) (c : Cell), s.heap[q]? = some c → c.vm.isStatics = true → ¬ A q) ∧ ∃ x : ExceptionTableEntry, c.exceptionTable.toList = [x] ∧ (x.startPc, x.endPc, x.handlerPc, x.catchType) = (0, 9, 12, 13)
def ML (l : Launch) (y : MethodName) (wy : List Cond) (rm : Room) (D : va_G) (tys : List (ClassId × FieldType)) (av : List Value) (w w2 : va_W) (r : Int32) : Prop := ∀ sz : Nat, Met l y wy rm (va_Pc av (fun U => Pw D tys w sz U ∧ ThW U)) (va_Qi (fun (x : Int32) (_ : Unit) => x = r) (Bw D tys (va_A w sz) w2) (va_A w sz)) rm.cells rm.slots (va_A w sz)
theorem metL_of {l : Launch} {y : MethodName} {wy wy' : List Cond} {rm : Room} {D : va_G} {tys : List (ClassId × FieldType)} {av : List Value} {w w2 : va_W} {r : Int32} {cc : ByteArray} {maxL : Nat} {ret : Option FieldType} (hy : plainName y.cls = true) (hw : wy = Cond.codeWith y cc maxL ret [(0, 9, 12, 13)] :: wy') (hm : (lg_sl av).length ≤ maxL)
    (body : ∀ K : KT, Cx K cc y.cls wy tys → Rm K rm → NLis K maxL → Dis K D → Lis K l → RetT K ret → ThL K → RI K rm.cells rm.slots tys w2 r → Z K 0 0 w (lv_args 0 av) 0 []) : ML l y wy rm D tys av w w2 r := by
  intro sz
  refine va_MetW (cc := cc) (maxL := maxL) (ret := ret) hy hw ?_
  intro p e s m args below meth c s₁ B hml hv
  obtain ⟨rfl, ⟨hsz, hP, hK, hD0, hN⟩, hTh⟩ := hv
  have hts := atoms_spec (ws := wy) B.pre
  have hown : s.vm.findClass y.cls = some m.cls := findClass_of_methodNamed B.named
  subst hsz
  have hD := hD0.self (sz := s.heap.size)
  have hA : ∀ q : Nat, s.heap.size ≤ q → va_A w s.heap.size q := fun q h => Or.inr h
  have hl := lv_entry av (n := maxL) hm
  have X0 := Stand.of_body B
  have htab : ∃ x : ExceptionTableEntry, c.exceptionTable.toList = [x] ∧ (x.startPc, x.endPc, x.handlerPc, x.catchType) = (0, 9, 12, 13) := by
    obtain ⟨m9, meth', c', hn9, hm', hc', -, -, ht, -, -, -⟩ := Cond.codeWith_spec (hts _ (by rw [hw]; exact List.mem_cons_self))
    cases B.named.symm.trans hn9
    cases hm'.symm.trans X0.method
    cases hc'.symm.trans X0.code
    cases he : c.exceptionTable.toList with
    | nil => rw [he] at ht; cases ht
    | cons x t =>
      rw [he] at ht
      cases t with
      | nil => exact ⟨x, rfl, (List.cons.inj ht).1⟩
      | cons y t => cases (List.cons.inj ht).2
  rw [lg_entry_eq]
  exact body (p, l, e, (headSpec wy rm).room, s, m, av.toArray, below, meth, c, maxL, D, va_A w s.heap.size, _) ⟨B.exec, B.bytes, hml, hown, hts, hK, hA, hN, B.notSynchronized⟩ rfl rfl rfl rfl B.returns ⟨hTh, fun q c h1 h2 => va_P.notS hP h1 h2, htab⟩ rfl s.heap [] _ hP hD va_S.rf hl
section ZL
variable {K : KT} {cc : ByteArray} {own : String} {Ts : List Cond} {tys : List (ClassId × FieldType)} {n k : Nat} {ws : va_W} {lv : List (Nat × Value)} {pc : Nat} {rest : List Value}
theorem z_catchV (hC : Cx K cc own Ts tys) {R0 : Room} (hR0 : Rm K R0) {D0 : va_G} (hD0 : Dis K D0) {l0 : Launch} (hl0 : Lis K l0) (hTh : ThL K) {y : MethodName} {wy wy' : List Cond} {rm : Room} {index maxL na : Nat} {bytes : ByteArray} {ret : Option FieldType} {As : List Value} {wc wc2 : va_W} {C : String} {T : u_T} {NF ci a : Nat} (q0 : Nat) {fs : List Value} (hq0 : wc[q0]? = some (a, .inr (ci, fs))) (hcl : vwCl[ci]? = some (C, T, NF)) (hG : GoodIn Ts (wsV own index C y wy)) (hy0 : y.cls = C ∧ y.cls ≠ "java/lang/invoke/MethodHandle" ∧ y.cls ≠ "java/lang/invoke/VarHandle") (hw : wy = Cond.code y bytes maxL ret :: wy') (hroom : rm.frames + 1 ≤ R0.frames ∧ 8 + (maxL + 11) + rm.locals ≤ R0.locals) (hcs : n + rm.cells ≤ R0.cells ∧ k + rm.slots ≤ R0.slots) (hlen : As.length = na) (hrest : (rest.map fun v => v.category).sum ≤ 8) (hpd : (parseMethodDescriptor y.desc).map (fun d => d.parameters.length) = some na) (hM : MT l0 y wy rm D0 tys (.ref a :: As) wc wc2) (isC isR isF : List Nat) (wr : va_W) (hsC : isC.map (fun i => ws[i]?) = wc.map some) (hnC : va_nd isC = true) (hsR : isR.map (fun i => ws[i]?) = wr.map some) (hnR : va_nd isR = true) (hdis : ∀ i ∈ isR, i ∉ isC) (ws' : va_W) (hsF : isF.map (fun i => (wr ++ wc2)[i]?) = ws'.map some) (hnF : va_nd isF = true) {st : List Value} (hst : st = As.reverse ++ .ref a :: rest) (hd : decode cc pc = .ok (.invokevirtual index, 3)) (hpc : pc < 9) (hro : own = RL) (kk : ∀ x : Nat, Z K (n + rm.cells) (k + rm.slots) ws' lv 12 [.ref x]) : Z K n k ws lv pc st := by
  obtain ⟨p, l, e, R, s, m, args, below, meth, c, nL, D, A, Q⟩ := K
  obtain ⟨hx, hb, hml, hown, hts, hK, hA, hN, hlk⟩ := hC
  obtain ⟨hThW, hno, x0, htab, hx0⟩ := hTh
  intro H locs ls hP hD hS hl
  have hR0 : R = R0 := hR0
  have hD0 : D = D0 := hD0
  have hl0 : l = l0 := hl0
  subst hR0
  subst hD0
  subst hl0
  have hPc := hP.subM isC hsC
  have hDc := hD.sub isC hnC hsC
  have hFc := va_free (wc := wc) hD hS hA isC hsC
  intro T0 hT X
  have cw := cwV (mc := rm.cells) (ms := rm.slots) na hts hG hw rfl rfl ⟨hy0.1, hy0.2.1, hy0.2.2, hpd⟩ hroom
  obtain ⟨⟨-, -, hfr, hlo, hws, hcw, hcode, hini, hy, hlenY, hlnk⟩, hin, hse⟩ := cw
  obtain ⟨cellB, hcB, hoB, hclB⟩ := va_recv hK hPc hcl hq0
  obtain ⟨mk, methM, hnamed, hmethM, hstM, habM⟩ := Cond.instanceMethod_spec hin
  obtain ⟨methM', cM, hmethM', hcM, -, hlM, -, -, -, hsigM⟩ := Cond.code_spec hnamed hcode
  cases hmethM.symm.trans hmethM'
  obtain ⟨c2, r2, m2, q1, q2, q3, q4, kP, hkP, hkPi⟩ := Cond.selects_spec hse
  cases hclB.symm.trans q1
  cases (State.methodFound?_of_named hnamed hy).symm.trans q2
  cases hnamed.symm.trans q3
  have hselP : selectMethod e.platform s.vm cellB.cls mk = .method mk := by rw [Launch.admits_selectMethod X.admits]; exact q4
  have hd' : decode c.code (F0 m pc ls st).pc = .ok (.invokevirtual index, 3) := by rw [hb]; exact hd
  obtain ⟨vm₁, X₁, hstep₁⟩ := X.invokevirtual hx hown hlnk hnamed hmethM hstM hkP hkPi hy (a := a) (cell := cellB) (by rw [hT]; exact hcB)
    (fun z h => by rw [h] at hoB; cases hoB) hselP hmethM habM hkP hkPi (g := F0 m pc ls st) rfl (argsL := As) (rest := rest) (hlen.trans (hlenY _ hsigM)) hst hd'
  have hal := X₁.warmed.alike
  have h : At (T0.setVm vm₁) m c below := X₁.here
  have hnY : (T0.setVm vm₁).methodNamed? y = some mk := X₁.named hnamed
  obtain ⟨kY, hkY, -⟩ := className_of_methodNamed hnY
  have hinitY : kY.init = .initialized := Cond.initialized_spec (args := args) (findClass_of_methodNamed hnY) hkY (word_at (a' := args) X₁.warmed (Or.inl (by first | rfl | simp [Cond.onTables, Cond.keeps, Cond.steady])) hini)
  have hmY : (T0.setVm vm₁).vm.method? mk = some methM := by rw [hal.method?]; exact hmethM
  have hsz : (F0 m pc ls rest).locals.size = c.maxLocals := by rw [hml]; exact hl.1
  have happ : (headSpec wy rm).appliesLoose y e.platform ((T0.setVm vm₁).calling (F0 m pc ls rest) mk (Value.ref a :: As).toArray) = true :=
    Spec.appliesLoose_calling (g := F0 m pc ls rest) h hd' hnY hkY hinitY
      (X₁.room_calling (g := F0 m pc ls rest) (R' := rm) hsz hmY hcM hfr (by rw [hlM]; show 2 * 0 + (rest.map fun v => v.category).sum + (maxL + 11) + rm.locals ≤ R.locals; omega) hcs.1 hcs.2) (atoms_intro fun w hw9 => hws w hw9 _ _ X₁.warmed)
  obtain ⟨mid, hmid⟩ := h.above
  have hfrm : ((T0.setVm vm₁).setTop (F0 m pc ls rest)).frames = (.java (F0 m pc ls rest) :: mid) ++ below := by rw [State.frames_setTop' _ h.top, hmid]; rfl
  have hPw : Pw D tys wc H.size (T0.setVm vm₁) := ⟨by show T0.heap.size = _; rw [hT], by show va_P D vwCl wc T0.heap; rw [hT]; exact hPc, va_K.moved hal hK, hDc.weaken (fun _ _ _ _ => trivial), NW.moved X₁.warmed hN⟩
  have hpw2 := Pw.blind (av := .ref a :: As) (Value.ref a :: As).toArray (T0.setVm vm₁) (F0 m pc ls rest) mk ⟨rfl, hPw⟩
  have hst9 : ∀ (q : Nat) (c : Cell), s.heap[q]? = some c → c.vm.isStatics = true → T0.heap[q]? = some c := fun q c h1 h2 => by
    rw [hT, hS.2.1 q (Array.getElem?_eq_some_iff.mp h1).1 (hno q c h1 h2)]
    exact h1
  have hth2 : ThW ((T0.setVm vm₁).calling (F0 m pc ls rest) mk (Value.ref a :: As).toArray) := ThW.moved (s := s) X₁.warmed hst9 hThW
  obtain ⟨o, s₂, hsteps, -, hend, hq⟩ := Steps.callFree (hM H.size) p X.admits X.cas X.clock (acts := []) hfrm happ ⟨rfl, hpw2.2, hth2⟩ trivial
  rw [State.frames_setTop' _ h.top] at hend
  obtain ⟨x, rfl, ⟨hP1, hK1, hD1⟩, hF, ⟨L, hW₂, hsame, hL⟩, ce, hce, hcst, hcc, hca⟩ := hq
  obtain ⟨e2, k2, k3, k4, k5, k6⟩ := id hsame
  have hf₂ : s₂.frames = .throwing x :: .java (F0 m pc ls rest) :: (T0.setVm vm₁).frames.tail := hend
  have hW' : (T0.setVm vm₁).WarmedH s₂.vm := hW₂
  have e3 : s₂ = ({ ((T0.setVm vm₁).calling (F0 m pc ls rest) mk (Value.ref a :: As).toArray).setFrames s₂.frames with heap := s₂.heap, slotsUsed := s₂.slotsUsed } : State).setVm s₂.vm := by
    have h9 : ({ s₂ with vm := vm₁ } : State) = ({ ((T0.setVm vm₁).calling (F0 m pc ls rest) mk (Value.ref a :: As).toArray).setFrames s₂.frames with heap := s₂.heap, slotsUsed := s₂.slotsUsed } : State) := e2
    rw [← h9]
    rfl
  obtain ⟨g₀, hg0⟩ := Option.isSome_iff_exists.mp h.top
  obtain ⟨r, hr⟩ := State.topJava?_eq_some.mp hg0
  have hr' : (({ T0.setVm vm₁ with heap := s₂.heap, slotsUsed := s₂.slotsUsed } : State).setVm s₂.vm).frames = .java g₀ :: r := hr
  have hs₂ : s₂ = ((({ T0.setVm vm₁ with heap := s₂.heap, slotsUsed := s₂.slotsUsed } : State).setVm s₂.vm).setTop (F0 m pc ls rest)).pushFrame (.throwing x) := by
    refine e3.trans ?_
    rw [hf₂, State.calling_eq h.top, State.setFrames_setFrames, State.pushFrame, State.frames_setTop _ hr', State.setTop_of_frames _ hr', State.setFrames_setFrames, hr]
    rfl
  have hsame2 : (T0.setVm vm₁).sameButNew ({ T0.setVm vm₁ with heap := s₂.heap, slotsUsed := s₂.slotsUsed } : State) L rm.cells rm.slots := by
    refine ⟨?_, k2, k3, k4, k5, k6⟩
    obtain ⟨t, ht, -⟩ := State.frames_cons hr
    show ({ T0.setVm vm₁ with heap := s₂.heap, slotsUsed := s₂.slotsUsed } : State) = { (T0.setVm vm₁).setFrames (T0.setVm vm₁).frames with heap := s₂.heap, slotsUsed := s₂.slotsUsed }
    rw [State.setFrames_self ht]
  have X₂ : Stand p l e R s m args below meth c (({ T0.setVm vm₁ with heap := s₂.heap, slotsUsed := s₂.slotsUsed } : State).setVm s₂.vm) (locs ++ L) (n + rm.cells) (k + rm.slots) :=
    ⟨X.admits, X.cas, X.clock, X.frames, X.room, X.hears, X.method, X.code, (X₁.here.setHeapUsed s₂.heap s₂.slotsUsed).setVm hW'.alike, X₁.tail, State.WarmedH.trans X₁.warmed hW', X₁.limits, X₁.bytes, X₁.same.trans (hsame2.setVm s.vm)⟩
  have hcc' : s.vm.findClass RJx00060 = some ce.cls := by
    have h9 : (T0.setVm vm₁).vm.findClass RJx00060 = some ce.cls := hcc
    rw [hal.findClass] at h9
    exact h9
  have hca' : s.vm.assignable ce.cls ce.cls = true := by
    have h9 : (T0.setVm vm₁).vm.assignable ce.cls ce.cls = true := hca
    rw [hal.assignable] at h9
    exact h9
  simp only [Prod.mk.injEq] at hx0
  obtain ⟨y1, y2, y3, y4⟩ := hx0
  obtain ⟨vm', hWv, hcatch⟩ := tc_caught X₂ x (g := F0 m pc ls rest) rfl hown htab (by simp only [covers, y1, y2]; simp; exact hpc) (by rw [y4]; decide) (name := RJx00060) (by rw [y4, hro]; exact (hThW.at (a' := args) (State.WarmedH.refl s) (fun q c h1 _ => h1)) _ (List.mem_append_right _ (List.mem_singleton.mpr rfl))) hcc' hce hcst hca'
  rw [y3] at hcatch
  have hk1 : ∀ q : Nat, q < H.size → ¬ va_A wc H.size q → s₂.heap[q]? = H[q]? := fun q h1 h2 => by
    have h9 := hF.2 q (by show q < T0.heap.size; rw [hT]; exact h1) h2
    rw [h9]
    show T0.heap[q]? = _
    rw [hT]
  have hz1 : H.size ≤ s₂.heap.size := by
    have h9 := hF.1
    have h8 : T0.heap.size ≤ s₂.heap.size := h9
    rw [hT] at h8
    exact h8
  have hS1 : va_S A s.heap s₂.heap (locs ++ L) := ⟨Nat.le_trans hS.1 hz1, fun q h1 h2 => by rw [hk1 q (Nat.lt_of_lt_of_le h1 hS.1) (fun z => h2 (hFc q z))]; exact hS.2.1 q h1 h2, fun q hq => by
      rcases List.mem_append.mp hq with h | h
      · exact hS.2.2 q h
      · exact hFc _ (hL q h)⟩
  obtain ⟨hP2, hD2⟩ := va_join (wr := wr) (w1 := wc2) hP hD isC isR hsC hsR hnR hdis hk1 hFc hP1 hD1
  obtain ⟨t, a1, b1⟩ := kk x s₂.heap (locs ++ L) ls (hP2.subM isF hsF) (hD2.sub isF hnF hsF) hS1 hl _ (by rfl) (X₂.noted hWv)
  refine ⟨t, hstep₁ _ (fun acts => ?_), b1⟩
  rw [doInvoke_state]
  refine hsteps.trans ?_
  rw [hs₂]
  exact hcatch t a1
end ZL
