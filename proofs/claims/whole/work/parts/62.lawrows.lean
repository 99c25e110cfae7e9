/-! THE CLAIM OUT OF ONE WALK OF THE LAW'S BODY. Your part is whole_start (and what it stands on); all else here is the same for every law, but numbers. -/
def R_law : String := "ElCompletionLaw"
def lw_P (b : Addr) (xs : List Int32) (args : Array Value) (s : State) : Prop := args = #[.ref b] ∧ s.IntsAt b xs ∧ xs.length ≤ 2560 ∧ (Jvm.Cond.and given_1 narrow_1).before args s = true
def lw_Q (_ : Array Value) (s : State) (o : Outcome) (t : State) : Prop := o = .returned (some (.int 1)) ∧ Framed s o t [] 1049 49595
def lw_Z (below : List Frame) (a : Array Value) (s : State) : State → Prop := fun t => ∃ o, t.status = .running ∧ Ended t below o ∧ lw_Q a s o t
/-- the law's own end, with 1 on the stack, nothing written that was there before, its room as the claim has it -/
theorem lw_ret {p : Program} {l : Launch} {e : Env} {s : State} {m : MethodId} {below : List Frame} {meth : Method} {c : Code} {b : Nat} (hx : p.tables.exec = Jvm.exec) (hb : c.code = code) (hr : meth.sig.returnType = ret) (hlocks : meth.locks = false) {pc : Nat} {H : Heap} {ls : Array Slot} (hdg : decode code pc = .ok (.ireturn, 1)) : W p l e room_1 s m #[Value.ref b] below meth c H [] 1049 49595 (lw_Z below #[Value.ref b] s) (F0 m pc ls [.int 1]) := by
  intro T hT X
  obtain ⟨fs, hret, hrun, hended, hW, hframe⟩ := X.leave (v := some (.int 1)) (hlocks := hlocks) (fun h => by rw [hr] at h; cases h)
  have hmeth' : T.vm.method? m = some meth := X.method'
  refine ⟨T.setFrames fs, ?_, .returned (some (.int 1)), hrun, hended, rfl, ⟨_, rfl⟩, hW, hframe⟩
  jvm_step X.here [X.here.top, hx, hb, hdg, hmeth', hr, ret, narrow_b1]
  (try refine ⟨rfl, ?_⟩); (try refine ⟨rfl, ?_⟩)
  first | (intro acts; rw [hret _ acts rfl rfl rfl]) | rw [hret _ _ rfl rfl rfl]
  exact Steps.refl _
/-- what holds at the law's entry: the machine, the code, the tables' words (any of lw_tbl by 'hts w (by decide +kernel)'), the script of L ints xs at the cell b, what the Statement gives of the start (any of its parts by flat_of_before) -/
def lw_At (p : Program) (s : State) (m : MethodId) (meth : Method) (c : Code) (b L : Nat) (xs : Nat → Int32) : Prop :=
  p.tables.exec = Jvm.exec ∧ c.code = code ∧ meth.sig.returnType = ret ∧ c.maxLocals = 7 ∧ s.vm.findClass R_law = some m.cls ∧ (∀ w ∈ lw_tbl, w.before #[Value.ref b] s = true) ∧ va_X b L xs s s.heap ∧ b < s.heap.size ∧ meth.locks = false ∧ (Jvm.Cond.and given_1 narrow_1).before #[Value.ref b] s = true
/-! the law's own rows -/
def ScrK (K : KT) (b L : Nat) (xs : Nat → Int32) : Prop := match K with
  | (_, _, _, _, s, _, _, _, _, _, _, _, A, _) => va_X b L xs s s.heap ∧ b < s.heap.size ∧ A = fun q => s.heap.size ≤ q
def EndK (K : KT) (b : Nat) : Prop := match K with
  | (_, _, _, R, s, _, args, below, meth, _, _, _, _, Q) => R = room_1 ∧ args = #[Value.ref b] ∧ Q = lw_Z below #[Value.ref b] s ∧ meth.sig.returnType = ret
def ThM (K : KT) : Prop := match K with
  | (_, _, _, _, s, _, _, _, _, _, _, _, _, _) => ThW s
section ZLW
variable {K : KT} {cc : ByteArray} {own : String} {Ts : List Cond} {tys : List (ClassId × FieldType)} {n k : Nat} {ws : va_W} {lv : List (Nat × Value)} {pc : Nat} {rest : List Value} {b L : Nat} {xs : Nat → Int32}
theorem z_sld (hC : Cx K cc own Ts tys) (hSc : ScrK K b L xs) {j : Nat} {v : Int32} (hj : j < L) (hL : L < 2 ^ 31) (hv : xs j = v) (hd : decode cc pc = .ok (.iaload, 1)) (kk : Z K n k ws lv (pc + 1) (.int v :: rest)) : Z K n k ws lv pc (.int (nI j) :: .ref b :: rest) := by
  obtain ⟨p, l, e, R, s, m, args, below, meth, c, nL, D, A, Q⟩ := K
  obtain ⟨hx, hb, hml, hown, hts, hK, hA, hN, hlk⟩ := hC
  obtain ⟨hX, hbl, rfl⟩ := hSc
  intro H locs ls hP hD hS hl
  have e1 : (nI j).toNatClampNeg = j := nI_clamp (by omega)
  refine va_sld hx hb hX hbl (Nat.not_le.mpr hbl) hS (i := nI j) (fun q => q.elim (nI_pos (by omega)) (fun q => by rw [e1] at q; omega)) hd ?_
  rw [e1, hv]
  exact kk H locs ls hP hD hS hl
theorem z_slen (hC : Cx K cc own Ts tys) (hSc : ScrK K b L xs) (hd : decode cc pc = .ok (.arraylength, 1)) (kk : Z K n k ws lv (pc + 1) (.int (nI L) :: rest)) : Z K n k ws lv pc (.ref b :: rest) := by
  obtain ⟨p, l, e, R, s, m, args, below, meth, c, nL, D, A, Q⟩ := K
  obtain ⟨hx, hb, hml, hown, hts, hK, hA, hN, hlk⟩ := hC
  obtain ⟨hX, hbl, rfl⟩ := hSc
  intro H locs ls hP hD hS hl
  exact va_slen hx hb hX hbl (Nat.not_le.mpr hbl) hS hd (kk H locs ls hP hD hS hl)
theorem z_lawret (hC : Cx K code own Ts tys) (hSc : ScrK K b L xs) (hE : EndK K b) (hn : n ≤ 1049) (hk : k ≤ 49595) (hd : decode code pc = .ok (.ireturn, 1)) : Z K n k ws lv pc [.int (nI 1)] := by
  obtain ⟨p, l, e, R, s, m, args, below, meth, c, nL, D, A, Q⟩ := K
  obtain ⟨hx, hb, hml, hown, hts, hK, hA, hN, hlk⟩ := hC
  obtain ⟨hX, hbl, rfl⟩ := hSc
  obtain ⟨rfl, rfl, rfl, hr⟩ := hE
  intro H locs ls hP hD hS hl
  exact va_forget (fun q hq => hS.2.2 q hq) (W.widen hn hk (lw_ret hx hb hr hlk hd))
theorem z_callSW (hC : Cx K cc own Ts tys) {R0 : Room} (hR0 : Rm K R0) {D0 : va_G} (hD0 : Dis K D0) {l0 : Launch} (hl0 : Lis K l0) (hTh : ThM K) (hSc : ScrK K b L xs) {y : MethodName} {wy wy' : List Cond} {rm : Room} {index maxL na : Nat} {bytes : ByteArray} {ret : Option FieldType} {hh : List (Nat × Nat × Nat × Nat)} {As : List Value} {wc wc2 : va_W} {r : Int32} (hG : GoodIn Ts (va_wsS own index y wy)) (hy0 : y.cls ≠ "java/lang/invoke/MethodHandle" ∧ y.cls ≠ "java/lang/invoke/VarHandle") (hw : wy = Cond.codeWith y bytes maxL ret hh :: wy') (hroom : rm.frames + 1 ≤ R0.frames ∧ 8 + (maxL + 11) + rm.locals ≤ R0.locals) (hcs : n + rm.cells ≤ R0.cells ∧ k + rm.slots ≤ R0.slots) (hlen : As.length = na) (hrest : (rest.map fun v => v.category).sum ≤ 8) (hpd : (parseMethodDescriptor y.desc).map (fun d => d.parameters.length) = some na) (hM : ML l0 y wy rm D0 tys As wc wc2 r) (isC isR isF : List Nat) (wr : va_W) (hsC : isC.map (fun i => ws[i]?) = wc.map some) (hnC : va_nd isC = true) (hsR : isR.map (fun i => ws[i]?) = wr.map some) (hnR : va_nd isR = true) (hdis : ∀ i ∈ isR, i ∉ isC) (ws' : va_W) (hsF : isF.map (fun i => (wr ++ wc2)[i]?) = ws'.map some) (hnF : va_nd isF = true) {st : List Value} (hst : st = As.reverse ++ rest) (hd : decode cc pc = .ok (.invokestatic index, 3)) (kk : Z K (n + rm.cells) (k + rm.slots) ws' lv (pc + 3) (.int r :: rest)) : Z K n k ws lv pc st := by
  obtain ⟨p, l, e, R, s, m, args, below, meth, c, nL, D, A, Q⟩ := K
  obtain ⟨hx, hb, hml, hown, hts, hK, hA, hN, hlk⟩ := hC
  obtain ⟨hX, hbl, rfl⟩ := hSc
  have hThW : ThW s := hTh
  intro H locs ls hP hD hS hl
  have hR0 : R = R0 := hR0
  have hD0 : D = D0 := hD0
  have hl0 : l = l0 := hl0
  subst hR0
  subst hD0
  subst hl0
  have hPc := hP.subM isC hsC
  have hDc := hD.sub isC hnC hsC
  have hFc := va_free (wc := wc) hD hS hA isC hsC
  have ok : ∀ w ∈ va_wsS own index y wy, w.before args s = true := fun w h => hts w (hG w h).1
  have hws : ∀ w ∈ wy, ∀ (a' : Array Value) (U : State), s.WarmedH U.vm → w.before a' U = true := fun w hw9 a' U hW => word_at hW (hG w (by unfold va_wsS; exact List.mem_append_right _ hw9)).2 (ok w (by unfold va_wsS; exact List.mem_append_right _ hw9))
  have hcw : Cond.codeWith y bytes maxL ret hh ∈ wy := by rw [hw]; exact List.mem_cons_self
  have hcode : (Cond.codeWith y bytes maxL ret hh).before args s = true := ok _ (by unfold va_wsS; exact List.mem_append_right _ hcw)
  have hlink : (Cond.methodLink own index y).before args s = true := ok _ (by simp [va_wsS])
  have hstat : (Cond.static y).before args s = true := ok _ (by simp [va_wsS])
  have hini : (Cond.initialized y.cls).before args s = true := ok _ (by simp [va_wsS])
  intro T0 hT X
  obtain ⟨mk, methM, cM, hnamed, hmethM, hcM, -, hlM, -, -, -, hsigM⟩ := Cond.codeWith_spec hcode
  have hstatic : methM.isStatic = true := Cond.static_spec hnamed hmethM hstat
  obtain ⟨kP, hkP, -⟩ := className_of_methodNamed hnamed
  have hinitP : kP.init = .initialized := Cond.initialized_spec (findClass_of_methodNamed hnamed) hkP hini
  have hlenY : As.length = methM.sig.parameters.length := by
    rw [hsigM] at hpd
    rw [hlen]
    exact (Option.some.inj hpd).symm
  have hd' : decode c.code (F0 m pc ls st).pc = .ok (.invokestatic index, 3) := by rw [hb]; exact hd
  obtain ⟨vm₁, X₁, hstep₁⟩ := X.invokestatic hx hown hlink hnamed hmethM hstatic hkP hinitP hy0 (g := F0 m pc ls st) rfl (argsL := As) (rest := rest) hlenY hst hd'
  have hst9 : ∀ (q : Nat) (c : Cell), s.heap[q]? = some c → c.vm.isStatics = true → T0.heap[q]? = some c := fun q c h1 h2 => by
    rw [hT, hS.2.1 q (Array.getElem?_eq_some_iff.mp h1).1 (Nat.not_le.mpr (Array.getElem?_eq_some_iff.mp h1).1)]
    exact h1
  have hblind : FrameBlind (va_Pc As (fun U => Pw D tys wc H.size U ∧ ThW U)) := fun a U g mk q => by
    obtain ⟨q0, q1, q2⟩ := q
    exact ⟨q0, (Pw.blind (av := As) a U g mk ⟨q0, q1⟩).2, ThW.moved (s := U) (State.WarmedH.refl U) (fun _ _ h _ => h) q2⟩
  have hB : Back l R p e below s args y 3 8 (PreOf R rm.cells rm.slots (va_Pc As (fun U => Pw D tys wc H.size U ∧ ThW U))) (PostOf (va_Qi (fun (x : Int32) (_ : Unit) => x = r) (Bw D tys (va_A wc H.size) wc2) (va_A wc H.size)) rm.cells rm.slots (va_A wc H.size)) :=
    va_backW (hh := hh) (bytes := bytes) (maxL := maxL) (ret := ret) (hM H.size) hblind rfl rfl hroom.1 hroom.2 hws hcw (fun a' U hW => word_at hW (Or.inl (by first | rfl | simp [Cond.onTables, Cond.keeps, Cond.steady])) hini)
  have hPw : Pw D tys wc H.size (T0.setVm vm₁) := ⟨by show T0.heap.size = _; rw [hT], by show va_P D vwCl wc T0.heap; rw [hT]; exact hPc, va_K.moved X₁.warmed.alike hK, hDc.weaken (fun _ _ _ _ => trivial), NW.moved X₁.warmed hN⟩
  have hth2 : ThW (T0.setVm vm₁) := ThW.moved (s := s) X₁.warmed hst9 hThW
  obtain ⟨v, B, X', hpost, hsteps⟩ := hB m meth c (T0.setVm vm₁, locs, n, k) (F0 m pc ls rest) (.invokestatic index) mk As.toArray X₁ rfl (by rw [hml]; exact hl.1) hd' (lv_room hrest) (X₁.named hnamed) ⟨hcs.1, hcs.2, rfl, hPw, hth2⟩
  obtain ⟨U', l2, c2, s2⟩ := B
  obtain ⟨g', mk', t, LL, e1, e2, hq, h1, hL, h2, h3⟩ := hpost
  dsimp only [Pt.U, Pt.locs, Pt.cells, Pt.slots] at X' e1 e2 h1 h2 h3 hsteps
  subst h1; subst h2; subst h3
  obtain ⟨⟨x, u, hv, hw2, hP1, hK1, hD1⟩, hz, hk1⟩ := hq
  cases hv
  have hw3 : x = r := hw2
  subst hw3
  have hz' : H.size ≤ t.heap.size := by
    have h9 : T0.heap.size ≤ t.heap.size := hz
    rw [hT] at h9
    exact h9
  have hk' : ∀ q : Nat, q < H.size → ¬ va_A wc H.size q → t.heap[q]? = H[q]? := fun q h1 h2 => by
    have h9 := hk1 q (by show q < T0.heap.size; rw [hT]; exact h1) h2
    rw [h9]
    show T0.heap[q]? = _
    rw [hT]
  obtain ⟨hP2, hD2⟩ := va_join (wr := wr) (w1 := wc2) hP hD isC isR hsC hsR hnR hdis hk' hFc hP1 hD1
  have hS1 : va_S (fun q => s.heap.size ≤ q) s.heap t.heap (locs ++ LL) := ⟨Nat.le_trans hS.1 hz', fun q h1 h2 => by rw [hk' q (Nat.lt_of_lt_of_le h1 hS.1) (fun z => h2 (hFc q z))]; exact hS.2.1 q h1 h2, fun q hq => by
      rcases List.mem_append.mp hq with h | h
      · exact hS.2.2 q h
      · exact hFc _ (hL q h)⟩
  obtain ⟨t2, a1, b1⟩ := kk t.heap (locs ++ LL) ls (hP2.subM isF hsF) (hD2.sub isF hnF hsF) hS1 hl U' e1 X'
  refine ⟨t2, hstep₁ _ (fun acts => ?_), b1⟩
  rw [doInvoke_state]
  exact hsteps.trans a1
end ZLW
