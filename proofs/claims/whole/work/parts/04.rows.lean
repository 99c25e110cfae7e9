/-! our own judgement over the kit: Z K n k ws lv pc st: with the cells ws and the locals lv, at pc with the stack st, the method comes to its end -/
def nwF : List (String × Nat × String × String × String) := [(RX3, 108, "ElCompletion$Proof", "count", "I"), (RX3, 109, "ElCompletion$Proof", "rows", "[I"), (RX3, 42, "ElCompletion$Axioms", "count", "I"), (RX3, 72, "ElCompletion$Closure", "roundCount", "I"), (RX3, 75, "ElCompletion$Closure", "factCount", "I"), (RX3, 85, "ElCompletion$Closure", "order", "[I"), (RX1, 55, "ElCompletion$Axioms", "count", "I"), (RX1, 83, "ElCompletion$Axioms", "kind", "[I"), (RX1, 86, "ElCompletion$Axioms", "a", "[I"), (RX1, 96, "ElCompletion$Axioms", "b", "[I"), (RX1, 99, "ElCompletion$Axioms", "c", "[I"), (RX2, 39, "ElCompletion$Closure", "factCount", "I"), (RX2, 42, "ElCompletion$Closure", "order", "[I")]
def nwM : List (String × Nat × MethodName) := [(RX3, 101, yX1_secondPremiseOf), (RX3, 104, yX2_take), (RX3, 11, yX0_init), (RX3, 112, yX1_leastSame), (RX3, 115, yX1_parentOf), (RX3, 118, yX1_fill), (RX3, 18, yX1_init), (RX3, 25, yX2_init), (RX3, 45, yX0_append), (RX3, 49, yX0_remove), (RX3, 61, yX1_has), (RX3, 89, yX1_follows), (RX3, 92, yX1_roundOf), (RX3, 95, yX1_axiomOf), (RX3, 98, yX1_firstPremiseOf), (RX1, 112, yX3_isIn), (RX1, 116, yX3_codeOf), (RX1, 92, yX3_linkColumn), (RX2, 23, yX1_follows), (RX2, 48, yX1_firstPremiseOf), (RX2, 52, yX1_secondPremiseOf)]
def NW (U : State) : Prop := (∀ q ∈ nwF, va_Nw (.fieldLinkNest q.1 q.2.1 q.2.2.1 q.2.2.2.1 q.2.2.2.2 RX3) U) ∧ ∀ q ∈ nwM, va_Nw (.methodLinkNest q.1 q.2.1 q.2.2 RX3) U
theorem NW.moved {s U : State} (hW : s.WarmedH U.vm) (h : NW s) : NW U := ⟨fun q hq => va_Nw.warmF hW (h.1 q hq), fun q hq => va_Nw.warmM hW (h.2 q hq)⟩
theorem NW.same {s U : State} (e : s.vm = U.vm) (h : NW s) : NW U := ⟨fun q hq => va_Nw.same rfl e (h.1 q hq), fun q hq => va_Nw.same rfl e (h.2 q hq)⟩
theorem NW.f {s : State} {args : Array Value} (h : NW s) {a : String} {i : Nat} {b nm d : String} (hm : (a, i, b, nm, d) ∈ nwF) : (Cond.fieldLinkNest a i b nm d RX3).before args s = true := va_Nw.use rfl (h.1 _ hm)
theorem NW.m {s : State} (h : NW s) {a : String} {i : Nat} {y : MethodName} (hm : (a, i, y) ∈ nwM) : va_Nw (.methodLinkNest a i y RX3) s := h.2 _ hm
abbrev KT : Type := Program × Launch × Env × Room × State × MethodId × Array Value × List Frame × Method × Code × Nat × va_G × (Nat → Prop) × (State → Prop)
def Z (K : KT) (n k : Nat) (ws : va_W) (lv : List (Nat × Value)) (pc : Nat) (st : List Value) : Prop := match K with
  | (p, l, e, R, s, m, args, below, meth, c, nL, D, A, Q) => ∀ (H : Heap) (locs : List Loc) (ls : Array Slot), va_P D vwCl ws H → va_D A ws → va_S A s.heap H locs → lv_has ls nL lv → W p l e R s m args below meth c H locs n k Q (F0 m pc ls st)
def Cx (K : KT) (cc : ByteArray) (own : String) (Ts : List Cond) (tys : List (ClassId × FieldType)) : Prop := match K with
  | (p, _, _, _, s, m, args, _, meth, c, nL, D, A, _) => p.tables.exec = Jvm.exec ∧ c.code = cc ∧ c.maxLocals = nL ∧ s.vm.findClass own = some m.cls ∧ (∀ w ∈ Ts, w.before args s = true) ∧ va_K D vwCl tys s ∧ (∀ q : Nat, s.heap.size ≤ q → A q) ∧ NW s ∧ meth.locks = false
/-- the room of the method -/
def Rm (K : KT) (rm : Room) : Prop := match K with
  | (_, _, _, R, _, _, _, _, _, _, _, _, _, _) => R = rm
def NLis (K : KT) (N : Nat) : Prop := match K with
  | (_, _, _, _, _, _, _, _, _, _, nL, _, _, _) => nL = N
def Dis (K : KT) (D0 : va_G) : Prop := match K with
  | (_, _, _, _, _, _, _, _, _, _, _, D, _, _) => D = D0
def Lis (K : KT) (l0 : Launch) : Prop := match K with
  | (_, l, _, _, _, _, _, _, _, _, _, _, _, _) => l = l0
/-- a method's world before and behind it -/
def Pw (D : va_G) (tys : List (ClassId × FieldType)) (ws : va_W) (sz : Nat) (U : State) : Prop := U.heap.size = sz ∧ va_P D vwCl ws U.heap ∧ va_K D vwCl tys U ∧ va_D (fun _ => True) ws ∧ NW U
def Bw (D : va_G) (tys : List (ClassId × FieldType)) (A : Nat → Prop) (ws : va_W) (_ : Unit) (t : State) : Prop := va_P D vwCl ws t.heap ∧ va_K D vwCl tys t ∧ va_D A ws
theorem Pw.blind {D : va_G} {tys : List (ClassId × FieldType)} {ws : va_W} {sz : Nat} {av : List Value} : FrameBlind (va_Pc av (Pw D tys ws sz)) := fun a U g mk q => by
  obtain ⟨q0, q1, qP, qK, qD, qN⟩ := q
  exact ⟨q0, q1, qP, va_K.moved (u := U) (U := U.calling g mk a) (Vm.Alike.refl U.vm) qK, qD, NW.same (s := U) rfl qN⟩
/-- contracts: from the world w to the world w2, answer r (int, none, long) -/
def MI (l : Launch) (y : MethodName) (wy : List Cond) (rm : Room) (D : va_G) (tys : List (ClassId × FieldType)) (av : List Value) (w w2 : va_W) (r : Int32) : Prop := ∀ sz : Nat, Met l y wy rm (va_Pc av (Pw D tys w sz)) (va_Qi (fun (x : Int32) (_ : Unit) => x = r) (Bw D tys (va_A w sz) w2) (va_A w sz)) rm.cells rm.slots (va_A w sz)
def MV (l : Launch) (y : MethodName) (wy : List Cond) (rm : Room) (D : va_G) (tys : List (ClassId × FieldType)) (av : List Value) (w w2 : va_W) : Prop := ∀ sz : Nat, Met l y wy rm (va_Pc av (Pw D tys w sz)) (va_Qv (fun (_ : Unit) => True) (Bw D tys (va_A w sz) w2) (va_A w sz)) rm.cells rm.slots (va_A w sz)
def MA (l : Launch) (y : MethodName) (wy : List Cond) (rm : Room) (D : va_G) (tys : List (ClassId × FieldType)) (av : List Value) (w w2 : va_W) (r : Nat) : Prop := ∀ sz : Nat, Met l y wy rm (va_Pc av (Pw D tys w sz)) (va_Qr (fun (_ : Unit) => True) (fun (u : Unit) (a : Nat) (t : State) => a = r ∧ Bw D tys (va_A w sz) w2 u t) (va_A w sz)) rm.cells rm.slots (va_A w sz)
/-- what a method must come to -/
def RI (K : KT) (n k : Nat) (tys : List (ClassId × FieldType)) (w2 : va_W) (r : Int32) : Prop := match K with
  | (_, _, _, _, s, _, args, below, _, _, _, D, A, Q) => Q = MQ below (va_Qi (fun (x : Int32) (_ : Unit) => x = r) (Bw D tys A w2) A) args s n k A
def RV (K : KT) (n k : Nat) (tys : List (ClassId × FieldType)) (w2 : va_W) : Prop := match K with
  | (_, _, _, _, s, _, args, below, _, _, _, D, A, Q) => Q = MQ below (va_Qv (fun (_ : Unit) => True) (Bw D tys A w2) A) args s n k A
def RA (K : KT) (n k : Nat) (tys : List (ClassId × FieldType)) (w2 : va_W) (r : Nat) : Prop := match K with
  | (_, _, _, _, s, _, args, below, _, _, _, D, A, Q) => Q = MQ below (va_Qr (fun (_ : Unit) => True) (fun (u : Unit) (a : Nat) (t : State) => a = r ∧ Bw D tys A w2 u t) A) args s n k A
def RetT (K : KT) (ty : Option FieldType) : Prop := match K with
  | (_, _, _, _, _, _, _, _, meth, _, _, _, _, _) => meth.sig.returnType = ty
def IsInit (K : KT) : Prop := match K with
  | (_, _, _, _, _, _, _, _, meth, _, _, _, _, _) => meth.name = "<init>"

theorem metI_of {l : Launch} {y : MethodName} {wy wy' : List Cond} {rm : Room} {D : va_G} {tys : List (ClassId × FieldType)} {av : List Value} {w w2 : va_W} {r : Int32} {cc : ByteArray} {maxL : Nat} {ret : Option FieldType} (hy : plainName y.cls = true) (hw : wy = Cond.code y cc maxL ret :: wy') (hm : (lg_sl av).length ≤ maxL)
    (body : ∀ K : KT, Cx K cc y.cls wy tys → Rm K rm → NLis K maxL → Dis K D → Lis K l → RetT K ret → (y.name = "<init>" → IsInit K) → RI K rm.cells rm.slots tys w2 r → Z K 0 0 w (lv_args 0 av) 0 []) : MI l y wy rm D tys av w w2 r := by
  intro sz
  refine Met.ofW (cc := cc) (maxL := maxL) (ret := ret) hy hw ?_
  intro p e s m args below meth c s₁ B hml hv
  obtain ⟨rfl, hsz, hP, hK, hD0, hN⟩ := hv
  have hts := atoms_spec (ws := wy) B.pre
  have hown : s.vm.findClass y.cls = some m.cls := findClass_of_methodNamed B.named
  subst hsz
  have hD := hD0.self (sz := s.heap.size)
  have hA : ∀ q : Nat, s.heap.size ≤ q → va_A w s.heap.size q := fun q h => Or.inr h
  have hl := lv_entry av (n := maxL) hm
  rw [lg_entry_eq]
  exact body (p, l, e, (headSpec wy rm).room, s, m, av.toArray, below, meth, c, maxL, D, va_A w s.heap.size, _) ⟨B.exec, B.bytes, hml, hown, hts, hK, hA, hN, B.notSynchronized⟩ rfl rfl rfl rfl B.returns (fun h => (name_of_methodNamed B.named B.method).1.trans h) rfl s.heap [] _ hP hD va_S.rf hl
theorem metV_of {l : Launch} {y : MethodName} {wy wy' : List Cond} {rm : Room} {D : va_G} {tys : List (ClassId × FieldType)} {av : List Value} {w w2 : va_W} {cc : ByteArray} {maxL : Nat} {ret : Option FieldType} (hy : plainName y.cls = true) (hw : wy = Cond.code y cc maxL ret :: wy') (hm : (lg_sl av).length ≤ maxL)
    (body : ∀ K : KT, Cx K cc y.cls wy tys → Rm K rm → NLis K maxL → Dis K D → Lis K l → RetT K ret → (y.name = "<init>" → IsInit K) → RV K rm.cells rm.slots tys w2 → Z K 0 0 w (lv_args 0 av) 0 []) : MV l y wy rm D tys av w w2 := by
  intro sz
  refine Met.ofW (cc := cc) (maxL := maxL) (ret := ret) hy hw ?_
  intro p e s m args below meth c s₁ B hml hv
  obtain ⟨rfl, hsz, hP, hK, hD0, hN⟩ := hv
  have hts := atoms_spec (ws := wy) B.pre
  have hown : s.vm.findClass y.cls = some m.cls := findClass_of_methodNamed B.named
  subst hsz
  have hD := hD0.self (sz := s.heap.size)
  have hA : ∀ q : Nat, s.heap.size ≤ q → va_A w s.heap.size q := fun q h => Or.inr h
  have hl := lv_entry av (n := maxL) hm
  rw [lg_entry_eq]
  exact body (p, l, e, (headSpec wy rm).room, s, m, av.toArray, below, meth, c, maxL, D, va_A w s.heap.size, _) ⟨B.exec, B.bytes, hml, hown, hts, hK, hA, hN, B.notSynchronized⟩ rfl rfl rfl rfl B.returns (fun h => (name_of_methodNamed B.named B.method).1.trans h) rfl s.heap [] _ hP hD va_S.rf hl
theorem metA_of {l : Launch} {y : MethodName} {wy wy' : List Cond} {rm : Room} {D : va_G} {tys : List (ClassId × FieldType)} {av : List Value} {w w2 : va_W} {r : Nat} {cc : ByteArray} {maxL : Nat} {ret : Option FieldType} (hy : plainName y.cls = true) (hw : wy = Cond.code y cc maxL ret :: wy') (hm : (lg_sl av).length ≤ maxL)
    (body : ∀ K : KT, Cx K cc y.cls wy tys → Rm K rm → NLis K maxL → Dis K D → Lis K l → RetT K ret → (y.name = "<init>" → IsInit K) → RA K rm.cells rm.slots tys w2 r → Z K 0 0 w (lv_args 0 av) 0 []) : MA l y wy rm D tys av w w2 r := by
  intro sz
  refine Met.ofW (cc := cc) (maxL := maxL) (ret := ret) hy hw ?_
  intro p e s m args below meth c s₁ B hml hv
  obtain ⟨rfl, hsz, hP, hK, hD0, hN⟩ := hv
  have hts := atoms_spec (ws := wy) B.pre
  have hown : s.vm.findClass y.cls = some m.cls := findClass_of_methodNamed B.named
  subst hsz
  have hD := hD0.self (sz := s.heap.size)
  have hA : ∀ q : Nat, s.heap.size ≤ q → va_A w s.heap.size q := fun q h => Or.inr h
  have hl := lv_entry av (n := maxL) hm
  rw [lg_entry_eq]
  exact body (p, l, e, (headSpec wy rm).room, s, m, av.toArray, below, meth, c, maxL, D, va_A w s.heap.size, _) ⟨B.exec, B.bytes, hml, hown, hts, hK, hA, hN, B.notSynchronized⟩ rfl rfl rfl rfl B.returns (fun h => (name_of_methodNamed B.named B.method).1.trans h) rfl s.heap [] _ hP hD va_S.rf hl
section ZR
variable {K : KT} {cc : ByteArray} {own : String} {Ts : List Cond} {tys : List (ClassId × FieldType)} {n k : Nat} {ws : va_W} {lv : List (Nat × Value)} {pc : Nat} {rest : List Value}
theorem z_iconst (hC : Cx K cc own Ts tys) {i : Int} {v : Int32} (hd : decode cc pc = .ok (.iconst i, 1)) (hv : Int32.ofInt i = v) (kk : Z K n k ws lv (pc + 1) (.int v :: rest)) : Z K n k ws lv (pc) (rest) := by
  obtain ⟨p, l, e, R, s, m, args, below, meth, c, nL, D, A, Q⟩ := K
  obtain ⟨hx, hb, hml, hown, hts, hK, hA, hN, hlk⟩ := hC
  intro H locs ls hP hD hS hl
  exact lv_iconst hx hb hd hv (kk H locs ls hP hD hS hl)
theorem z_bipush (hC : Cx K cc own Ts tys) {i : Int} {v : Int32} (hd : decode cc pc = .ok (.bipush i, 2)) (hv : (Int8.ofInt i).toInt32 = v) (kk : Z K n k ws lv (pc + 2) (.int v :: rest)) : Z K n k ws lv (pc) (rest) := by
  obtain ⟨p, l, e, R, s, m, args, below, meth, c, nL, D, A, Q⟩ := K
  obtain ⟨hx, hb, hml, hown, hts, hK, hA, hN, hlk⟩ := hC
  intro H locs ls hP hD hS hl
  exact lv_bipush hx hb hd hv (kk H locs ls hP hD hS hl)
theorem z_sipush (hC : Cx K cc own Ts tys) {i : Int} {v : Int32} (hd : decode cc pc = .ok (.sipush i, 3)) (hv : (Int16.ofInt i).toInt32 = v) (kk : Z K n k ws lv (pc + 3) (.int v :: rest)) : Z K n k ws lv (pc) (rest) := by
  obtain ⟨p, l, e, R, s, m, args, below, meth, c, nL, D, A, Q⟩ := K
  obtain ⟨hx, hb, hml, hown, hts, hK, hA, hN, hlk⟩ := hC
  intro H locs ls hP hD hS hl
  exact lv_sipush hx hb hd hv (kk H locs ls hP hD hS hl)
theorem z_lconst (hC : Cx K cc own Ts tys) {i : Fin 2} {v : Int64} (hd : decode cc pc = .ok (.lconst i, 1)) (hv : Int64.ofNat (i : Nat) = v) (kk : Z K n k ws lv (pc + 1) (.long v :: rest)) : Z K n k ws lv (pc) (rest) := by
  obtain ⟨p, l, e, R, s, m, args, below, meth, c, nL, D, A, Q⟩ := K
  obtain ⟨hx, hb, hml, hown, hts, hK, hA, hN, hlk⟩ := hC
  intro H locs ls hP hD hS hl
  exact lv_lconst hx hb hd hv (kk H locs ls hP hD hS hl)
theorem z_ldc2 (hC : Cx K cc own Ts tys) {index : Nat} {v : Int64} (hc : (Cond.constantLong own index v) ∈ Ts) (hd : decode cc pc = .ok (.ldc2_w index, 3)) (kk : Z K n k ws lv (pc + 3) (.long v :: rest)) : Z K n k ws lv (pc) (rest) := by
  obtain ⟨p, l, e, R, s, m, args, below, meth, c, nL, D, A, Q⟩ := K
  obtain ⟨hx, hb, hml, hown, hts, hK, hA, hN, hlk⟩ := hC
  intro H locs ls hP hD hS hl
  exact lv_ldc2 hx hb hown (hts _ hc) hd (kk H locs ls hP hD hS hl)
theorem z_iload_n (hC : Cx K cc own Ts tys) {j : Fin 4} {x : Int32} (q : Nat) (hd : decode cc pc = .ok (.iload_n j, 1)) (hq : lv[q]? = some ((j : Nat), .int x)) (kk : Z K n k ws lv (pc + 1) (.int x :: rest)) : Z K n k ws lv (pc) (rest) := by
  obtain ⟨p, l, e, R, s, m, args, below, meth, c, nL, D, A, Q⟩ := K
  obtain ⟨hx, hb, hml, hown, hts, hK, hA, hN, hlk⟩ := hC
  intro H locs ls hP hD hS hl
  exact lv_iload_n hx hb hd rfl (lv_at hl q hq) (kk H locs ls hP hD hS hl)
theorem z_iload (hC : Cx K cc own Ts tys) {j : Nat} {x : Int32} (q : Nat) (hd : decode cc pc = .ok (.iload j, 2)) (hq : lv[q]? = some (j, .int x)) (kk : Z K n k ws lv (pc + 2) (.int x :: rest)) : Z K n k ws lv (pc) (rest) := by
  obtain ⟨p, l, e, R, s, m, args, below, meth, c, nL, D, A, Q⟩ := K
  obtain ⟨hx, hb, hml, hown, hts, hK, hA, hN, hlk⟩ := hC
  intro H locs ls hP hD hS hl
  exact lv_iload hx hb hd (lv_at hl q hq) (kk H locs ls hP hD hS hl)
theorem z_lload_n (hC : Cx K cc own Ts tys) {j : Fin 4} {x : Int64} (q : Nat) (hd : decode cc pc = .ok (.lload_n j, 1)) (hq : lv[q]? = some ((j : Nat), .long x)) (kk : Z K n k ws lv (pc + 1) (.long x :: rest)) : Z K n k ws lv (pc) (rest) := by
  obtain ⟨p, l, e, R, s, m, args, below, meth, c, nL, D, A, Q⟩ := K
  obtain ⟨hx, hb, hml, hown, hts, hK, hA, hN, hlk⟩ := hC
  intro H locs ls hP hD hS hl
  exact lv_lload_n hx hb hd rfl (lv_at hl q hq) (kk H locs ls hP hD hS hl)
theorem z_lload (hC : Cx K cc own Ts tys) {j : Nat} {x : Int64} (q : Nat) (hd : decode cc pc = .ok (.lload j, 2)) (hq : lv[q]? = some (j, .long x)) (kk : Z K n k ws lv (pc + 2) (.long x :: rest)) : Z K n k ws lv (pc) (rest) := by
  obtain ⟨p, l, e, R, s, m, args, below, meth, c, nL, D, A, Q⟩ := K
  obtain ⟨hx, hb, hml, hown, hts, hK, hA, hN, hlk⟩ := hC
  intro H locs ls hP hD hS hl
  exact lv_lload hx hb hd (lv_at hl q hq) (kk H locs ls hP hD hS hl)
theorem z_aload_n (hC : Cx K cc own Ts tys) {j : Fin 4} {x : Nat} (q : Nat) (hd : decode cc pc = .ok (.aload_n j, 1)) (hq : lv[q]? = some ((j : Nat), .ref x)) (kk : Z K n k ws lv (pc + 1) (.ref x :: rest)) : Z K n k ws lv (pc) (rest) := by
  obtain ⟨p, l, e, R, s, m, args, below, meth, c, nL, D, A, Q⟩ := K
  obtain ⟨hx, hb, hml, hown, hts, hK, hA, hN, hlk⟩ := hC
  intro H locs ls hP hD hS hl
  exact lv_aload_n hx hb hd rfl (lv_at hl q hq) (kk H locs ls hP hD hS hl)
theorem z_aload (hC : Cx K cc own Ts tys) {j : Nat} {x : Nat} (q : Nat) (hd : decode cc pc = .ok (.aload j, 2)) (hq : lv[q]? = some (j, .ref x)) (kk : Z K n k ws lv (pc + 2) (.ref x :: rest)) : Z K n k ws lv (pc) (rest) := by
  obtain ⟨p, l, e, R, s, m, args, below, meth, c, nL, D, A, Q⟩ := K
  obtain ⟨hx, hb, hml, hown, hts, hK, hA, hN, hlk⟩ := hC
  intro H locs ls hP hD hS hl
  exact lv_aload hx hb hd (lv_at hl q hq) (kk H locs ls hP hD hS hl)
theorem z_istore_n (hC : Cx K cc own Ts tys) {j : Fin 4} {x : Int32} {N : Nat} (hN0 : NLis K N) (lv' : List (Nat × Value)) (hd : decode cc pc = .ok (.istore_n j, 1)) (hn : (j : Nat) < N) (hl' : ((j : Nat), Value.int x) :: lv.filter (fun q => !(q.1 == (j : Nat)) && !(q.1 + 1 == (j : Nat) && q.2.category == 2)) = lv') (kk : Z K n k ws lv' (pc + 1) (rest)) : Z K n k ws lv (pc) (.int x :: rest) := by
  obtain ⟨p, l, e, R, s, m, args, below, meth, c, nL, D, A, Q⟩ := K
  obtain ⟨hx, hb, hml, hown, hts, hK, hA, hN, hlk⟩ := hC
  intro H locs ls hP hD hS hl
  exact lv_istore_n hx hb hd rfl hl (by rw [show nL = N from hN0]; exact hn) hl' (fun ls2 hl2 => kk H locs ls2 hP hD hS hl2)
theorem z_istore (hC : Cx K cc own Ts tys) {j : Nat} {x : Int32} {N : Nat} (hN0 : NLis K N) (lv' : List (Nat × Value)) (hd : decode cc pc = .ok (.istore j, 2)) (hn : j < N) (hl' : (j, Value.int x) :: lv.filter (fun q => !(q.1 == j) && !(q.1 + 1 == j && q.2.category == 2)) = lv') (kk : Z K n k ws lv' (pc + 2) (rest)) : Z K n k ws lv (pc) (.int x :: rest) := by
  obtain ⟨p, l, e, R, s, m, args, below, meth, c, nL, D, A, Q⟩ := K
  obtain ⟨hx, hb, hml, hown, hts, hK, hA, hN, hlk⟩ := hC
  intro H locs ls hP hD hS hl
  exact lv_istore hx hb hd hl (by rw [show nL = N from hN0]; exact hn) hl' (fun ls2 hl2 => kk H locs ls2 hP hD hS hl2)
theorem z_astore_n (hC : Cx K cc own Ts tys) {j : Fin 4} {x : Nat} {N : Nat} (hN0 : NLis K N) (lv' : List (Nat × Value)) (hd : decode cc pc = .ok (.astore_n j, 1)) (hn : (j : Nat) < N) (hl' : ((j : Nat), Value.ref x) :: lv.filter (fun q => !(q.1 == (j : Nat)) && !(q.1 + 1 == (j : Nat) && q.2.category == 2)) = lv') (kk : Z K n k ws lv' (pc + 1) (rest)) : Z K n k ws lv (pc) (.ref x :: rest) := by
  obtain ⟨p, l, e, R, s, m, args, below, meth, c, nL, D, A, Q⟩ := K
  obtain ⟨hx, hb, hml, hown, hts, hK, hA, hN, hlk⟩ := hC
  intro H locs ls hP hD hS hl
  exact lv_astore_n hx hb hd rfl hl (by rw [show nL = N from hN0]; exact hn) hl' (fun ls2 hl2 => kk H locs ls2 hP hD hS hl2)
theorem z_astore (hC : Cx K cc own Ts tys) {j : Nat} {x : Nat} {N : Nat} (hN0 : NLis K N) (lv' : List (Nat × Value)) (hd : decode cc pc = .ok (.astore j, 2)) (hn : j < N) (hl' : (j, Value.ref x) :: lv.filter (fun q => !(q.1 == j) && !(q.1 + 1 == j && q.2.category == 2)) = lv') (kk : Z K n k ws lv' (pc + 2) (rest)) : Z K n k ws lv (pc) (.ref x :: rest) := by
  obtain ⟨p, l, e, R, s, m, args, below, meth, c, nL, D, A, Q⟩ := K
  obtain ⟨hx, hb, hml, hown, hts, hK, hA, hN, hlk⟩ := hC
  intro H locs ls hP hD hS hl
  exact lv_astore hx hb hd hl (by rw [show nL = N from hN0]; exact hn) hl' (fun ls2 hl2 => kk H locs ls2 hP hD hS hl2)
theorem z_iinc (hC : Cx K cc own Ts tys) {j q N : Nat} {i : Int} {x v : Int32} (hN0 : NLis K N) (lv' : List (Nat × Value)) (hd : decode cc pc = .ok (.iinc j i, 3)) (hq : lv[q]? = some (j, .int x)) (hv : x + Int32.ofInt i = v) (hn : j < N) (hl' : (j, Value.int v) :: lv.filter (fun q => !(q.1 == j) && !(q.1 + 1 == j && q.2.category == 2)) = lv') (kk : Z K n k ws lv' (pc + 3) (rest)) : Z K n k ws lv (pc) (rest) := by
  obtain ⟨p, l, e, R, s, m, args, below, meth, c, nL, D, A, Q⟩ := K
  obtain ⟨hx, hb, hml, hown, hts, hK, hA, hN, hlk⟩ := hC
  intro H locs ls hP hD hS hl
  exact lv_iinc hx hb hd hl hq hv (by rw [show nL = N from hN0]; exact hn) hl' (fun ls2 hl2 => kk H locs ls2 hP hD hS hl2)
theorem z_iadd (hC : Cx K cc own Ts tys) {x y v : Int32} (hd : decode cc pc = .ok (.iadd, 1)) (hv : x + y = v) (kk : Z K n k ws lv (pc + 1) (.int v :: rest)) : Z K n k ws lv (pc) (.int y :: .int x :: rest) := by
  obtain ⟨p, l, e, R, s, m, args, below, meth, c, nL, D, A, Q⟩ := K
  obtain ⟨hx, hb, hml, hown, hts, hK, hA, hN, hlk⟩ := hC
  intro H locs ls hP hD hS hl
  subst hv
  exact lv_iadd hx hb hd (kk H locs ls hP hD hS hl)
theorem z_isub (hC : Cx K cc own Ts tys) {x y v : Int32} (hd : decode cc pc = .ok (.isub, 1)) (hv : x - y = v) (kk : Z K n k ws lv (pc + 1) (.int v :: rest)) : Z K n k ws lv (pc) (.int y :: .int x :: rest) := by
  obtain ⟨p, l, e, R, s, m, args, below, meth, c, nL, D, A, Q⟩ := K
  obtain ⟨hx, hb, hml, hown, hts, hK, hA, hN, hlk⟩ := hC
  intro H locs ls hP hD hS hl
  subst hv
  exact lv_isub hx hb hd (kk H locs ls hP hD hS hl)
theorem z_imul (hC : Cx K cc own Ts tys) {x y v : Int32} (hd : decode cc pc = .ok (.imul, 1)) (hv : x * y = v) (kk : Z K n k ws lv (pc + 1) (.int v :: rest)) : Z K n k ws lv (pc) (.int y :: .int x :: rest) := by
  obtain ⟨p, l, e, R, s, m, args, below, meth, c, nL, D, A, Q⟩ := K
  obtain ⟨hx, hb, hml, hown, hts, hK, hA, hN, hlk⟩ := hC
  intro H locs ls hP hD hS hl
  subst hv
  exact lv_imul hx hb hd (kk H locs ls hP hD hS hl)
theorem z_iand (hC : Cx K cc own Ts tys) {x y v : Int32} (hd : decode cc pc = .ok (.iand, 1)) (hv : x &&& y = v) (kk : Z K n k ws lv (pc + 1) (.int v :: rest)) : Z K n k ws lv (pc) (.int y :: .int x :: rest) := by
  obtain ⟨p, l, e, R, s, m, args, below, meth, c, nL, D, A, Q⟩ := K
  obtain ⟨hx, hb, hml, hown, hts, hK, hA, hN, hlk⟩ := hC
  intro H locs ls hP hD hS hl
  subst hv
  exact lv_iand hx hb hd (kk H locs ls hP hD hS hl)
theorem z_ior (hC : Cx K cc own Ts tys) {x y v : Int32} (hd : decode cc pc = .ok (.ior, 1)) (hv : x ||| y = v) (kk : Z K n k ws lv (pc + 1) (.int v :: rest)) : Z K n k ws lv (pc) (.int y :: .int x :: rest) := by
  obtain ⟨p, l, e, R, s, m, args, below, meth, c, nL, D, A, Q⟩ := K
  obtain ⟨hx, hb, hml, hown, hts, hK, hA, hN, hlk⟩ := hC
  intro H locs ls hP hD hS hl
  subst hv
  exact lv_ior hx hb hd (kk H locs ls hP hD hS hl)
theorem z_ixor (hC : Cx K cc own Ts tys) {x y v : Int32} (hd : decode cc pc = .ok (.ixor, 1)) (hv : x ^^^ y = v) (kk : Z K n k ws lv (pc + 1) (.int v :: rest)) : Z K n k ws lv (pc) (.int y :: .int x :: rest) := by
  obtain ⟨p, l, e, R, s, m, args, below, meth, c, nL, D, A, Q⟩ := K
  obtain ⟨hx, hb, hml, hown, hts, hK, hA, hN, hlk⟩ := hC
  intro H locs ls hP hD hS hl
  subst hv
  exact lv_ixor hx hb hd (kk H locs ls hP hD hS hl)
theorem z_ishl (hC : Cx K cc own Ts tys) {x y v : Int32} (hd : decode cc pc = .ok (.ishl, 1)) (hv : x <<< (y &&& 31) = v) (kk : Z K n k ws lv (pc + 1) (.int v :: rest)) : Z K n k ws lv (pc) (.int y :: .int x :: rest) := by
  obtain ⟨p, l, e, R, s, m, args, below, meth, c, nL, D, A, Q⟩ := K
  obtain ⟨hx, hb, hml, hown, hts, hK, hA, hN, hlk⟩ := hC
  intro H locs ls hP hD hS hl
  subst hv
  exact lv_ishl hx hb hd (kk H locs ls hP hD hS hl)
theorem z_ishr (hC : Cx K cc own Ts tys) {x y v : Int32} (hd : decode cc pc = .ok (.ishr, 1)) (hv : x >>> (y &&& 31) = v) (kk : Z K n k ws lv (pc + 1) (.int v :: rest)) : Z K n k ws lv (pc) (.int y :: .int x :: rest) := by
  obtain ⟨p, l, e, R, s, m, args, below, meth, c, nL, D, A, Q⟩ := K
  obtain ⟨hx, hb, hml, hown, hts, hK, hA, hN, hlk⟩ := hC
  intro H locs ls hP hD hS hl
  subst hv
  exact lv_ishr hx hb hd (kk H locs ls hP hD hS hl)
theorem z_idiv (hC : Cx K cc own Ts tys) {x y v : Int32} (hd : decode cc pc = .ok (.idiv, 1)) (hne : ¬ y = 0) (hv : x / y = v) (kk : Z K n k ws lv (pc + 1) (.int v :: rest)) : Z K n k ws lv (pc) (.int y :: .int x :: rest) := by
  obtain ⟨p, l, e, R, s, m, args, below, meth, c, nL, D, A, Q⟩ := K
  obtain ⟨hx, hb, hml, hown, hts, hK, hA, hN, hlk⟩ := hC
  intro H locs ls hP hD hS hl
  subst hv
  exact lv_idiv hx hb hd hne (kk H locs ls hP hD hS hl)
theorem z_irem (hC : Cx K cc own Ts tys) {x y v : Int32} (hd : decode cc pc = .ok (.irem, 1)) (hne : ¬ y = 0) (hv : x - x / y * y = v) (kk : Z K n k ws lv (pc + 1) (.int v :: rest)) : Z K n k ws lv (pc) (.int y :: .int x :: rest) := by
  obtain ⟨p, l, e, R, s, m, args, below, meth, c, nL, D, A, Q⟩ := K
  obtain ⟨hx, hb, hml, hown, hts, hK, hA, hN, hlk⟩ := hC
  intro H locs ls hP hD hS hl
  subst hv
  exact lv_irem hx hb hd hne (kk H locs ls hP hD hS hl)
theorem z_land (hC : Cx K cc own Ts tys) {x y v : Int64} (hd : decode cc pc = .ok (.land, 1)) (hv : x &&& y = v) (kk : Z K n k ws lv (pc + 1) (.long v :: rest)) : Z K n k ws lv (pc) (.long y :: .long x :: rest) := by
  obtain ⟨p, l, e, R, s, m, args, below, meth, c, nL, D, A, Q⟩ := K
  obtain ⟨hx, hb, hml, hown, hts, hK, hA, hN, hlk⟩ := hC
  intro H locs ls hP hD hS hl
  subst hv
  exact lv_land hx hb hd (kk H locs ls hP hD hS hl)
theorem z_lor (hC : Cx K cc own Ts tys) {x y v : Int64} (hd : decode cc pc = .ok (.lor, 1)) (hv : x ||| y = v) (kk : Z K n k ws lv (pc + 1) (.long v :: rest)) : Z K n k ws lv (pc) (.long y :: .long x :: rest) := by
  obtain ⟨p, l, e, R, s, m, args, below, meth, c, nL, D, A, Q⟩ := K
  obtain ⟨hx, hb, hml, hown, hts, hK, hA, hN, hlk⟩ := hC
  intro H locs ls hP hD hS hl
  subst hv
  exact lv_lor hx hb hd (kk H locs ls hP hD hS hl)
theorem z_i2l (hC : Cx K cc own Ts tys) {x : Int32} {v : Int64} (hd : decode cc pc = .ok (.i2l, 1)) (hv : x.toInt64 = v) (kk : Z K n k ws lv (pc + 1) (.long v :: rest)) : Z K n k ws lv (pc) (.int x :: rest) := by
  obtain ⟨p, l, e, R, s, m, args, below, meth, c, nL, D, A, Q⟩ := K
  obtain ⟨hx, hb, hml, hown, hts, hK, hA, hN, hlk⟩ := hC
  intro H locs ls hP hD hS hl
  exact lv_i2l hx hb hd hv (kk H locs ls hP hD hS hl)
theorem z_l2i (hC : Cx K cc own Ts tys) {x : Int64} {v : Int32} (hd : decode cc pc = .ok (.l2i, 1)) (hv : x.toInt32 = v) (kk : Z K n k ws lv (pc + 1) (.int v :: rest)) : Z K n k ws lv (pc) (.long x :: rest) := by
  obtain ⟨p, l, e, R, s, m, args, below, meth, c, nL, D, A, Q⟩ := K
  obtain ⟨hx, hb, hml, hown, hts, hK, hA, hN, hlk⟩ := hC
  intro H locs ls hP hD hS hl
  exact lv_l2i hx hb hd hv (kk H locs ls hP hD hS hl)
theorem z_lshl (hC : Cx K cc own Ts tys) {x v : Int64} {y : Int32} (hd : decode cc pc = .ok (.lshl, 1)) (hv : x <<< (y.toInt64 &&& 63) = v) (kk : Z K n k ws lv (pc + 1) (.long v :: rest)) : Z K n k ws lv (pc) (.int y :: .long x :: rest) := by
  obtain ⟨p, l, e, R, s, m, args, below, meth, c, nL, D, A, Q⟩ := K
  obtain ⟨hx, hb, hml, hown, hts, hK, hA, hN, hlk⟩ := hC
  intro H locs ls hP hD hS hl
  exact lv_lshl hx hb hd hv (kk H locs ls hP hD hS hl)
theorem z_lshr (hC : Cx K cc own Ts tys) {x v : Int64} {y : Int32} (hd : decode cc pc = .ok (.lshr, 1)) (hv : x >>> (y.toInt64 &&& 63) = v) (kk : Z K n k ws lv (pc + 1) (.long v :: rest)) : Z K n k ws lv (pc) (.int y :: .long x :: rest) := by
  obtain ⟨p, l, e, R, s, m, args, below, meth, c, nL, D, A, Q⟩ := K
  obtain ⟨hx, hb, hml, hown, hts, hK, hA, hN, hlk⟩ := hC
  intro H locs ls hP hD hS hl
  exact lv_lshr hx hb hd hv (kk H locs ls hP hD hS hl)
theorem z_lcmp (hC : Cx K cc own Ts tys) {x y : Int64} {v : Int32} (hd : decode cc pc = .ok (.lcmp, 1)) (hv : lg_cmp x y = v) (kk : Z K n k ws lv (pc + 1) (.int v :: rest)) : Z K n k ws lv (pc) (.long y :: .long x :: rest) := by
  obtain ⟨p, l, e, R, s, m, args, below, meth, c, nL, D, A, Q⟩ := K
  obtain ⟨hx, hb, hml, hown, hts, hK, hA, hN, hlk⟩ := hC
  intro H locs ls hP hD hS hl
  subst hv
  exact W.lcmp hx hb hd (kk H locs ls hP hD hS hl)
theorem z_dup (hC : Cx K cc own Ts tys) {v : Value} (hd : decode cc pc = .ok (.dup, 1)) (hv : v.category = 1) (kk : Z K n k ws lv (pc + 1) (v :: v :: rest)) : Z K n k ws lv (pc) (v :: rest) := by
  obtain ⟨p, l, e, R, s, m, args, below, meth, c, nL, D, A, Q⟩ := K
  obtain ⟨hx, hb, hml, hown, hts, hK, hA, hN, hlk⟩ := hC
  intro H locs ls hP hD hS hl
  exact lv_dup hx hb hd hv (kk H locs ls hP hD hS hl)
theorem z_pop (hC : Cx K cc own Ts tys) {v : Value} (hd : decode cc pc = .ok (.pop, 1)) (hv : v.category = 1) (kk : Z K n k ws lv (pc + 1) (rest)) : Z K n k ws lv (pc) (v :: rest) := by
  obtain ⟨p, l, e, R, s, m, args, below, meth, c, nL, D, A, Q⟩ := K
  obtain ⟨hx, hb, hml, hown, hts, hK, hA, hN, hlk⟩ := hC
  intro H locs ls hP hD hS hl
  exact lv_pop hx hb hd hv (kk H locs ls hP hD hS hl)
theorem z_dup2 (hC : Cx K cc own Ts tys) {v u : Value} (hd : decode cc pc = .ok (.dup2, 1)) (hv : v.category = 1) (hu : u.category = 1) (kk : Z K n k ws lv (pc + 1) (v :: u :: v :: u :: rest)) : Z K n k ws lv (pc) (v :: u :: rest) := by
  obtain ⟨p, l, e, R, s, m, args, below, meth, c, nL, D, A, Q⟩ := K
  obtain ⟨hx, hb, hml, hown, hts, hK, hA, hN, hlk⟩ := hC
  intro H locs ls hP hD hS hl
  exact lv_dup2_11 hx hb hd hv hu (kk H locs ls hP hD hS hl)
theorem z_if_eq (hC : Cx K cc own Ts tys) {x : Int32} {off : Int} {tgt : Nat} (hd : decode cc pc = .ok (.ifCond .eq off, 3)) (ht : (pc : Int) + off = (tgt : Int)) (kt : x = 0 → Z K n k ws lv (tgt) (rest)) (kf : ¬ (x = 0) → Z K n k ws lv (pc + 3) (rest)) : Z K n k ws lv (pc) (.int x :: rest) := by
  obtain ⟨p, l, e, R, s, m, args, below, meth, c, nL, D, A, Q⟩ := K
  obtain ⟨hx, hb, hml, hown, hts, hK, hA, hN, hlk⟩ := hC
  intro H locs ls hP hD hS hl
  exact lv_if_eq hx hb hd ht (fun h => kt h H locs ls hP hD hS hl) (fun h => kf h H locs ls hP hD hS hl)
theorem z_icmp_eq (hC : Cx K cc own Ts tys) {x y : Int32} {off : Int} {tgt : Nat} (hd : decode cc pc = .ok (.if_icmp .eq off, 3)) (ht : (pc : Int) + off = (tgt : Int)) (kt : x = y → Z K n k ws lv (tgt) (rest)) (kf : ¬ (x = y) → Z K n k ws lv (pc + 3) (rest)) : Z K n k ws lv (pc) (.int y :: .int x :: rest) := by
  obtain ⟨p, l, e, R, s, m, args, below, meth, c, nL, D, A, Q⟩ := K
  obtain ⟨hx, hb, hml, hown, hts, hK, hA, hN, hlk⟩ := hC
  intro H locs ls hP hD hS hl
  exact lv_icmp_eq hx hb hd ht (fun h => kt h H locs ls hP hD hS hl) (fun h => kf h H locs ls hP hD hS hl)
theorem z_if_ne (hC : Cx K cc own Ts tys) {x : Int32} {off : Int} {tgt : Nat} (hd : decode cc pc = .ok (.ifCond .ne off, 3)) (ht : (pc : Int) + off = (tgt : Int)) (kt : x ≠ 0 → Z K n k ws lv (tgt) (rest)) (kf : x = 0 → Z K n k ws lv (pc + 3) (rest)) : Z K n k ws lv (pc) (.int x :: rest) := by
  obtain ⟨p, l, e, R, s, m, args, below, meth, c, nL, D, A, Q⟩ := K
  obtain ⟨hx, hb, hml, hown, hts, hK, hA, hN, hlk⟩ := hC
  intro H locs ls hP hD hS hl
  exact lv_if_ne hx hb hd ht (fun h => kt h H locs ls hP hD hS hl) (fun h => kf h H locs ls hP hD hS hl)
theorem z_icmp_ne (hC : Cx K cc own Ts tys) {x y : Int32} {off : Int} {tgt : Nat} (hd : decode cc pc = .ok (.if_icmp .ne off, 3)) (ht : (pc : Int) + off = (tgt : Int)) (kt : x ≠ y → Z K n k ws lv (tgt) (rest)) (kf : x = y → Z K n k ws lv (pc + 3) (rest)) : Z K n k ws lv (pc) (.int y :: .int x :: rest) := by
  obtain ⟨p, l, e, R, s, m, args, below, meth, c, nL, D, A, Q⟩ := K
  obtain ⟨hx, hb, hml, hown, hts, hK, hA, hN, hlk⟩ := hC
  intro H locs ls hP hD hS hl
  exact lv_icmp_ne hx hb hd ht (fun h => kt h H locs ls hP hD hS hl) (fun h => kf h H locs ls hP hD hS hl)
theorem z_if_lt (hC : Cx K cc own Ts tys) {x : Int32} {off : Int} {tgt : Nat} (hd : decode cc pc = .ok (.ifCond .lt off, 3)) (ht : (pc : Int) + off = (tgt : Int)) (kt : x < 0 → Z K n k ws lv (tgt) (rest)) (kf : ¬ (x < 0) → Z K n k ws lv (pc + 3) (rest)) : Z K n k ws lv (pc) (.int x :: rest) := by
  obtain ⟨p, l, e, R, s, m, args, below, meth, c, nL, D, A, Q⟩ := K
  obtain ⟨hx, hb, hml, hown, hts, hK, hA, hN, hlk⟩ := hC
  intro H locs ls hP hD hS hl
  exact lv_if_lt hx hb hd ht (fun h => kt h H locs ls hP hD hS hl) (fun h => kf h H locs ls hP hD hS hl)
theorem z_icmp_lt (hC : Cx K cc own Ts tys) {x y : Int32} {off : Int} {tgt : Nat} (hd : decode cc pc = .ok (.if_icmp .lt off, 3)) (ht : (pc : Int) + off = (tgt : Int)) (kt : x < y → Z K n k ws lv (tgt) (rest)) (kf : ¬ (x < y) → Z K n k ws lv (pc + 3) (rest)) : Z K n k ws lv (pc) (.int y :: .int x :: rest) := by
  obtain ⟨p, l, e, R, s, m, args, below, meth, c, nL, D, A, Q⟩ := K
  obtain ⟨hx, hb, hml, hown, hts, hK, hA, hN, hlk⟩ := hC
  intro H locs ls hP hD hS hl
  exact lv_icmp_lt hx hb hd ht (fun h => kt h H locs ls hP hD hS hl) (fun h => kf h H locs ls hP hD hS hl)
theorem z_if_ge (hC : Cx K cc own Ts tys) {x : Int32} {off : Int} {tgt : Nat} (hd : decode cc pc = .ok (.ifCond .ge off, 3)) (ht : (pc : Int) + off = (tgt : Int)) (kt : 0 ≤ x → Z K n k ws lv (tgt) (rest)) (kf : ¬ (0 ≤ x) → Z K n k ws lv (pc + 3) (rest)) : Z K n k ws lv (pc) (.int x :: rest) := by
  obtain ⟨p, l, e, R, s, m, args, below, meth, c, nL, D, A, Q⟩ := K
  obtain ⟨hx, hb, hml, hown, hts, hK, hA, hN, hlk⟩ := hC
  intro H locs ls hP hD hS hl
  exact lv_if_ge hx hb hd ht (fun h => kt h H locs ls hP hD hS hl) (fun h => kf h H locs ls hP hD hS hl)
theorem z_icmp_ge (hC : Cx K cc own Ts tys) {x y : Int32} {off : Int} {tgt : Nat} (hd : decode cc pc = .ok (.if_icmp .ge off, 3)) (ht : (pc : Int) + off = (tgt : Int)) (kt : y ≤ x → Z K n k ws lv (tgt) (rest)) (kf : ¬ (y ≤ x) → Z K n k ws lv (pc + 3) (rest)) : Z K n k ws lv (pc) (.int y :: .int x :: rest) := by
  obtain ⟨p, l, e, R, s, m, args, below, meth, c, nL, D, A, Q⟩ := K
  obtain ⟨hx, hb, hml, hown, hts, hK, hA, hN, hlk⟩ := hC
  intro H locs ls hP hD hS hl
  exact lv_icmp_ge hx hb hd ht (fun h => kt h H locs ls hP hD hS hl) (fun h => kf h H locs ls hP hD hS hl)
theorem z_if_gt (hC : Cx K cc own Ts tys) {x : Int32} {off : Int} {tgt : Nat} (hd : decode cc pc = .ok (.ifCond .gt off, 3)) (ht : (pc : Int) + off = (tgt : Int)) (kt : 0 < x → Z K n k ws lv (tgt) (rest)) (kf : ¬ (0 < x) → Z K n k ws lv (pc + 3) (rest)) : Z K n k ws lv (pc) (.int x :: rest) := by
  obtain ⟨p, l, e, R, s, m, args, below, meth, c, nL, D, A, Q⟩ := K
  obtain ⟨hx, hb, hml, hown, hts, hK, hA, hN, hlk⟩ := hC
  intro H locs ls hP hD hS hl
  exact lv_if_gt hx hb hd ht (fun h => kt h H locs ls hP hD hS hl) (fun h => kf h H locs ls hP hD hS hl)
theorem z_icmp_gt (hC : Cx K cc own Ts tys) {x y : Int32} {off : Int} {tgt : Nat} (hd : decode cc pc = .ok (.if_icmp .gt off, 3)) (ht : (pc : Int) + off = (tgt : Int)) (kt : y < x → Z K n k ws lv (tgt) (rest)) (kf : ¬ (y < x) → Z K n k ws lv (pc + 3) (rest)) : Z K n k ws lv (pc) (.int y :: .int x :: rest) := by
  obtain ⟨p, l, e, R, s, m, args, below, meth, c, nL, D, A, Q⟩ := K
  obtain ⟨hx, hb, hml, hown, hts, hK, hA, hN, hlk⟩ := hC
  intro H locs ls hP hD hS hl
  exact lv_icmp_gt hx hb hd ht (fun h => kt h H locs ls hP hD hS hl) (fun h => kf h H locs ls hP hD hS hl)
theorem z_if_le (hC : Cx K cc own Ts tys) {x : Int32} {off : Int} {tgt : Nat} (hd : decode cc pc = .ok (.ifCond .le off, 3)) (ht : (pc : Int) + off = (tgt : Int)) (kt : x ≤ 0 → Z K n k ws lv (tgt) (rest)) (kf : ¬ (x ≤ 0) → Z K n k ws lv (pc + 3) (rest)) : Z K n k ws lv (pc) (.int x :: rest) := by
  obtain ⟨p, l, e, R, s, m, args, below, meth, c, nL, D, A, Q⟩ := K
  obtain ⟨hx, hb, hml, hown, hts, hK, hA, hN, hlk⟩ := hC
  intro H locs ls hP hD hS hl
  exact lv_if_le hx hb hd ht (fun h => kt h H locs ls hP hD hS hl) (fun h => kf h H locs ls hP hD hS hl)
theorem z_icmp_le (hC : Cx K cc own Ts tys) {x y : Int32} {off : Int} {tgt : Nat} (hd : decode cc pc = .ok (.if_icmp .le off, 3)) (ht : (pc : Int) + off = (tgt : Int)) (kt : x ≤ y → Z K n k ws lv (tgt) (rest)) (kf : ¬ (x ≤ y) → Z K n k ws lv (pc + 3) (rest)) : Z K n k ws lv (pc) (.int y :: .int x :: rest) := by
  obtain ⟨p, l, e, R, s, m, args, below, meth, c, nL, D, A, Q⟩ := K
  obtain ⟨hx, hb, hml, hown, hts, hK, hA, hN, hlk⟩ := hC
  intro H locs ls hP hD hS hl
  exact lv_icmp_le hx hb hd ht (fun h => kt h H locs ls hP hD hS hl) (fun h => kf h H locs ls hP hD hS hl)
theorem z_ncmp_eq (hC : Cx K cc own Ts tys) {a b : Nat} {off : Int} {tgt : Nat} (hd : decode cc pc = .ok (.if_icmp .eq off, 3)) (ht : (pc : Int) + off = (tgt : Int)) (ha : a < 2 ^ 31) (hb0 : b < 2 ^ 31) (kt : a = b → Z K n k ws lv (tgt) (rest)) (kf : a ≠ b → Z K n k ws lv (pc + 3) (rest)) : Z K n k ws lv (pc) (.int (nI b) :: .int (nI a) :: rest) := z_icmp_eq hC hd ht (fun h => kt ((nI_eq ha hb0).mp h)) (fun h => kf (fun h2 => h ((nI_eq ha hb0).mpr h2)))
theorem z_ncmp_ne (hC : Cx K cc own Ts tys) {a b : Nat} {off : Int} {tgt : Nat} (hd : decode cc pc = .ok (.if_icmp .ne off, 3)) (ht : (pc : Int) + off = (tgt : Int)) (ha : a < 2 ^ 31) (hb0 : b < 2 ^ 31) (kt : a ≠ b → Z K n k ws lv (tgt) (rest)) (kf : a = b → Z K n k ws lv (pc + 3) (rest)) : Z K n k ws lv (pc) (.int (nI b) :: .int (nI a) :: rest) := z_icmp_ne hC hd ht (fun h => kt (fun h2 => h ((nI_eq ha hb0).mpr h2))) (fun h => kf ((nI_eq ha hb0).mp h))
theorem z_ncmp_lt (hC : Cx K cc own Ts tys) {a b : Nat} {off : Int} {tgt : Nat} (hd : decode cc pc = .ok (.if_icmp .lt off, 3)) (ht : (pc : Int) + off = (tgt : Int)) (ha : a < 2 ^ 31) (hb0 : b < 2 ^ 31) (kt : a < b → Z K n k ws lv (tgt) (rest)) (kf : b ≤ a → Z K n k ws lv (pc + 3) (rest)) : Z K n k ws lv (pc) (.int (nI b) :: .int (nI a) :: rest) := z_icmp_lt hC hd ht (fun h => kt ((nI_ltI ha hb0).mp h)) (fun h => kf (Nat.not_lt.mp (fun h2 => h ((nI_ltI ha hb0).mpr h2))))
theorem z_ncmp_ge (hC : Cx K cc own Ts tys) {a b : Nat} {off : Int} {tgt : Nat} (hd : decode cc pc = .ok (.if_icmp .ge off, 3)) (ht : (pc : Int) + off = (tgt : Int)) (ha : a < 2 ^ 31) (hb0 : b < 2 ^ 31) (kt : b ≤ a → Z K n k ws lv (tgt) (rest)) (kf : a < b → Z K n k ws lv (pc + 3) (rest)) : Z K n k ws lv (pc) (.int (nI b) :: .int (nI a) :: rest) := z_icmp_ge hC hd ht (fun h => kt ((nI_leI hb0 ha).mp h)) (fun h => kf (Nat.not_le.mp (fun h2 => h ((nI_leI hb0 ha).mpr h2))))
theorem z_ncmp_gt (hC : Cx K cc own Ts tys) {a b : Nat} {off : Int} {tgt : Nat} (hd : decode cc pc = .ok (.if_icmp .gt off, 3)) (ht : (pc : Int) + off = (tgt : Int)) (ha : a < 2 ^ 31) (hb0 : b < 2 ^ 31) (kt : b < a → Z K n k ws lv (tgt) (rest)) (kf : a ≤ b → Z K n k ws lv (pc + 3) (rest)) : Z K n k ws lv (pc) (.int (nI b) :: .int (nI a) :: rest) := z_icmp_gt hC hd ht (fun h => kt ((nI_ltI hb0 ha).mp h)) (fun h => kf (Nat.not_lt.mp (fun h2 => h ((nI_ltI hb0 ha).mpr h2))))
theorem z_ncmp_le (hC : Cx K cc own Ts tys) {a b : Nat} {off : Int} {tgt : Nat} (hd : decode cc pc = .ok (.if_icmp .le off, 3)) (ht : (pc : Int) + off = (tgt : Int)) (ha : a < 2 ^ 31) (hb0 : b < 2 ^ 31) (kt : a ≤ b → Z K n k ws lv (tgt) (rest)) (kf : b < a → Z K n k ws lv (pc + 3) (rest)) : Z K n k ws lv (pc) (.int (nI b) :: .int (nI a) :: rest) := z_icmp_le hC hd ht (fun h => kt ((nI_leI ha hb0).mp h)) (fun h => kf (Nat.not_le.mp (fun h2 => h ((nI_leI ha hb0).mpr h2))))
theorem z_goto (hC : Cx K cc own Ts tys) {off : Int} {tgt : Nat} (hd : decode cc pc = .ok (.goto off, 3)) (ht : (pc : Int) + off = (tgt : Int)) (kk : Z K n k ws lv (tgt) (rest)) : Z K n k ws lv (pc) (rest) := by
  obtain ⟨p, l, e, R, s, m, args, below, meth, c, nL, D, A, Q⟩ := K
  obtain ⟨hx, hb, hml, hown, hts, hK, hA, hN, hlk⟩ := hC
  intro H locs ls hP hD hS hl
  exact lv_goto hx hb hd ht (kk H locs ls hP hD hS hl)
theorem z_tableIn (hC : Cx K cc own Ts tys) {dflt lo hi : Int} {offs : Array Int} {len : Nat} {x : Int32} {off : Int} {tgt : Nat} (hd : decode cc pc = .ok (.tableswitch dflt lo hi offs, len)) (h1 : ¬ x.toInt < lo) (h2 : ¬ hi < x.toInt) (ho : offs[(x.toInt - lo).toNat]? = some off) (ht : (pc : Int) + off = (tgt : Int)) (kk : Z K n k ws lv (tgt) (rest)) : Z K n k ws lv (pc) (.int x :: rest) := by
  obtain ⟨p, l, e, R, s, m, args, below, meth, c, nL, D, A, Q⟩ := K
  obtain ⟨hx, hb, hml, hown, hts, hK, hA, hN, hlk⟩ := hC
  intro H locs ls hP hD hS hl
  exact lv_tableIn hx hb hd h1 h2 ho ht (kk H locs ls hP hD hS hl)
theorem z_tableOut (hC : Cx K cc own Ts tys) {dflt lo hi : Int} {offs : Array Int} {len : Nat} {x : Int32} {tgt : Nat} (hd : decode cc pc = .ok (.tableswitch dflt lo hi offs, len)) (h1 : x.toInt < lo ∨ hi < x.toInt) (ht : (pc : Int) + dflt = (tgt : Int)) (kk : Z K n k ws lv (tgt) (rest)) : Z K n k ws lv (pc) (.int x :: rest) := by
  obtain ⟨p, l, e, R, s, m, args, below, meth, c, nL, D, A, Q⟩ := K
  obtain ⟨hx, hb, hml, hown, hts, hK, hA, hN, hlk⟩ := hC
  intro H locs ls hP hD hS hl
  exact lv_tableOut hx hb hd h1 ht (kk H locs ls hP hD hS hl)
theorem z_lookup (hC : Cx K cc own Ts tys) {dflt : Int} {ps : Array (Int × Int)} {len : Nat} {x : Int32} {off : Int} {tgt : Nat} (hd : decode cc pc = .ok (.lookupswitch dflt ps, len)) (hp : (ps.toList.zip (ps.toList.drop 1)).all (fun (a, next) => a.1 < next.1) = true) (ho : Op.lookupswitch.offset ps.toList dflt x.toInt = off) (ht : (pc : Int) + off = (tgt : Int)) (kk : Z K n k ws lv (tgt) (rest)) : Z K n k ws lv (pc) (.int x :: rest) := by
  obtain ⟨p, l, e, R, s, m, args, below, meth, c, nL, D, A, Q⟩ := K
  obtain ⟨hx, hb, hml, hown, hts, hK, hA, hN, hlk⟩ := hC
  intro H locs ls hP hD hS hl
  exact lv_lookup hx hb hd hp ho ht (kk H locs ls hP hD hS hl)
theorem z_get (hC : Cx K cc own Ts tys) {C : String} {T : u_T} {N ci index a : Nat} (hin : ∀ w ∈ u_ws C T N, w ∈ Ts) (q0 : Nat) {fs : List Value} (he : ws[q0]? = some (a, .inr (ci, fs))) (hc : vwCl[ci]? = some (C, T, N)) (j : Nat) (hj : j < N) (hlink : Cond.fieldLink own index (T j).1 (T j).2.1 (T j).2.2.1 ∈ Ts) {v : Value} (hv : fs[j]? = some v) (hd : decode cc pc = .ok (.getfield index, 3)) (kk : Z K n k ws lv (pc + 3) (v :: rest)) : Z K n k ws lv (pc) (.ref a :: rest) := by
  obtain ⟨p, l, e, R, s, m, args, below, meth, c, nL, D, A, Q⟩ := K
  obtain ⟨hx, hb, hml, hown, hts, hK, hA, hN, hlk⟩ := hC
  intro H locs ls hP hD hS hl
  exact va_get hx hb hts hin hown hK hP q0 he hc j hj (hts _ hlink) (fun _ h9 => h9) hv hd (kk H locs ls hP hD hS hl)
theorem z_getN (hC : Cx K cc own Ts tys) {C : String} {T : u_T} {N ci index a : Nat} (hin : ∀ w ∈ u_ws C T N, w ∈ Ts) (q0 : Nat) {fs : List Value} (he : ws[q0]? = some (a, .inr (ci, fs))) (hc : vwCl[ci]? = some (C, T, N)) (j : Nat) (hj : j < N) (hlink : (own, index, (T j).1, (T j).2.1, (T j).2.2.1) ∈ nwF) {v : Value} (hv : fs[j]? = some v) (hd : decode cc pc = .ok (.getfield index, 3)) (kk : Z K n k ws lv (pc + 3) (v :: rest)) : Z K n k ws lv (pc) (.ref a :: rest) := by
  obtain ⟨p, l, e, R, s, m, args, below, meth, c, nL, D, A, Q⟩ := K
  obtain ⟨hx, hb, hml, hown, hts, hK, hA, hN, hlk⟩ := hC
  intro H locs ls hP hD hS hl
  exact va_getN hx hb hts hin hown hK hP q0 he hc j hj (hN.f hlink) (fun _ h9 => h9) hv hd (kk H locs ls hP hD hS hl)
theorem z_put (hC : Cx K cc own Ts tys) {C : String} {T : u_T} {N ci index a : Nat} (hin : ∀ w ∈ u_ws C T N, w ∈ Ts) (q0 : Nat) {fs : List Value} (he : ws[q0]? = some (a, .inr (ci, fs))) (hc : vwCl[ci]? = some (C, T, N)) (j : Nat) (hj : j < N) (ty0 : Nat → FieldType) (hty : ∀ j, j < N → parseFieldDescriptor (T j).2.2.1 = some (ty0 j)) (hnm : ∀ a, a < N → ∀ b, b < N → a ≠ b → (T a).2.1 ≠ (T b).2.1) (hlink : Cond.fieldLink own index (T j).1 (T j).2.1 (T j).2.2.1 ∈ Ts) (hfin : (T j).2.2.2 = false) {v : Value} (hn : narrow (ty0 j) v = v) (hfit : fits (ty0 j) v = true) (hlen : j < fs.length) (ws' : va_W) (hw : ws.set q0 (a, .inr (ci, fs.set j v)) = ws') (hd : decode cc pc = .ok (.putfield index, 3)) (kk : Z K n k ws' lv (pc + 3) (rest)) : Z K n k ws lv (pc) (v :: .ref a :: rest) := by
  obtain ⟨p, l, e, R, s, m, args, below, meth, c, nL, D, A, Q⟩ := K
  obtain ⟨hx, hb, hml, hown, hts, hK, hA, hN, hlk⟩ := hC
  intro H locs ls hP hD hS hl
  subst hw
  exact va_put hx hb hts hin ty0 hty hnm hown hK hP hD hS q0 he hc j hj (hts _ hlink) (fun _ h9 => h9) hfin (hty j hj) hn hfit hlen hd (fun H1 locs1 hP1 hD1 hS1 => kk H1 locs1 ls hP1 hD1 hS1 hl)
theorem z_putF (hC : Cx K cc own Ts tys) {C : String} {T : u_T} {N ci index a : Nat} (hin : ∀ w ∈ u_ws C T N, w ∈ Ts) (q0 : Nat) {fs : List Value} (he : ws[q0]? = some (a, .inr (ci, fs))) (hc : vwCl[ci]? = some (C, T, N)) (j : Nat) (hj : j < N) (hI : IsInit K) (ty0 : Nat → FieldType) (hty : ∀ j, j < N → parseFieldDescriptor (T j).2.2.1 = some (ty0 j)) (hnm : ∀ a, a < N → ∀ b, b < N → a ≠ b → (T a).2.1 ≠ (T b).2.1) (hlink : Cond.fieldLink own index (T j).1 (T j).2.1 (T j).2.2.1 ∈ Ts) (hdecl : (T j).1 = own) (hfin : (T j).2.2.2 = true) {v : Value} (hn : narrow (ty0 j) v = v) (hfit : fits (ty0 j) v = true) (hlen : j < fs.length) (ws' : va_W) (hw : ws.set q0 (a, .inr (ci, fs.set j v)) = ws') (hd : decode cc pc = .ok (.putfield index, 3)) (kk : Z K n k ws' lv (pc + 3) (rest)) : Z K n k ws lv (pc) (v :: .ref a :: rest) := by
  obtain ⟨p, l, e, R, s, m, args, below, meth, c, nL, D, A, Q⟩ := K
  obtain ⟨hx, hb, hml, hown, hts, hK, hA, hN, hlk⟩ := hC
  intro H locs ls hP hD hS hl
  subst hw
  exact va_putF hx hb hts hin ty0 hty hnm hown hK hP hD hS q0 he hc j hj (hts _ hlink) (fun _ h9 => h9) hfin hI hdecl (hty j hj) hn hfit hlen hd (fun H1 locs1 hP1 hD1 hS1 => kk H1 locs1 ls hP1 hD1 hS1 hl)
theorem z_iald (hC : Cx K cc own Ts tys) (q0 t0 : Nat) {cA : ClassId} {a N i : Nat} {f : Nat → Int32} {v : Int32} (ha : ws[q0]? = some (a, .inl (cA, N, .inl f))) (ht : tys[t0]? = some (cA, .int)) (hi : i < N) (hN0 : N < 2 ^ 31) (hv : f i = v) (hd : decode cc pc = .ok (.iaload, 1)) (kk : Z K n k ws lv (pc + 1) (.int v :: rest)) : Z K n k ws lv (pc) (.int (nI i) :: .ref a :: rest) := by
  obtain ⟨p, l, e, R, s, m, args, below, meth, c, nL, D, A, Q⟩ := K
  obtain ⟨hx, hb, hml, hown, hts, hK, hA, hN, hlk⟩ := hC
  intro H locs ls hP hD hS hl
  refine va_iald hx hb hK hP q0 t0 ha ht (vp_in_nI hi hN0) hd ?_
  rw [nI_clamp (Nat.lt_trans hi hN0), hv]
  exact kk H locs ls hP hD hS hl
theorem z_zald (hC : Cx K cc own Ts tys) (q0 t0 : Nat) {cA : ClassId} {a N i : Nat} {f : Nat → Int32} {v : Int32} (ha : ws[q0]? = some (a, .inl (cA, N, .inl f))) (ht : tys[t0]? = some (cA, .boolean)) (hi : i < N) (hN0 : N < 2 ^ 31) (hv : f i = v) (hd : decode cc pc = .ok (.baload, 1)) (kk : Z K n k ws lv (pc + 1) (.int v :: rest)) : Z K n k ws lv (pc) (.int (nI i) :: .ref a :: rest) := by
  obtain ⟨p, l, e, R, s, m, args, below, meth, c, nL, D, A, Q⟩ := K
  obtain ⟨hx, hb, hml, hown, hts, hK, hA, hN, hlk⟩ := hC
  intro H locs ls hP hD hS hl
  refine va_zald hx hb hK hP q0 t0 ha ht (vp_in_nI hi hN0) hd ?_
  rw [nI_clamp (Nat.lt_trans hi hN0), hv]
  exact kk H locs ls hP hD hS hl
theorem z_lald (hC : Cx K cc own Ts tys) (q0 t0 : Nat) {cA : ClassId} {a N i : Nat} {f : Nat → Int64} {v : Int64} (ha : ws[q0]? = some (a, .inl (cA, N, .inr (.inl f)))) (ht : tys[t0]? = some (cA, .long)) (hi : i < N) (hN0 : N < 2 ^ 31) (hv : f i = v) (hd : decode cc pc = .ok (.laload, 1)) (kk : Z K n k ws lv (pc + 1) (.long v :: rest)) : Z K n k ws lv (pc) (.int (nI i) :: .ref a :: rest) := by
  obtain ⟨p, l, e, R, s, m, args, below, meth, c, nL, D, A, Q⟩ := K
  obtain ⟨hx, hb, hml, hown, hts, hK, hA, hN, hlk⟩ := hC
  intro H locs ls hP hD hS hl
  refine va_lald hx hb hK hP q0 t0 ha ht (vp_in_nI hi hN0) hd ?_
  rw [nI_clamp (Nat.lt_trans hi hN0), hv]
  exact kk H locs ls hP hD hS hl
theorem z_iast (hC : Cx K cc own Ts tys) (q0 t0 : Nat) {cA : ClassId} {a N i : Nat} {f : Nat → Int32} {x : Int32} (ha : ws[q0]? = some (a, .inl (cA, N, .inl f))) (ht : tys[t0]? = some (cA, .int)) (hi : i < N) (hN0 : N < 2 ^ 31) (ws' : va_W) (hw : ws.set q0 (a, .inl (cA, N, .inl (upd f i x))) = ws') (hd : decode cc pc = .ok (.iastore, 1)) (kk : Z K n k ws' lv (pc + 1) (rest)) : Z K n k ws lv (pc) (.int x :: .int (nI i) :: .ref a :: rest) := by
  obtain ⟨p, l, e, R, s, m, args, below, meth, c, nL, D, A, Q⟩ := K
  obtain ⟨hx, hb, hml, hown, hts, hK, hA, hN, hlk⟩ := hC
  intro H locs ls hP hD hS hl
  subst hw
  refine va_iast hx hb hK hP hD hS q0 t0 ha ht (vp_in_nI hi hN0) hd ?_
  rw [nI_clamp (Nat.lt_trans hi hN0)]
  exact fun H1 locs1 hP1 hD1 hS1 => kk H1 locs1 ls hP1 hD1 hS1 hl
theorem z_zast (hC : Cx K cc own Ts tys) (q0 t0 : Nat) {cA : ClassId} {a N i : Nat} {f : Nat → Int32} {x y : Int32} (ha : ws[q0]? = some (a, .inl (cA, N, .inl f))) (ht : tys[t0]? = some (cA, .boolean)) (hi : i < N) (hN0 : N < 2 ^ 31) (hy : vp_nar .boolean x = y) (ws' : va_W) (hw : ws.set q0 (a, .inl (cA, N, .inl (upd f i y))) = ws') (hd : decode cc pc = .ok (.bastore, 1)) (kk : Z K n k ws' lv (pc + 1) (rest)) : Z K n k ws lv (pc) (.int x :: .int (nI i) :: .ref a :: rest) := by
  obtain ⟨p, l, e, R, s, m, args, below, meth, c, nL, D, A, Q⟩ := K
  obtain ⟨hx, hb, hml, hown, hts, hK, hA, hN, hlk⟩ := hC
  intro H locs ls hP hD hS hl
  subst hw
  subst hy
  refine va_zast hx hb hK hP hD hS q0 t0 ha ht (vp_in_nI hi hN0) hd ?_
  rw [nI_clamp (Nat.lt_trans hi hN0)]
  exact fun H1 locs1 hP1 hD1 hS1 => kk H1 locs1 ls hP1 hD1 hS1 hl
theorem z_last (hC : Cx K cc own Ts tys) (q0 t0 : Nat) {cA : ClassId} {a N i : Nat} {f : Nat → Int64} {x : Int64} (ha : ws[q0]? = some (a, .inl (cA, N, .inr (.inl f)))) (ht : tys[t0]? = some (cA, .long)) (hi : i < N) (hN0 : N < 2 ^ 31) (ws' : va_W) (hw : ws.set q0 (a, .inl (cA, N, .inr (.inl (vp_updL f i x)))) = ws') (hd : decode cc pc = .ok (.lastore, 1)) (kk : Z K n k ws' lv (pc + 1) (rest)) : Z K n k ws lv (pc) (.long x :: .int (nI i) :: .ref a :: rest) := by
  obtain ⟨p, l, e, R, s, m, args, below, meth, c, nL, D, A, Q⟩ := K
  obtain ⟨hx, hb, hml, hown, hts, hK, hA, hN, hlk⟩ := hC
  intro H locs ls hP hD hS hl
  subst hw
  refine va_last hx hb hK hP hD hS q0 t0 ha ht (vp_in_nI hi hN0) hd ?_
  rw [nI_clamp (Nat.lt_trans hi hN0)]
  exact fun H1 locs1 hP1 hD1 hS1 => kk H1 locs1 ls hP1 hD1 hS1 hl
theorem z_alen (hC : Cx K cc own Ts tys) (q0 t0 : Nat) {cA : ClassId} {a : Nat} {x : vp_A} {ty : FieldType} {v : Int32} (ha : ws[q0]? = some (a, .inl (cA, x))) (ht : tys[t0]? = some (cA, ty)) (hv : Int32.ofNat x.1 = v) (hd : decode cc pc = .ok (.arraylength, 1)) (kk : Z K n k ws lv (pc + 1) (.int v :: rest)) : Z K n k ws lv (pc) (.ref a :: rest) := by
  obtain ⟨p, l, e, R, s, m, args, below, meth, c, nL, D, A, Q⟩ := K
  obtain ⟨hx, hb, hml, hown, hts, hK, hA, hN, hlk⟩ := hC
  intro H locs ls hP hD hS hl
  exact va_alen hx hb hK hP q0 t0 ha ht hv hd (kk H locs ls hP hD hS hl)
theorem z_iret (hC : Cx K cc own Ts tys) {w2 : va_W} {r v : Int32} {ty : FieldType} (hQ : RI K n k tys w2 r) (hr : RetT K (some ty)) (hn : narrow ty (.int v) = .int v) (hv : v = r) (hw : ws = w2) (hd : decode cc pc = .ok (.ireturn, 1)) : Z K n k ws lv (pc) ([.int v]) := by
  obtain ⟨p, l, e, R, s, m, args, below, meth, c, nL, D, A, Q⟩ := K
  obtain ⟨hx, hb, hml, hown, hts, hK, hA, hN, hlk⟩ := hC
  intro H locs ls hP hD hS hl
  subst hw
  have hQ := hQ
  dsimp only [RI] at hQ
  rw [hQ]
  exact W.zret hx hb hr hn (fun t ht hW => ⟨⟨v, (), rfl, hv, by rw [ht]; exact hP, va_K.moved hW.alike hK, hD⟩, hS.F ht⟩) hS.2.2 hd hlk
theorem z_vret (hC : Cx K cc own Ts tys) {w2 : va_W} (hQ : RV K n k tys w2) (hr : RetT K none) (hw : ws = w2) (hd : decode cc pc = .ok (.return_, 1)) : Z K n k ws lv (pc) ([]) := by
  obtain ⟨p, l, e, R, s, m, args, below, meth, c, nL, D, A, Q⟩ := K
  obtain ⟨hx, hb, hml, hown, hts, hK, hA, hN, hlk⟩ := hC
  intro H locs ls hP hD hS hl
  subst hw
  have hQ := hQ
  dsimp only [RV] at hQ
  rw [hQ]
  exact W.vret hx hb hr (fun t ht hW => ⟨⟨(), rfl, trivial, by rw [ht]; exact hP, va_K.moved hW.alike hK, hD⟩, hS.F ht⟩) hS.2.2 hd hlk
theorem z_aret (hC : Cx K cc own Ts tys) {w2 : va_W} {a r : Nat} {ty : FieldType} (hQ : RA K n k tys w2 r) (hr : RetT K (some ty)) (hty : (∃ n, ty = .object n) ∨ ∃ t, ty = .array t) (hv : a = r) (hw : ws = w2) (hd : decode cc pc = .ok (.areturn, 1)) : Z K n k ws lv (pc) ([.ref a]) := by
  obtain ⟨p, l, e, R, s, m, args, below, meth, c, nL, D, A, Q⟩ := K
  obtain ⟨hx, hb, hml, hown, hts, hK, hA, hN, hlk⟩ := hC
  intro H locs ls hP hD hS hl
  subst hw
  have hQ := hQ
  dsimp only [RA] at hQ
  rw [hQ]
  exact W.aret hx hb hr hty (Or.inr ⟨a, rfl⟩) (fun t ht hW => ⟨⟨(), a, rfl, trivial, hv, by rw [ht]; exact hP, va_K.moved hW.alike hK, hD⟩, hS.F ht⟩) hS.2.2 hd hlk
end ZR
