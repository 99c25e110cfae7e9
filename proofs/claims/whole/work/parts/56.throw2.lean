/-! what the throwing road stands on, and its end -/
def thN : List String := ["java/lang/IndexOutOfBoundsException", "java/lang/RuntimeException", "java/lang/Exception"]
def thA : List Cond := Bundle.ownAtoms RX3 82 RJx00060 thN ++ [Cond.classLink RL 13 RJx00060]
def thTx : String := "no fact has this number"
def thR1 : Cond := .isRef (.static "java/lang/Throwable" "UNASSIGNED_STACK" "[Ljava/lang/StackTraceElement;")
def thR2 : Cond := .isRef (.static "java/lang/Throwable" "SUPPRESSED_SENTINEL" "Ljava/util/List;")
def thL1 : Cond := .laysStatic "java/lang/Throwable" "UNASSIGNED_STACK" "[Ljava/lang/StackTraceElement;"
def thL2 : Cond := .laysStatic "java/lang/Throwable" "SUPPRESSED_SENTINEL" "Ljava/util/List;"
theorem th_good : ∀ w ∈ thA, (w = thR1 ∨ w = thR2 ∨ w = thL1 ∨ w = thL2) ∨ (w.onTables && (w.keeps || w.faceAtom)) = true := by decide +kernel
theorem stl_moved {s U : State} {C n d : String} {a a' : Array Value} (hW : s.WarmedH U.vm) (hh : ∀ (q : Nat) (c : Cell), s.heap[q]? = some c → c.vm.isStatics = true → U.heap[q]? = some c) (h : (Cond.laysStatic C n d).before a s = true) : (Cond.laysStatic C n d).before a' U = true := by
  have h1 : (Cond.laysStatic C n d).before a (s.setVm U.vm) = true := Cond.laysStatic_setVm hW.alike h
  obtain ⟨c, k, i, f, ad, cell, g1, g2, g3, g4, g5, g6, g7, g8, g9⟩ := Cond.laysStatic_spec h1
  exact Cond.laysStatic_of (s := U) g1 g2 g3 g4 (hh ad cell g5 g6) g6 g7 g8 g9
theorem th_plain : ∀ w ∈ thA, w.keepsFace = (w.keeps || w.faceAtom) := by decide +kernel
theorem th_face (w : Cond) (hw : w ∈ thA) (h : (w.keeps || w.faceAtom) = true) : w.keepsFace = true := by rw [th_plain w hw]; exact h
def ThW (U : State) : Prop := (∀ w ∈ thA, w.before #[] U = true) ∧ ∃ ad, vk_R RX3 80 thTx ad U
theorem st_moved {s U : State} {C n d : String} {a a' : Array Value} (hW : s.WarmedH U.vm) (hh : ∀ (q : Nat) (c : Cell), s.heap[q]? = some c → c.vm.isStatics = true → U.heap[q]? = some c) (h : (Cond.isRef (.static C n d)).before a s = true) : (Cond.isRef (.static C n d)).before a' U = true := by
  have h1 : (Cond.isRef (.static C n d)).before a (s.setVm U.vm) = true := Cond.before_shiftedFace (State.Shifted.of_warmed hW) _ rfl h
  simp only [Cond.before, Cond.holds, Cond.value, Term.eval] at h1 ⊢
  have e0 : (s.setVm U.vm).fieldNamed? C n d true = U.fieldNamed? C n d true := rfl
  rw [e0] at h1
  have e1 : (s.setVm U.vm).heap = s.heap := rfl
  rw [e1] at h1
  cases hf : U.fieldNamed? C n d true with
  | none => rw [hf] at h1; simp at h1
  | some q =>
    obtain ⟨q1, q2, q3⟩ := q
    rw [hf] at h1
    cases hs : q2.statics with
    | none => simp [hs] at h1
    | some ad =>
      cases hc : s.heap[ad]? with
      | none => simp [hs, hc] at h1
      | some cell =>
        by_cases hi : cell.vm.isStatics = true
        · have h2 := hh ad cell hc hi
          simp only [hs, hc, h2, Option.bind_eq_bind, Option.bind_some] at h1 ⊢
          exact h1
        · simp [hs, hc, hi] at h1
theorem ThW.at {s U : State} {a' : Array Value} (hW : s.WarmedH U.vm) (hh : ∀ (q : Nat) (c : Cell), s.heap[q]? = some c → c.vm.isStatics = true → U.heap[q]? = some c) (h : ThW s) : ∀ w ∈ thA, w.before a' U = true := by
  intro w hw
  have h0 := h.1 w hw
  rcases th_good w hw with (e | e | e | e) | e
  · subst e; exact st_moved hW hh h0
  · subst e; exact st_moved hW hh h0
  · subst e; exact stl_moved hW hh h0
  · subst e; exact stl_moved hW hh h0
  · simp only [Bool.and_eq_true] at e
    have h1 : w.before #[] (s.setVm U.vm) = true := Cond.before_shiftedFace (State.Shifted.of_warmed hW) w (th_face w hw e.2) h0
    exact va_tabs (u := s.setVm U.vm) e.1 rfl h1
theorem ThW.moved {s U : State} (hW : s.WarmedH U.vm) (hh : ∀ (q : Nat) (c : Cell), s.heap[q]? = some c → c.vm.isStatics = true → U.heap[q]? = some c) (h : ThW s) : ThW U := ⟨h.at hW hh, let ⟨ad, h2⟩ := h.2; ⟨ad, h2.warm hW⟩⟩
/-- no cell of a world holds statics -/
theorem va_P.notS {D : va_G} {ws : va_W} {H : Heap} (hP : va_P D vwCl ws H) {q : Nat} {c : Cell} (hq : H[q]? = some c) (hc : c.vm.isStatics = true) : ¬ va_A ws H.size q := by
  rintro (⟨k, e, h⟩ | h)
  · have h1 := hP k _ h
    cases e with
    | inl x =>
      obtain ⟨cA, a0⟩ := x
      have h2 : H[q]? = some (vp_cell cA a0) := h1
      rw [hq] at h2
      have h3 : (vp_cell cA a0).vm = .none := by
        obtain ⟨N, v⟩ := a0
        rcases v with v | v | v | v | v <;> rfl
      rw [Option.some.inj h2, h3] at hc
      cases hc
    | inr x =>
      obtain ⟨q', g0, cell, g1, g2, g3, -⟩ := h1
      have g1 : H[q]? = some cell := g1
      rw [hq] at g1
      cases g1
      rw [g3] at hc
      cases hc
  · rw [Array.getElem?_eq_none h] at hq
    cases hq
/-- an end by a throw -/
def QT (A : Nat → Prop) (B : State → Prop) (mc ms : Nat) (st : State) (o : Outcome) (t : State) : Prop := ∃ x, o = .threw x ∧ B t ∧ va_F A st t ∧ (∃ L : List Loc, st.WarmedH t.vm ∧ st.sameButNew ({ t with vm := st.vm } : State) L mc ms ∧ ∀ q ∈ L, A q.base) ∧ ∃ ce : Cell, t.heap[x]? = some ce ∧ ce.vm.isStatics = false ∧ st.vm.findClass RJx00060 = some ce.cls ∧ st.vm.assignable ce.cls ce.cls = true
def MT (l : Launch) (y : MethodName) (wy : List Cond) (rm : Room) (D : va_G) (tys : List (ClassId × FieldType)) (av : List Value) (w w2 : va_W) : Prop := ∀ sz : Nat, MetFree l y (headSpec wy rm) (va_Pc av (fun U => Pw D tys w sz U ∧ ThW U)) (fun _ _ _ _ _ => True) (fun _ st o t => QT (va_A w sz) (Bw D tys (va_A w sz) w2 ()) rm.cells rm.slots st o t)
def RT (K : KT) (n k : Nat) (tys : List (ClassId × FieldType)) (w2 : va_W) : Prop := match K with
  | (_, _, _, _, s, _, _, below, _, _, _, D, A, Q) => Q = fun t => ∃ o, t.status = .running ∧ Ended t below o ∧ QT A (Bw D tys A w2 ()) n k s o t
/-- the words of the throw hold, and no cell of ours is a class's own -/
def ThK (K : KT) : Prop := match K with
  | (_, _, e, _, s, _, _, _, _, c, _, _, A, _) => ThW s ∧ (∀ (q : Nat) (c : Cell), s.heap[q]? = some c → c.vm.isStatics = true → ¬ A q) ∧ e.platform.stackTraces = false ∧ c.exceptionTable.toList = []
theorem metT_of {l : Launch} (hfl : l.flags = flags0) {y : MethodName} {wy wy' : List Cond} {rm : Room} {D : va_G} {tys : List (ClassId × FieldType)} {av : List Value} {w w2 : va_W} {cc : ByteArray} {maxL : Nat} {ret : Option FieldType} (hy : plainName y.cls = true) (hw : wy = Cond.code y cc maxL ret :: wy') (hm : (lg_sl av).length ≤ maxL)
    (body : ∀ K : KT, Cx K cc y.cls wy tys → Rm K rm → NLis K maxL → Dis K D → Lis K l → ThK K → RT K rm.cells rm.slots tys w2 → Z K 0 0 w (lv_args 0 av) 0 []) : MT l y wy rm D tys av w w2 := by
  intro sz
  refine MetFree.of_bodyS (code := cc) (maxLocals := maxL) (ret := ret) hy ?_ ?_
  · intro args s m h hn
    obtain ⟨meth, c, h1, h2, h3, h4, h5, h6, -, -⟩ := Cond.code_spec hn (atoms_spec (ws := wy) h _ (by rw [hw]; exact List.mem_cons_self))
    exact ⟨meth, c, h1, h2, h3, h4, h5, h6⟩
  · intro p e s m args below meth c s₁ B hml hv _
    obtain ⟨rfl, ⟨hsz, hP, hK, hD0, hN⟩, hTh⟩ := hv
    have hh0 : s₁.heap = s.heap := by rw [B.state]; rfl
    have hts := atoms_spec (ws := wy) B.pre
    have hown : s.vm.findClass y.cls = some m.cls := findClass_of_methodNamed B.named
    subst hsz
    have hD := hD0.self (sz := s.heap.size)
    have hA : ∀ q : Nat, s.heap.size ≤ q → va_A w s.heap.size q := fun q h => Or.inr h
    have hl := lv_entry av (n := maxL) hm
    have X0 := Stand.of_body B
    have htab : c.exceptionTable.toList = [] := by
      obtain ⟨meth', c', hm', hc', -, -, -, -, hempty, -⟩ := Cond.code_spec B.named (hts _ (by rw [hw]; exact List.mem_cons_self))
      cases hm'.symm.trans X0.method
      cases hc'.symm.trans X0.code
      have h0 : c.exceptionTable.size = 0 := by simpa [Array.isEmpty] using hempty
      exact List.eq_nil_of_length_eq_zero (by simpa using h0)
    have h9 : W p l e (headSpec wy rm).room s m av.toArray below meth c s.heap [] 0 0 (fun t => ∃ o, t.status = .running ∧ Ended t below o ∧ QT (va_A w s.heap.size) (Bw D tys (va_A w s.heap.size) w2 ()) rm.cells rm.slots s o t) (entryFrame m av.toArray maxL) := by
      rw [lg_entry_eq]
      exact body (p, l, e, (headSpec wy rm).room, s, m, av.toArray, below, meth, c, maxL, D, va_A w s.heap.size, _) ⟨B.exec, B.bytes, hml, hown, hts, hK, hA, hN, B.notSynchronized⟩ rfl rfl rfl rfl ⟨hTh, fun q c h1 h2 => va_P.notS hP h1 h2, Launch.traces_off hfl B.admits, htab⟩ rfl s.heap [] _ hP hD va_S.rf hl
    obtain ⟨t, a1, o, b1, b2, b3⟩ := h9 s₁ hh0 X0
    exact ⟨t, o, a1, b1, b2, b3⟩
theorem tc_keep {s U : State} {n k : Nat} (h : s.sameButNew U [] n k) {q : Nat} (hq : q < s.heap.size) : U.heap[q]? = s.heap[q]? := by
  obtain ⟨c', h1, h2, h3, h4⟩ := h.2.2.2.2.2 q s.heap[q] (Array.getElem?_eq_getElem hq)
  have e1 : c'.slots = (s.heap[q]).slots := Array.ext_getElem? (fun i => h4 i List.not_mem_nil)
  rw [h1, Array.getElem?_eq_getElem hq, h2, e1]
section ZT
variable {K : KT} {cc : ByteArray} {Ts : List Cond} {tys : List (ClassId × FieldType)} {n k : Nat} {ws : va_W} {lv : List (Nat × Value)} {pc : Nat}
theorem z_throw (hC : Cx K cc RX3 Ts tys) {R0 : Room} (hR0 : Rm K R0) (hTh : ThK K) {N M : Nat} (hQ : RT K N M tys ws) (hcl : Cond.classLink RX3 78 RJx00060 ∈ Ts) (hins : Cond.instantiable RJx00060 6 ∈ Ts) (hini : Cond.initialized RJx00060 ∈ Ts)
    (hn : n + 1 = N) (hk : k + 6 = M) (hcells : n + 1 ≤ R0.cells) (hslots : k + 6 ≤ R0.slots) (hfr : 6 < R0.frames) (hlo : 95 ≤ R0.locals)
    (d0 : decode cc pc = .ok (.new 78, 3)) (d1 : decode cc (pc + 3) = .ok (.dup, 1)) (d2 : decode cc (pc + 4) = .ok (.ldc 80, 2)) (d3 : decode cc (pc + 6) = .ok (.invokespecial 82, 3)) (d4 : decode cc (pc + 9) = .ok (.athrow, 1)) : Z K n k ws lv pc [] := by
  obtain ⟨p, l, e, R, s, m, args, below, meth, c, nL, D, A, Q⟩ := K
  obtain ⟨hx, hb, hml, hown, hts, hK, hA, hN, hlk⟩ := hC
  obtain ⟨hThW, hno, htr, htab⟩ := hTh
  have hR0 : R = R0 := hR0
  subst hR0
  have hQ : Q = _ := hQ
  subst hQ
  subst hn
  subst hk
  intro H locs ls hP hD hS hl T hT X
  have X' := tc_rebase X (by omega) (by omega)
  generalize hs' : ({ s with heap := T.heap, slotsUsed := T.slotsUsed } : State) = s' at X'
  have hvm : s'.vm = s.vm := by rw [← hs']
  have hh' : s'.heap = T.heap := by rw [← hs']
  have hW0 : s.WarmedH s'.vm := by rw [hvm]; exact State.WarmedH.refl s
  have hst : ∀ (q : Nat) (c : Cell), s.heap[q]? = some c → c.vm.isStatics = true → s'.heap[q]? = some c := fun q c h1 h2 => by
    rw [hh', hT, hS.2.1 q (Array.getElem?_eq_some_iff.mp h1).1 (hno q c h1 h2)]
    exact h1
  have hw := hThW.at (a' := args) hW0 hst
  obtain ⟨ad, hZ⟩ := hThW.2
  have hown' : s'.vm.findClass RX3 = some m.cls := by rw [hvm]; exact hown
  have key : W p l e { R with cells := R.cells - n, slots := R.slots - k } s' m args below meth c T.heap [] 0 0 (fun t => ∃ o, t.status = .running ∧ Ended t below o ∧ QT A (Bw D tys A ws ()) (n + 1) (k + 6) s o t) (F0 m pc ls []) := by
    refine W.newc hx hb hown' (word_at hW0 (Or.inl rfl) (hts _ hcl)) (word_at hW0 (Or.inl rfl) (hts _ hins)) (word_at hW0 (Or.inl rfl) (hts _ hini)) rfl d0 (by show 0 + 1 ≤ R.cells - n; omega) (by show 0 + 6 ≤ R.slots - k; omega) (fun cC kC h1 h2 h3 h4 => ?_)
    refine lv_dup hx hb d1 rfl ?_
    refine va_ldcS hx hb hown' (hZ.warm hW0) d2 ?_
    intro T3 hT3 X3
    obtain ⟨U, st, run, ended, hWU, hsame, ce, hce, hoc⟩ := X3.ctorThrowS hx htr (own := RX3) (cls := RJx00060) (names := thN) (ic := 82) hown' (by decide +kernel) (by decide +kernel) (fun w h => hw w (List.mem_append_left _ h)) (fun x hx => absurd hx List.not_mem_nil) (a := T.heap.size) h1 h2 (by rw [hT3]; simp) (by rw [hh']; exact Nat.le_refl _) (msg := .ref ad) rfl (g := F0 m (pc + 6) ls [.ref ad, .ref T.heap.size, .ref T.heap.size]) rfl (by rw [hml]; exact hl.1) rfl rfl (rest := []) rfl (by rw [hb]; exact d3) (by rw [hb]; exact d4) (fun x hx => by rw [htab] at hx; exact absurd hx List.not_mem_nil) hfr hlo hlk
    have hkeep : ∀ q : Nat, q < H.size → U.heap[q]? = H[q]? := fun q hq => by
      have h5 := tc_keep hsame (q := q) (by rw [hh', hT]; exact hq)
      rw [hh', hT] at h5
      exact h5
    have hsz : H.size ≤ U.heap.size := by
      have h5 := hsame.2.1
      rw [hh', hT] at h5
      exact h5
    refine ⟨U, st, .threw T.heap.size, run, ended, T.heap.size, rfl, ⟨hP.kept (fun j x hx => hkeep x.1 ((hP j x hx).lt)), ?_, hD⟩, ⟨Nat.le_trans hS.1 hsz, fun q h1 h2 => ?_⟩, ⟨locs, ?_, ?_, hS.2.2⟩, ce, hce, by rw [hoc.vm]; rfl, by rw [← hvm]; exact hoc.cls, by rw [← hvm]; exact hoc.self⟩
    · refine va_K.moved (u := s) ?_ hK
      rw [← hvm]
      exact hWU.alike
    · rw [hkeep q (Nat.lt_of_lt_of_le h1 hS.1)]
      exact hS.2.1 q h1 h2
    · subst hs'
      exact hWU
    · subst hs'
      have h6 := X.same
      have h7 : (T.setVm s.vm).sameButNew ({ U with vm := s.vm } : State) [] 1 6 := by
        refine ⟨?_, hsame.2⟩
        have h11 : ∀ F : List Frame, (T.setVm s.vm).setFrames F = { s.setFrames F with heap := T.heap, slotsUsed := T.slotsUsed } := fun F => by
          rw [h6.1]
          show ({ (s.setFrames T.frames).setFrames F with heap := T.heap, slotsUsed := T.slotsUsed } : State) = _
          rw [State.setFrames_setFrames]
        rw [h11]
        exact hsame.1
      have h10 := h6.trans h7
      rw [List.append_nil] at h10
      exact h10
  exact key T rfl X'
end ZT
