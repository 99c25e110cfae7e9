section
-- ===== PART A: goes FIRST, ahead of the names: the tables' words, and 'selects' of the private methods out of them =====
/-- a private method of a class that the tables say can be made, by its rows of tables_1 -/
def lw_okq (q : MethodName × Nat) : Prop := (q.1.cls ≠ "java/lang/invoke/MethodHandle" ∧ q.1.cls ≠ "java/lang/invoke/VarHandle") ∧ Cond.instantiable q.1.cls q.2 ∈ tables_1 ∧ Cond.privateMethod q.1 ∈ tables_1 ∧ Cond.instanceMethod q.1 ∈ tables_1
theorem lw_p0 : lw_okq (⟨"ElCompletion", "isAxiom", "(IIII)Z"⟩, 5) := ⟨⟨by decide +kernel, by decide +kernel⟩, List.mem_of_getElem? (i := 14) (by decide +kernel), List.mem_of_getElem? (i := 130) (by decide +kernel), List.mem_of_getElem? (i := 131) (by decide +kernel)⟩
theorem lw_p1 : lw_okq (⟨"ElCompletion", "isClass", "(I)Z"⟩, 5) := ⟨⟨by decide +kernel, by decide +kernel⟩, List.mem_of_getElem? (i := 14) (by decide +kernel), List.mem_of_getElem? (i := 134) (by decide +kernel), List.mem_of_getElem? (i := 135) (by decide +kernel)⟩
theorem lw_p2 : lw_okq (⟨"ElCompletion$Axioms", "append", "(IIII)I"⟩, 5) := ⟨⟨by decide +kernel, by decide +kernel⟩, List.mem_of_getElem? (i := 22) (by decide +kernel), List.mem_of_getElem? (i := 141) (by decide +kernel), List.mem_of_getElem? (i := 142) (by decide +kernel)⟩
theorem lw_p3 : lw_okq (⟨"ElCompletion$Axioms", "remove", "(I)I"⟩, 5) := ⟨⟨by decide +kernel, by decide +kernel⟩, List.mem_of_getElem? (i := 22) (by decide +kernel), List.mem_of_getElem? (i := 149) (by decide +kernel), List.mem_of_getElem? (i := 150) (by decide +kernel)⟩
theorem lw_p4 : lw_okq (⟨"ElCompletion$Axioms", "closeGap", "([II)V"⟩, 5) := ⟨⟨by decide +kernel, by decide +kernel⟩, List.mem_of_getElem? (i := 22) (by decide +kernel), List.mem_of_getElem? (i := 153) (by decide +kernel), List.mem_of_getElem? (i := 154) (by decide +kernel)⟩
theorem lw_p5 : lw_okq (⟨"ElCompletion", "closed", "()LElCompletion$Closure;"⟩, 5) := ⟨⟨by decide +kernel, by decide +kernel⟩, List.mem_of_getElem? (i := 14) (by decide +kernel), List.mem_of_getElem? (i := 164) (by decide +kernel), List.mem_of_getElem? (i := 165) (by decide +kernel)⟩
theorem lw_p6 : lw_okq (⟨"ElCompletion$Closure", "fill", "(LElCompletion$Axioms;I)V"⟩, 8) := ⟨⟨by decide +kernel, by decide +kernel⟩, List.mem_of_getElem? (i := 51) (by decide +kernel), List.mem_of_getElem? (i := 168) (by decide +kernel), List.mem_of_getElem? (i := 169) (by decide +kernel)⟩
theorem lw_p7 : lw_okq (⟨"ElCompletion$Closure", "clear", "(I)V"⟩, 8) := ⟨⟨by decide +kernel, by decide +kernel⟩, List.mem_of_getElem? (i := 51) (by decide +kernel), List.mem_of_getElem? (i := 172) (by decide +kernel), List.mem_of_getElem? (i := 173) (by decide +kernel)⟩
theorem lw_p8 : lw_okq (⟨"ElCompletion$Closure", "giveAtFirst", "(LElCompletion$Axioms;)V"⟩, 8) := ⟨⟨by decide +kernel, by decide +kernel⟩, List.mem_of_getElem? (i := 51) (by decide +kernel), List.mem_of_getElem? (i := 183) (by decide +kernel), List.mem_of_getElem? (i := 184) (by decide +kernel)⟩
theorem lw_p9 : lw_okq (⟨"ElCompletion$Closure", "give", "(IIIII)V"⟩, 8) := ⟨⟨by decide +kernel, by decide +kernel⟩, List.mem_of_getElem? (i := 51) (by decide +kernel), List.mem_of_getElem? (i := 187) (by decide +kernel), List.mem_of_getElem? (i := 188) (by decide +kernel)⟩
theorem lw_p10 : lw_okq (⟨"ElCompletion$Closure", "giveOfItself", "(I)V"⟩, 8) := ⟨⟨by decide +kernel, by decide +kernel⟩, List.mem_of_getElem? (i := 51) (by decide +kernel), List.mem_of_getElem? (i := 197) (by decide +kernel), List.mem_of_getElem? (i := 198) (by decide +kernel)⟩
theorem lw_p11 : lw_okq (⟨"ElCompletion$Closure", "endRound", "()V"⟩, 8) := ⟨⟨by decide +kernel, by decide +kernel⟩, List.mem_of_getElem? (i := 51) (by decide +kernel), List.mem_of_getElem? (i := 204) (by decide +kernel), List.mem_of_getElem? (i := 205) (by decide +kernel)⟩
theorem lw_p12 : lw_okq (⟨"ElCompletion$Closure", "listColumns", "(II)V"⟩, 8) := ⟨⟨by decide +kernel, by decide +kernel⟩, List.mem_of_getElem? (i := 51) (by decide +kernel), List.mem_of_getElem? (i := 208) (by decide +kernel), List.mem_of_getElem? (i := 209) (by decide +kernel)⟩
theorem lw_p13 : lw_okq (⟨"ElCompletion$Closure", "listFactsOf", "(III)V"⟩, 8) := ⟨⟨by decide +kernel, by decide +kernel⟩, List.mem_of_getElem? (i := 51) (by decide +kernel), List.mem_of_getElem? (i := 212) (by decide +kernel), List.mem_of_getElem? (i := 213) (by decide +kernel)⟩
theorem lw_p14 : lw_okq (⟨"ElCompletion$Closure", "giveByAxiom", "(LElCompletion$Axioms;I)V"⟩, 8) := ⟨⟨by decide +kernel, by decide +kernel⟩, List.mem_of_getElem? (i := 51) (by decide +kernel), List.mem_of_getElem? (i := 217) (by decide +kernel), List.mem_of_getElem? (i := 218) (by decide +kernel)⟩
theorem lw_p15 : lw_okq (⟨"ElCompletion$Closure", "giveToBoth", "(IIII)V"⟩, 8) := ⟨⟨by decide +kernel, by decide +kernel⟩, List.mem_of_getElem? (i := 51) (by decide +kernel), List.mem_of_getElem? (i := 221) (by decide +kernel), List.mem_of_getElem? (i := 222) (by decide +kernel)⟩
def lw_privs_1 : List (MethodName × Nat) := [(⟨"ElCompletion", "isAxiom", "(IIII)Z"⟩, 5), (⟨"ElCompletion", "isClass", "(I)Z"⟩, 5), (⟨"ElCompletion$Axioms", "append", "(IIII)I"⟩, 5), (⟨"ElCompletion$Axioms", "remove", "(I)I"⟩, 5), (⟨"ElCompletion$Axioms", "closeGap", "([II)V"⟩, 5), (⟨"ElCompletion", "closed", "()LElCompletion$Closure;"⟩, 5), (⟨"ElCompletion$Closure", "fill", "(LElCompletion$Axioms;I)V"⟩, 8), (⟨"ElCompletion$Closure", "clear", "(I)V"⟩, 8), (⟨"ElCompletion$Closure", "giveAtFirst", "(LElCompletion$Axioms;)V"⟩, 8), (⟨"ElCompletion$Closure", "give", "(IIIII)V"⟩, 8), (⟨"ElCompletion$Closure", "giveOfItself", "(I)V"⟩, 8), (⟨"ElCompletion$Closure", "endRound", "()V"⟩, 8), (⟨"ElCompletion$Closure", "listColumns", "(II)V"⟩, 8), (⟨"ElCompletion$Closure", "listFactsOf", "(III)V"⟩, 8), (⟨"ElCompletion$Closure", "giveByAxiom", "(LElCompletion$Axioms;I)V"⟩, 8), (⟨"ElCompletion$Closure", "giveToBoth", "(IIII)V"⟩, 8)]
theorem lw_r1 : ∀ q ∈ lw_privs_1, lw_okq q := List.forall_mem_cons.mpr ⟨lw_p0, List.forall_mem_cons.mpr ⟨lw_p1, List.forall_mem_cons.mpr ⟨lw_p2, List.forall_mem_cons.mpr ⟨lw_p3, List.forall_mem_cons.mpr ⟨lw_p4, List.forall_mem_cons.mpr ⟨lw_p5, List.forall_mem_cons.mpr ⟨lw_p6, List.forall_mem_cons.mpr ⟨lw_p7, List.forall_mem_cons.mpr ⟨lw_p8, List.forall_mem_cons.mpr ⟨lw_p9, List.forall_mem_cons.mpr ⟨lw_p10, List.forall_mem_cons.mpr ⟨lw_p11, List.forall_mem_cons.mpr ⟨lw_p12, List.forall_mem_cons.mpr ⟨lw_p13, List.forall_mem_cons.mpr ⟨lw_p14, List.forall_mem_cons.mpr ⟨lw_p15, fun _ h => absurd h List.not_mem_nil⟩⟩⟩⟩⟩⟩⟩⟩⟩⟩⟩⟩⟩⟩⟩⟩
theorem lw_p16 : lw_okq (⟨"ElCompletion$Closure", "giveToWhatHas", "(IIII)V"⟩, 8) := ⟨⟨by decide +kernel, by decide +kernel⟩, List.mem_of_getElem? (i := 51) (by decide +kernel), List.mem_of_getElem? (i := 225) (by decide +kernel), List.mem_of_getElem? (i := 226) (by decide +kernel)⟩
theorem lw_p17 : lw_okq (⟨"ElCompletion$Closure", "giveRole", "(III)V"⟩, 8) := ⟨⟨by decide +kernel, by decide +kernel⟩, List.mem_of_getElem? (i := 51) (by decide +kernel), List.mem_of_getElem? (i := 229) (by decide +kernel), List.mem_of_getElem? (i := 230) (by decide +kernel)⟩
theorem lw_p18 : lw_okq (⟨"ElCompletion$Closure", "giveChain", "(IIII)V"⟩, 8) := ⟨⟨by decide +kernel, by decide +kernel⟩, List.mem_of_getElem? (i := 51) (by decide +kernel), List.mem_of_getElem? (i := 233) (by decide +kernel), List.mem_of_getElem? (i := 234) (by decide +kernel)⟩
theorem lw_p19 : lw_okq (⟨"ElCompletion$Closure", "has", "(II)Z"⟩, 8) := ⟨⟨by decide +kernel, by decide +kernel⟩, List.mem_of_getElem? (i := 51) (by decide +kernel), List.mem_of_getElem? (i := 237) (by decide +kernel), List.mem_of_getElem? (i := 238) (by decide +kernel)⟩
theorem lw_p20 : lw_okq (⟨"ElCompletion$Closure", "follows", "(I)Z"⟩, 8) := ⟨⟨by decide +kernel, by decide +kernel⟩, List.mem_of_getElem? (i := 51) (by decide +kernel), List.mem_of_getElem? (i := 258) (by decide +kernel), List.mem_of_getElem? (i := 259) (by decide +kernel)⟩
theorem lw_p21 : lw_okq (⟨"ElCompletion$Closure", "roundOf", "(I)I"⟩, 8) := ⟨⟨by decide +kernel, by decide +kernel⟩, List.mem_of_getElem? (i := 51) (by decide +kernel), List.mem_of_getElem? (i := 262) (by decide +kernel), List.mem_of_getElem? (i := 263) (by decide +kernel)⟩
theorem lw_p22 : lw_okq (⟨"ElCompletion$Closure", "axiomOf", "(I)I"⟩, 8) := ⟨⟨by decide +kernel, by decide +kernel⟩, List.mem_of_getElem? (i := 51) (by decide +kernel), List.mem_of_getElem? (i := 266) (by decide +kernel), List.mem_of_getElem? (i := 267) (by decide +kernel)⟩
theorem lw_p23 : lw_okq (⟨"ElCompletion$Closure", "firstPremiseOf", "(I)I"⟩, 8) := ⟨⟨by decide +kernel, by decide +kernel⟩, List.mem_of_getElem? (i := 51) (by decide +kernel), List.mem_of_getElem? (i := 270) (by decide +kernel), List.mem_of_getElem? (i := 271) (by decide +kernel)⟩
theorem lw_p24 : lw_okq (⟨"ElCompletion$Closure", "secondPremiseOf", "(I)I"⟩, 8) := ⟨⟨by decide +kernel, by decide +kernel⟩, List.mem_of_getElem? (i := 51) (by decide +kernel), List.mem_of_getElem? (i := 274) (by decide +kernel), List.mem_of_getElem? (i := 275) (by decide +kernel)⟩
theorem lw_p25 : lw_okq (⟨"ElCompletion$Proof", "take", "(LElCompletion$Closure;I)V"⟩, 3) := ⟨⟨by decide +kernel, by decide +kernel⟩, List.mem_of_getElem? (i := 88) (by decide +kernel), List.mem_of_getElem? (i := 282) (by decide +kernel), List.mem_of_getElem? (i := 283) (by decide +kernel)⟩
theorem lw_p26 : lw_okq (⟨"ElCompletion$Proof", "need", "(I)V"⟩, 3) := ⟨⟨by decide +kernel, by decide +kernel⟩, List.mem_of_getElem? (i := 88) (by decide +kernel), List.mem_of_getElem? (i := 288) (by decide +kernel), List.mem_of_getElem? (i := 289) (by decide +kernel)⟩
theorem lw_p27 : lw_okq (⟨"ElCompletion$Proof", "isNeeded", "(I)Z"⟩, 3) := ⟨⟨by decide +kernel, by decide +kernel⟩, List.mem_of_getElem? (i := 88) (by decide +kernel), List.mem_of_getElem? (i := 292) (by decide +kernel), List.mem_of_getElem? (i := 293) (by decide +kernel)⟩
theorem lw_p28 : lw_okq (⟨"ElCompletion$Closure", "leastSame", "(I)I"⟩, 8) := ⟨⟨by decide +kernel, by decide +kernel⟩, List.mem_of_getElem? (i := 51) (by decide +kernel), List.mem_of_getElem? (i := 311) (by decide +kernel), List.mem_of_getElem? (i := 312) (by decide +kernel)⟩
theorem lw_p29 : lw_okq (⟨"ElCompletion$Closure", "areSame", "(II)Z"⟩, 8) := ⟨⟨by decide +kernel, by decide +kernel⟩, List.mem_of_getElem? (i := 51) (by decide +kernel), List.mem_of_getElem? (i := 315) (by decide +kernel), List.mem_of_getElem? (i := 316) (by decide +kernel)⟩
theorem lw_p30 : lw_okq (⟨"ElCompletion$Closure", "parentOf", "(II)I"⟩, 8) := ⟨⟨by decide +kernel, by decide +kernel⟩, List.mem_of_getElem? (i := 51) (by decide +kernel), List.mem_of_getElem? (i := 324) (by decide +kernel), List.mem_of_getElem? (i := 325) (by decide +kernel)⟩
theorem lw_p31 : lw_okq (⟨"ElCompletion$Closure", "isParent", "(II)Z"⟩, 8) := ⟨⟨by decide +kernel, by decide +kernel⟩, List.mem_of_getElem? (i := 51) (by decide +kernel), List.mem_of_getElem? (i := 328) (by decide +kernel), List.mem_of_getElem? (i := 329) (by decide +kernel)⟩
def lw_privs_2 : List (MethodName × Nat) := [(⟨"ElCompletion$Closure", "giveToWhatHas", "(IIII)V"⟩, 8), (⟨"ElCompletion$Closure", "giveRole", "(III)V"⟩, 8), (⟨"ElCompletion$Closure", "giveChain", "(IIII)V"⟩, 8), (⟨"ElCompletion$Closure", "has", "(II)Z"⟩, 8), (⟨"ElCompletion$Closure", "follows", "(I)Z"⟩, 8), (⟨"ElCompletion$Closure", "roundOf", "(I)I"⟩, 8), (⟨"ElCompletion$Closure", "axiomOf", "(I)I"⟩, 8), (⟨"ElCompletion$Closure", "firstPremiseOf", "(I)I"⟩, 8), (⟨"ElCompletion$Closure", "secondPremiseOf", "(I)I"⟩, 8), (⟨"ElCompletion$Proof", "take", "(LElCompletion$Closure;I)V"⟩, 3), (⟨"ElCompletion$Proof", "need", "(I)V"⟩, 3), (⟨"ElCompletion$Proof", "isNeeded", "(I)Z"⟩, 3), (⟨"ElCompletion$Closure", "leastSame", "(I)I"⟩, 8), (⟨"ElCompletion$Closure", "areSame", "(II)Z"⟩, 8), (⟨"ElCompletion$Closure", "parentOf", "(II)I"⟩, 8), (⟨"ElCompletion$Closure", "isParent", "(II)Z"⟩, 8)]
theorem lw_r2 : ∀ q ∈ lw_privs_2, lw_okq q := List.forall_mem_cons.mpr ⟨lw_p16, List.forall_mem_cons.mpr ⟨lw_p17, List.forall_mem_cons.mpr ⟨lw_p18, List.forall_mem_cons.mpr ⟨lw_p19, List.forall_mem_cons.mpr ⟨lw_p20, List.forall_mem_cons.mpr ⟨lw_p21, List.forall_mem_cons.mpr ⟨lw_p22, List.forall_mem_cons.mpr ⟨lw_p23, List.forall_mem_cons.mpr ⟨lw_p24, List.forall_mem_cons.mpr ⟨lw_p25, List.forall_mem_cons.mpr ⟨lw_p26, List.forall_mem_cons.mpr ⟨lw_p27, List.forall_mem_cons.mpr ⟨lw_p28, List.forall_mem_cons.mpr ⟨lw_p29, List.forall_mem_cons.mpr ⟨lw_p30, List.forall_mem_cons.mpr ⟨lw_p31, fun _ h => absurd h List.not_mem_nil⟩⟩⟩⟩⟩⟩⟩⟩⟩⟩⟩⟩⟩⟩⟩⟩
theorem lw_p32 : lw_okq (⟨"java/lang/Throwable", "fillInStackTrace", "(I)Ljava/lang/Throwable;"⟩, 6) := ⟨⟨by decide +kernel, by decide +kernel⟩, List.mem_of_getElem? (i := 379) (by decide +kernel), List.mem_of_getElem? (i := 377) (by decide +kernel), List.mem_of_getElem? (i := 378) (by decide +kernel)⟩
theorem lw_p33 : lw_okq (⟨"ElCompletionModel", "fits", "(II)Z"⟩, 16) := ⟨⟨by decide +kernel, by decide +kernel⟩, List.mem_of_getElem? (i := 416) (by decide +kernel), List.mem_of_getElem? (i := 483) (by decide +kernel), List.mem_of_getElem? (i := 484) (by decide +kernel)⟩
theorem lw_p34 : lw_okq (⟨"ElCompletionModel", "isClass", "(I)Z"⟩, 16) := ⟨⟨by decide +kernel, by decide +kernel⟩, List.mem_of_getElem? (i := 416) (by decide +kernel), List.mem_of_getElem? (i := 487) (by decide +kernel), List.mem_of_getElem? (i := 488) (by decide +kernel)⟩
theorem lw_p35 : lw_okq (⟨"ElCompletionModel", "follows", "(I)Z"⟩, 16) := ⟨⟨by decide +kernel, by decide +kernel⟩, List.mem_of_getElem? (i := 416) (by decide +kernel), List.mem_of_getElem? (i := 505) (by decide +kernel), List.mem_of_getElem? (i := 506) (by decide +kernel)⟩
theorem lw_p36 : lw_okq (⟨"ElCompletionModel", "reckon", "()V"⟩, 16) := ⟨⟨by decide +kernel, by decide +kernel⟩, List.mem_of_getElem? (i := 416) (by decide +kernel), List.mem_of_getElem? (i := 509) (by decide +kernel), List.mem_of_getElem? (i := 510) (by decide +kernel)⟩
theorem lw_p37 : lw_okq (⟨"ElCompletionModel", "start", "(I)V"⟩, 16) := ⟨⟨by decide +kernel, by decide +kernel⟩, List.mem_of_getElem? (i := 416) (by decide +kernel), List.mem_of_getElem? (i := 513) (by decide +kernel), List.mem_of_getElem? (i := 514) (by decide +kernel)⟩
theorem lw_p38 : lw_okq (⟨"ElCompletionModel", "one", "(II)V"⟩, 16) := ⟨⟨by decide +kernel, by decide +kernel⟩, List.mem_of_getElem? (i := 416) (by decide +kernel), List.mem_of_getElem? (i := 520) (by decide +kernel), List.mem_of_getElem? (i := 521) (by decide +kernel)⟩
theorem lw_p39 : lw_okq (⟨"ElCompletionModel", "give", "(IIII)V"⟩, 16) := ⟨⟨by decide +kernel, by decide +kernel⟩, List.mem_of_getElem? (i := 416) (by decide +kernel), List.mem_of_getElem? (i := 524) (by decide +kernel), List.mem_of_getElem? (i := 525) (by decide +kernel)⟩
theorem lw_p40 : lw_okq (⟨"ElCompletionModel", "has", "(I)Z"⟩, 16) := ⟨⟨by decide +kernel, by decide +kernel⟩, List.mem_of_getElem? (i := 416) (by decide +kernel), List.mem_of_getElem? (i := 528) (by decide +kernel), List.mem_of_getElem? (i := 529) (by decide +kernel)⟩
theorem lw_p41 : lw_okq (⟨"ElCompletionModel", "two", "(III)V"⟩, 16) := ⟨⟨by decide +kernel, by decide +kernel⟩, List.mem_of_getElem? (i := 416) (by decide +kernel), List.mem_of_getElem? (i := 532) (by decide +kernel), List.mem_of_getElem? (i := 533) (by decide +kernel)⟩
theorem lw_p42 : lw_okq (⟨"ElCompletionModel", "want", "(I)Z"⟩, 16) := ⟨⟨by decide +kernel, by decide +kernel⟩, List.mem_of_getElem? (i := 416) (by decide +kernel), List.mem_of_getElem? (i := 560) (by decide +kernel), List.mem_of_getElem? (i := 561) (by decide +kernel)⟩
theorem lw_p43 : lw_okq (⟨"ElCompletionModel", "both", "(II)Z"⟩, 16) := ⟨⟨by decide +kernel, by decide +kernel⟩, List.mem_of_getElem? (i := 416) (by decide +kernel), List.mem_of_getElem? (i := 577) (by decide +kernel), List.mem_of_getElem? (i := 578) (by decide +kernel)⟩
theorem lw_p44 : lw_okq (⟨"ElCompletionModel", "isParent", "(II)Z"⟩, 16) := ⟨⟨by decide +kernel, by decide +kernel⟩, List.mem_of_getElem? (i := 416) (by decide +kernel), List.mem_of_getElem? (i := 585) (by decide +kernel), List.mem_of_getElem? (i := 586) (by decide +kernel)⟩
theorem lw_p45 : lw_okq (⟨"ElCompletionModel", "isAbove", "(II)Z"⟩, 16) := ⟨⟨by decide +kernel, by decide +kernel⟩, List.mem_of_getElem? (i := 416) (by decide +kernel), List.mem_of_getElem? (i := 589) (by decide +kernel), List.mem_of_getElem? (i := 590) (by decide +kernel)⟩
def lw_privs_3 : List (MethodName × Nat) := [(⟨"java/lang/Throwable", "fillInStackTrace", "(I)Ljava/lang/Throwable;"⟩, 6), (⟨"ElCompletionModel", "fits", "(II)Z"⟩, 16), (⟨"ElCompletionModel", "isClass", "(I)Z"⟩, 16), (⟨"ElCompletionModel", "follows", "(I)Z"⟩, 16), (⟨"ElCompletionModel", "reckon", "()V"⟩, 16), (⟨"ElCompletionModel", "start", "(I)V"⟩, 16), (⟨"ElCompletionModel", "one", "(II)V"⟩, 16), (⟨"ElCompletionModel", "give", "(IIII)V"⟩, 16), (⟨"ElCompletionModel", "has", "(I)Z"⟩, 16), (⟨"ElCompletionModel", "two", "(III)V"⟩, 16), (⟨"ElCompletionModel", "want", "(I)Z"⟩, 16), (⟨"ElCompletionModel", "both", "(II)Z"⟩, 16), (⟨"ElCompletionModel", "isParent", "(II)Z"⟩, 16), (⟨"ElCompletionModel", "isAbove", "(II)Z"⟩, 16)]
theorem lw_r3 : ∀ q ∈ lw_privs_3, lw_okq q := List.forall_mem_cons.mpr ⟨lw_p32, List.forall_mem_cons.mpr ⟨lw_p33, List.forall_mem_cons.mpr ⟨lw_p34, List.forall_mem_cons.mpr ⟨lw_p35, List.forall_mem_cons.mpr ⟨lw_p36, List.forall_mem_cons.mpr ⟨lw_p37, List.forall_mem_cons.mpr ⟨lw_p38, List.forall_mem_cons.mpr ⟨lw_p39, List.forall_mem_cons.mpr ⟨lw_p40, List.forall_mem_cons.mpr ⟨lw_p41, List.forall_mem_cons.mpr ⟨lw_p42, List.forall_mem_cons.mpr ⟨lw_p43, List.forall_mem_cons.mpr ⟨lw_p44, List.forall_mem_cons.mpr ⟨lw_p45, fun _ h => absurd h List.not_mem_nil⟩⟩⟩⟩⟩⟩⟩⟩⟩⟩⟩⟩⟩⟩
def lw_privs : List (MethodName × Nat) := lw_privs_1 ++ (lw_privs_2 ++ (lw_privs_3))
def lw_tbl : List Cond := k2_sels lw_privs ++ tables_1
theorem lw_privs_ok : ∀ q ∈ lw_privs, lw_okq q := by
  show ∀ q ∈ lw_privs_1 ++ (lw_privs_2 ++ (lw_privs_3)), lw_okq q
  exact List.forall_mem_append.mpr ⟨lw_r1, List.forall_mem_append.mpr ⟨lw_r2, lw_r3⟩⟩
end
section
/-! ===== BEGIN words of one list among another's, by their places ===== -/
theorem goodIn_r {big : List Cond} (ws : List Cond) (ps : List Nat) (hp : ws = ps.filterMap (fun i => big[i]?)) (h : ws.all goodWord = true) : GoodIn big ws := by
  intro w hw
  have h1 := List.all_eq_true.mp h w hw
  rw [hp] at hw
  obtain ⟨i, -, hi⟩ := List.mem_filterMap.mp hw
  have hm : w ∈ big := by first | exact List.mem_of_getElem? hi | exact List.getElem?_mem hi
  exact ⟨hm, good_of_word h1⟩
theorem goodIn_app {big a b : List Cond} (ha : GoodIn big a) (hb : GoodIn big b) : GoodIn big (a ++ b) := fun w h => (List.mem_append.mp h).elim (ha w) (hb w)
theorem goodIn_ca {big a b : List Cond} {c : Cond} (ha : GoodIn big (c :: a)) (hb : GoodIn big b) : GoodIn big (c :: (a ++ b)) := fun w h => (List.mem_cons.mp h).elim (fun e => ha w (List.mem_cons.mpr (Or.inl e))) (fun h => (List.mem_append.mp h).elim (fun h => ha w (List.mem_cons.mpr (Or.inr h))) (hb w))
theorem goodIn_sub {big ws : List Cond} (hm : ∀ w ∈ ws, w ∈ big) (h : ws.all goodWord = true) : GoodIn big ws := fun w hw => ⟨hm w hw, good_of_word (List.all_eq_true.mp h w hw)⟩
/-! ===== END ===== -/

/-! ===== BEGIN printed: names, fields, word lists, decode rows ===== -/
def RX0 : String := "ElCompletion$Axioms"
def TX0 : u_T := fun k => match k with
  | 0 => ("ElCompletion$Axioms", "kind", "[I", true)
  | 1 => ("ElCompletion$Axioms", "a", "[I", true)
  | 2 => ("ElCompletion$Axioms", "b", "[I", true)
  | 3 => ("ElCompletion$Axioms", "c", "[I", true)
  | _ => ("ElCompletion$Axioms", "count", "I", false)
def tyX0 : Nat → FieldType := fun k => match k with
  | 0 => .array .int
  | 1 => .array .int
  | 2 => .array .int
  | 3 => .array .int
  | _ => .int
abbrev wsX00 : List Cond := u_ws RX0 TX0 5
theorem nmX0 : ∀ a, a < 5 → ∀ b, b < 5 → a ≠ b → (TX0 a).2.1 ≠ (TX0 b).2.1 := by decide +kernel
theorem tyX0_ok : ∀ k, k < 5 → parseFieldDescriptor (TX0 k).2.2.1 = some (tyX0 k) := by decide +kernel
abbrev cX0_init : ByteArray := prog_2_method_1_code
def yX0_init : MethodName := ⟨RX0, "<init>", "()V"⟩
abbrev cX0_append : ByteArray := prog_2_method_2_code
def yX0_append : MethodName := ⟨RX0, "append", "(IIII)I"⟩
abbrev cX0_remove : ByteArray := prog_2_method_3_code
def yX0_remove : MethodName := ⟨RX0, "remove", "(I)I"⟩
abbrev cX0_closeGap : ByteArray := prog_2_method_4_code
def yX0_closeGap : MethodName := ⟨RX0, "closeGap", "([II)V"⟩
def RX1 : String := "ElCompletion$Closure"
def TX1 : u_T := fun k => match k with
  | 0 => ("ElCompletion$Closure", "before", "[I", true)
  | 1 => ("ElCompletion$Closure", "now", "[I", true)
  | 2 => ("ElCompletion$Closure", "grounds", "[J", true)
  | 3 => ("ElCompletion$Closure", "order", "[I", true)
  | 4 => ("ElCompletion$Closure", "classCount", "I", false)
  | 5 => ("ElCompletion$Closure", "factCount", "I", false)
  | 6 => ("ElCompletion$Closure", "roundCount", "I", false)
  | _ => ("ElCompletion$Closure", "gainers", "I", false)
def tyX1 : Nat → FieldType := fun k => match k with
  | 0 => .array .int
  | 1 => .array .int
  | 2 => .array .long
  | 3 => .array .int
  | 4 => .int
  | 5 => .int
  | 6 => .int
  | _ => .int
abbrev wsX10 : List Cond := u_ws RX1 TX1 8
theorem nmX1 : ∀ a, a < 8 → ∀ b, b < 8 → a ≠ b → (TX1 a).2.1 ≠ (TX1 b).2.1 := by decide +kernel
theorem tyX1_ok : ∀ k, k < 8 → parseFieldDescriptor (TX1 k).2.2.1 = some (tyX1 k) := by decide +kernel
abbrev cX1_init : ByteArray := prog_3_method_1_code
def yX1_init : MethodName := ⟨RX1, "<init>", "()V"⟩
abbrev cX1_fill : ByteArray := prog_3_method_2_code
def yX1_fill : MethodName := ⟨RX1, "fill", "(LElCompletion$Axioms;I)V"⟩
abbrev cX1_clear : ByteArray := prog_3_method_3_code
def yX1_clear : MethodName := ⟨RX1, "clear", "(I)V"⟩
abbrev cX1_giveAtFirst : ByteArray := prog_3_method_4_code
def yX1_giveAtFirst : MethodName := ⟨RX1, "giveAtFirst", "(LElCompletion$Axioms;)V"⟩
abbrev cX1_giveOfItself : ByteArray := prog_3_method_5_code
def yX1_giveOfItself : MethodName := ⟨RX1, "giveOfItself", "(I)V"⟩
abbrev cX1_giveByAxiom : ByteArray := prog_3_method_6_code
def yX1_giveByAxiom : MethodName := ⟨RX1, "giveByAxiom", "(LElCompletion$Axioms;I)V"⟩
abbrev cX1_giveToBoth : ByteArray := prog_3_method_7_code
def yX1_giveToBoth : MethodName := ⟨RX1, "giveToBoth", "(IIII)V"⟩
abbrev cX1_giveToWhatHas : ByteArray := prog_3_method_8_code
def yX1_giveToWhatHas : MethodName := ⟨RX1, "giveToWhatHas", "(IIII)V"⟩
abbrev cX1_giveRole : ByteArray := prog_3_method_9_code
def yX1_giveRole : MethodName := ⟨RX1, "giveRole", "(III)V"⟩
abbrev cX1_giveChain : ByteArray := prog_3_method_10_code
def yX1_giveChain : MethodName := ⟨RX1, "giveChain", "(IIII)V"⟩
abbrev cX1_give : ByteArray := prog_3_method_11_code
def yX1_give : MethodName := ⟨RX1, "give", "(IIIII)V"⟩
abbrev cX1_endRound : ByteArray := prog_3_method_12_code
def yX1_endRound : MethodName := ⟨RX1, "endRound", "()V"⟩
abbrev cX1_listColumns : ByteArray := prog_3_method_13_code
def yX1_listColumns : MethodName := ⟨RX1, "listColumns", "(II)V"⟩
abbrev cX1_listFactsOf : ByteArray := prog_3_method_14_code
def yX1_listFactsOf : MethodName := ⟨RX1, "listFactsOf", "(III)V"⟩
abbrev cX1_has : ByteArray := prog_3_method_15_code
def yX1_has : MethodName := ⟨RX1, "has", "(II)Z"⟩
abbrev cX1_follows : ByteArray := prog_3_method_16_code
def yX1_follows : MethodName := ⟨RX1, "follows", "(I)Z"⟩
abbrev cX1_roundOf : ByteArray := prog_3_method_17_code
def yX1_roundOf : MethodName := ⟨RX1, "roundOf", "(I)I"⟩
abbrev cX1_axiomOf : ByteArray := prog_3_method_18_code
def yX1_axiomOf : MethodName := ⟨RX1, "axiomOf", "(I)I"⟩
abbrev cX1_firstPremiseOf : ByteArray := prog_3_method_19_code
def yX1_firstPremiseOf : MethodName := ⟨RX1, "firstPremiseOf", "(I)I"⟩
abbrev cX1_secondPremiseOf : ByteArray := prog_3_method_20_code
def yX1_secondPremiseOf : MethodName := ⟨RX1, "secondPremiseOf", "(I)I"⟩
abbrev cX1_areSame : ByteArray := prog_3_method_21_code
def yX1_areSame : MethodName := ⟨RX1, "areSame", "(II)Z"⟩
abbrev cX1_leastSame : ByteArray := prog_3_method_22_code
def yX1_leastSame : MethodName := ⟨RX1, "leastSame", "(I)I"⟩
abbrev cX1_parentOf : ByteArray := prog_3_method_23_code
def yX1_parentOf : MethodName := ⟨RX1, "parentOf", "(II)I"⟩
abbrev cX1_isParent : ByteArray := prog_3_method_24_code
def yX1_isParent : MethodName := ⟨RX1, "isParent", "(II)Z"⟩
def RX2 : String := "ElCompletion$Proof"
def TX2 : u_T := fun k => match k with
  | 0 => ("ElCompletion$Proof", "rows", "[I", true)
  | 1 => ("ElCompletion$Proof", "needed", "[J", true)
  | _ => ("ElCompletion$Proof", "count", "I", false)
def tyX2 : Nat → FieldType := fun k => match k with
  | 0 => .array .int
  | 1 => .array .long
  | _ => .int
abbrev wsX20 : List Cond := u_ws RX2 TX2 3
theorem nmX2 : ∀ a, a < 3 → ∀ b, b < 3 → a ≠ b → (TX2 a).2.1 ≠ (TX2 b).2.1 := by decide +kernel
theorem tyX2_ok : ∀ k, k < 3 → parseFieldDescriptor (TX2 k).2.2.1 = some (tyX2 k) := by decide +kernel
abbrev cX2_init : ByteArray := prog_4_method_1_code
def yX2_init : MethodName := ⟨RX2, "<init>", "()V"⟩
abbrev cX2_take : ByteArray := prog_4_method_2_code
def yX2_take : MethodName := ⟨RX2, "take", "(LElCompletion$Closure;I)V"⟩
abbrev cX2_need : ByteArray := prog_4_method_3_code
def yX2_need : MethodName := ⟨RX2, "need", "(I)V"⟩
abbrev cX2_isNeeded : ByteArray := prog_4_method_4_code
def yX2_isNeeded : MethodName := ⟨RX2, "isNeeded", "(I)Z"⟩
def RX3 : String := "ElCompletion"
def TX3 : u_T := fun k => match k with
  | 0 => ("ElCompletion", "axioms", "LElCompletion$Axioms;", true)
  | 1 => ("ElCompletion", "closure", "LElCompletion$Closure;", true)
  | 2 => ("ElCompletion", "proof", "LElCompletion$Proof;", true)
  | 3 => ("ElCompletion", "classCount", "I", false)
  | _ => ("ElCompletion", "stale", "Z", false)
def tyX3 : Nat → FieldType := fun k => match k with
  | 0 => .object "ElCompletion$Axioms"
  | 1 => .object "ElCompletion$Closure"
  | 2 => .object "ElCompletion$Proof"
  | 3 => .int
  | _ => .boolean
abbrev wsX30 : List Cond := u_ws RX3 TX3 5
theorem nmX3 : ∀ a, a < 5 → ∀ b, b < 5 → a ≠ b → (TX3 a).2.1 ≠ (TX3 b).2.1 := by decide +kernel
theorem tyX3_ok : ∀ k, k < 5 → parseFieldDescriptor (TX3 k).2.2.1 = some (tyX3 k) := by decide +kernel
abbrev cX3_init : ByteArray := prog_1_method_1_code
def yX3_init : MethodName := ⟨RX3, "<init>", "()V"⟩
abbrev cX3_grow : ByteArray := prog_1_method_2_code
def yX3_grow : MethodName := ⟨RX3, "grow", "()I"⟩
abbrev cX3_axiom : ByteArray := prog_1_method_3_code
def yX3_axiom : MethodName := ⟨RX3, "axiom", "(IIII)I"⟩
abbrev cX3_drop : ByteArray := prog_1_method_4_code
def yX3_drop : MethodName := ⟨RX3, "drop", "(I)I"⟩
abbrev cX3_sub : ByteArray := prog_1_method_5_code
def yX3_sub : MethodName := ⟨RX3, "sub", "(II)I"⟩
abbrev cX3_link : ByteArray := prog_1_method_6_code
def yX3_link : MethodName := ⟨RX3, "link", "(III)I"⟩
abbrev cX3_rounds : ByteArray := prog_1_method_7_code
def yX3_rounds : MethodName := ⟨RX3, "rounds", "()I"⟩
abbrev cX3_facts : ByteArray := prog_1_method_8_code
def yX3_facts : MethodName := ⟨RX3, "facts", "()I"⟩
abbrev cX3_fact : ByteArray := prog_1_method_9_code
def yX3_fact : MethodName := ⟨RX3, "fact", "(I)I"⟩
abbrev cX3_told : ByteArray := prog_1_method_10_code
def yX3_told : MethodName := ⟨RX3, "told", "(II)I"⟩
abbrev cX3_trace : ByteArray := prog_1_method_11_code
def yX3_trace : MethodName := ⟨RX3, "trace", "(I)I"⟩
abbrev cX3_row : ByteArray := prog_1_method_12_code
def yX3_row : MethodName := ⟨RX3, "row", "(I)I"⟩
abbrev cX3_empty : ByteArray := prog_1_method_13_code
def yX3_empty : MethodName := ⟨RX3, "empty", "(I)I"⟩
abbrev cX3_same : ByteArray := prog_1_method_14_code
def yX3_same : MethodName := ⟨RX3, "same", "(I)I"⟩
abbrev cX3_parent : ByteArray := prog_1_method_15_code
def yX3_parent : MethodName := ⟨RX3, "parent", "(II)I"⟩
abbrev cX3_isClass : ByteArray := prog_1_method_16_code
def yX3_isClass : MethodName := ⟨RX3, "isClass", "(I)Z"⟩
abbrev cX3_isRole : ByteArray := prog_1_method_17_code
def yX3_isRole : MethodName := ⟨RX3, "isRole", "(I)Z"⟩
abbrev cX3_isAxiom : ByteArray := prog_1_method_18_code
def yX3_isAxiom : MethodName := ⟨RX3, "isAxiom", "(IIII)Z"⟩
abbrev cX3_closed : ByteArray := prog_1_method_19_code
def yX3_closed : MethodName := ⟨RX3, "closed", "()LElCompletion$Closure;"⟩
abbrev cX3_linkColumn : ByteArray := prog_1_method_20_code
def yX3_linkColumn : MethodName := ⟨RX3, "linkColumn", "(II)I"⟩
abbrev cX3_codeOf : ByteArray := prog_1_method_21_code
def yX3_codeOf : MethodName := ⟨RX3, "codeOf", "(II)I"⟩
abbrev cX3_isIn : ByteArray := prog_1_method_22_code
def yX3_isIn : MethodName := ⟨RX3, "isIn", "(II)Z"⟩
def RX4 : String := "ElCompletionModel"
def TX4 : u_T := fun k => match k with
  | 0 => ("ElCompletionModel", "classes", "I", false)
  | 1 => ("ElCompletionModel", "axioms", "[I", true)
  | 2 => ("ElCompletionModel", "count", "I", false)
  | 3 => ("ElCompletionModel", "known", "Z", false)
  | 4 => ("ElCompletionModel", "rounds", "[I", true)
  | 5 => ("ElCompletionModel", "whys", "[I", true)
  | 6 => ("ElCompletionModel", "firsts", "[I", true)
  | 7 => ("ElCompletionModel", "seconds", "[I", true)
  | 8 => ("ElCompletionModel", "round", "I", false)
  | 9 => ("ElCompletionModel", "made", "I", false)
  | 10 => ("ElCompletionModel", "row", "[I", true)
  | 11 => ("ElCompletionModel", "found", "I", false)
  | 12 => ("ElCompletionModel", "proof", "[I", true)
  | 13 => ("ElCompletionModel", "proofSize", "I", false)
  | 14 => ("ElCompletionModel", "thrown", "I", false)
  | _ => ("ElCompletionModel", "wanted", "[Z", true)
def tyX4 : Nat → FieldType := fun k => match k with
  | 0 => .int
  | 1 => .array .int
  | 2 => .int
  | 3 => .boolean
  | 4 => .array .int
  | 5 => .array .int
  | 6 => .array .int
  | 7 => .array .int
  | 8 => .int
  | 9 => .int
  | 10 => .array .int
  | 11 => .int
  | 12 => .array .int
  | 13 => .int
  | 14 => .int
  | _ => .array .boolean
abbrev wsX40 : List Cond := u_ws RX4 TX4 16
theorem nmX4 : ∀ a, a < 16 → ∀ b, b < 16 → a ≠ b → (TX4 a).2.1 ≠ (TX4 b).2.1 := by decide +kernel
theorem tyX4_ok : ∀ k, k < 16 → parseFieldDescriptor (TX4 k).2.2.1 = some (tyX4 k) := by decide +kernel
abbrev cX4_thrown : ByteArray := prog_6_method_1_code
def yX4_thrown : MethodName := ⟨RX4, "thrown", "()I"⟩
abbrev cX4_init : ByteArray := prog_6_method_2_code
def yX4_init : MethodName := ⟨RX4, "<init>", "()V"⟩
abbrev cX4_isClass : ByteArray := prog_6_method_3_code
def yX4_isClass : MethodName := ⟨RX4, "isClass", "(I)Z"⟩
abbrev cX4_isRole : ByteArray := prog_6_method_4_code
def yX4_isRole : MethodName := ⟨RX4, "isRole", "(I)Z"⟩
abbrev cX4_grow : ByteArray := prog_6_method_5_code
def yX4_grow : MethodName := ⟨RX4, "grow", "()I"⟩
abbrev cX4_wants : ByteArray := prog_6_method_6_code
def yX4_wants : MethodName := ⟨RX4, "wants", "(I)I"⟩
abbrev cX4_fits : ByteArray := prog_6_method_7_code
def yX4_fits : MethodName := ⟨RX4, "fits", "(II)Z"⟩
abbrev cX4_axiom : ByteArray := prog_6_method_8_code
def yX4_axiom : MethodName := ⟨RX4, "axiom", "(IIII)I"⟩
abbrev cX4_drop : ByteArray := prog_6_method_9_code
def yX4_drop : MethodName := ⟨RX4, "drop", "(I)I"⟩
abbrev cX4_code : ByteArray := prog_6_method_10_code
def yX4_code : MethodName := ⟨RX4, "code", "(II)I"⟩
abbrev cX4_linked : ByteArray := prog_6_method_11_code
def yX4_linked : MethodName := ⟨RX4, "linked", "(III)I"⟩
abbrev cX4_has : ByteArray := prog_6_method_12_code
def yX4_has : MethodName := ⟨RX4, "has", "(I)Z"⟩
abbrev cX4_start : ByteArray := prog_6_method_13_code
def yX4_start : MethodName := ⟨RX4, "start", "(I)V"⟩
abbrev cX4_give : ByteArray := prog_6_method_14_code
def yX4_give : MethodName := ⟨RX4, "give", "(IIII)V"⟩
abbrev cX4_one : ByteArray := prog_6_method_15_code
def yX4_one : MethodName := ⟨RX4, "one", "(II)V"⟩
abbrev cX4_two : ByteArray := prog_6_method_16_code
def yX4_two : MethodName := ⟨RX4, "two", "(III)V"⟩
abbrev cX4_reckon : ByteArray := prog_6_method_17_code
def yX4_reckon : MethodName := ⟨RX4, "reckon", "()V"⟩
abbrev cX4_follows : ByteArray := prog_6_method_18_code
def yX4_follows : MethodName := ⟨RX4, "follows", "(I)Z"⟩
abbrev cX4_sub : ByteArray := prog_6_method_19_code
def yX4_sub : MethodName := ⟨RX4, "sub", "(II)I"⟩
abbrev cX4_link : ByteArray := prog_6_method_20_code
def yX4_link : MethodName := ⟨RX4, "link", "(III)I"⟩
abbrev cX4_rounds : ByteArray := prog_6_method_21_code
def yX4_rounds : MethodName := ⟨RX4, "rounds", "()I"⟩
abbrev cX4_facts : ByteArray := prog_6_method_22_code
def yX4_facts : MethodName := ⟨RX4, "facts", "()I"⟩
abbrev cX4_fact : ByteArray := prog_6_method_23_code
def yX4_fact : MethodName := ⟨RX4, "fact", "(I)I"⟩
abbrev cX4_told : ByteArray := prog_6_method_24_code
def yX4_told : MethodName := ⟨RX4, "told", "(II)I"⟩
abbrev cX4_trace : ByteArray := prog_6_method_25_code
def yX4_trace : MethodName := ⟨RX4, "trace", "(I)I"⟩
abbrev cX4_want : ByteArray := prog_6_method_26_code
def yX4_want : MethodName := ⟨RX4, "want", "(I)Z"⟩
abbrev cX4_row : ByteArray := prog_6_method_27_code
def yX4_row : MethodName := ⟨RX4, "row", "(I)I"⟩
abbrev cX4_empty : ByteArray := prog_6_method_28_code
def yX4_empty : MethodName := ⟨RX4, "empty", "(I)I"⟩
abbrev cX4_both : ByteArray := prog_6_method_29_code
def yX4_both : MethodName := ⟨RX4, "both", "(II)Z"⟩
abbrev cX4_same : ByteArray := prog_6_method_30_code
def yX4_same : MethodName := ⟨RX4, "same", "(I)I"⟩
abbrev cX4_isAbove : ByteArray := prog_6_method_31_code
def yX4_isAbove : MethodName := ⟨RX4, "isAbove", "(II)Z"⟩
abbrev cX4_isParent : ByteArray := prog_6_method_32_code
def yX4_isParent : MethodName := ⟨RX4, "isParent", "(II)Z"⟩
abbrev cX4_parent : ByteArray := prog_6_method_33_code
def yX4_parent : MethodName := ⟨RX4, "parent", "(II)I"⟩
def RJx00060 : String := "java/lang/ArrayIndexOutOfBoundsException"
def TJx00060 : u_T := fun k => match k with
  | 0 => ("java/lang/Throwable", "cause", "Ljava/lang/Throwable;", false)
  | 1 => ("java/lang/Throwable", "stackTrace", "[Ljava/lang/StackTraceElement;", false)
  | 2 => ("java/lang/Throwable", "suppressedExceptions", "Ljava/util/List;", false)
  | 3 => ("java/lang/Throwable", "detailMessage", "Ljava/lang/String;", false)
  | 4 => ("java/lang/Throwable", "backtrace", "Ljava/lang/Object;", false)
  | _ => ("java/lang/Throwable", "depth", "I", false)
def tyJx00060 : Nat → FieldType := fun k => match k with
  | 0 => .object "java/lang/Throwable"
  | 1 => .array (.object "java/lang/StackTraceElement")
  | 2 => .object "java/util/List"
  | 3 => .object "java/lang/String"
  | 4 => .object "java/lang/Object"
  | _ => .int
abbrev wsJx000600 : List Cond := u_ws RJx00060 TJx00060 6
theorem nmJx00060 : ∀ a, a < 6 → ∀ b, b < 6 → a ≠ b → (TJx00060 a).2.1 ≠ (TJx00060 b).2.1 := by decide +kernel
theorem tyJx00060_ok : ∀ k, k < 6 → parseFieldDescriptor (TJx00060 k).2.2.1 = some (tyJx00060 k) := by decide +kernel
abbrev cJx00060_init_a7421 : ByteArray := prog_7_method_2_code
def yJx00060_init_a7421 : MethodName := ⟨RJx00060, "<init>", "(Ljava/lang/String;)V"⟩
def RJ0 : String := "java/lang/String"
def TJ0 : u_T := fun k => match k with
  | _ => ("", "", "", false)
def tyJ0 : Nat → FieldType := fun k => match k with
  | _ => .int
abbrev wsJ00 : List Cond := u_ws RJ0 TJ0 0
theorem nmJ0 : ∀ a, a < 0 → ∀ b, b < 0 → a ≠ b → (TJ0 a).2.1 ≠ (TJ0 b).2.1 := by decide +kernel
theorem tyJ0_ok : ∀ k, k < 0 → parseFieldDescriptor (TJ0 k).2.2.1 = some (tyJ0 k) := by decide +kernel
def RJ10 : String := "java/lang/System"
def TJ10 : u_T := fun k => match k with
  | _ => ("", "", "", false)
def tyJ10 : Nat → FieldType := fun k => match k with
  | _ => .int
abbrev wsJ100 : List Cond := u_ws RJ10 TJ10 0
theorem nmJ10 : ∀ a, a < 0 → ∀ b, b < 0 → a ≠ b → (TJ10 a).2.1 ≠ (TJ10 b).2.1 := by decide +kernel
theorem tyJ10_ok : ∀ k, k < 0 → parseFieldDescriptor (TJ10 k).2.2.1 = some (tyJ10 k) := by decide +kernel
def RJ7 : String := "java/util/Arrays"
def TJ7 : u_T := fun k => match k with
  | _ => ("", "", "", false)
def tyJ7 : Nat → FieldType := fun k => match k with
  | _ => .int
abbrev wsJ70 : List Cond := u_ws RJ7 TJ7 0
theorem nmJ7 : ∀ a, a < 0 → ∀ b, b < 0 → a ≠ b → (TJ7 a).2.1 ≠ (TJ7 b).2.1 := by decide +kernel
theorem tyJ7_ok : ∀ k, k < 0 → parseFieldDescriptor (TJ7 k).2.2.1 = some (tyJ7 k) := by decide +kernel
abbrev cJ7_fill_d0a16 : ByteArray := prog_14_method_101_code
def yJ7_fill_d0a16 : MethodName := ⟨RJ7, "fill", "([JJ)V"⟩
abbrev cJ7_fill_53178 : ByteArray := prog_14_method_103_code
def yJ7_fill_53178 : MethodName := ⟨RJ7, "fill", "([II)V"⟩
def RL : String := "ElCompletionLaw"
abbrev cL_fact : ByteArray := method_3_code
def yL_fact : MethodName := ⟨RL, "fact", "(LElCompletion;I[J)I"⟩
abbrev cL_law : ByteArray := code
def yL_law : MethodName := ⟨RL, "law", "([I)Z"⟩
def wsX0_init : List Cond := .code yX0_init cX0_init 1 none :: ([.methodLink RX0 3 objectInit, .instanceMethod objectInit, .code objectInit ⟨#[0xb1]⟩ 1 none, .arrayClass .int, .fieldLink RX0 9 "ElCompletion$Axioms" "kind" "[I", .fieldLink RX0 15 "ElCompletion$Axioms" "a" "[I", .fieldLink RX0 18 "ElCompletion$Axioms" "b" "[I", .fieldLink RX0 21 "ElCompletion$Axioms" "c" "[I", .fieldLink RX0 24 "ElCompletion$Axioms" "count" "I"] ++ wsX00)
def wsX0_append : List Cond := .code yX0_append cX0_append 5 (some .int) :: ([.fieldLink RX0 24 "ElCompletion$Axioms" "count" "I", .fieldLink RX0 9 "ElCompletion$Axioms" "kind" "[I", .fieldLink RX0 15 "ElCompletion$Axioms" "a" "[I", .fieldLink RX0 18 "ElCompletion$Axioms" "b" "[I", .fieldLink RX0 21 "ElCompletion$Axioms" "c" "[I"] ++ wsX00)
def wsX0_closeGap : List Cond := .code yX0_closeGap cX0_closeGap 3 none :: ([.fieldLink RX0 24 "ElCompletion$Axioms" "count" "I", .methodLink RX0 32 arraycopyName, .native arraycopyName, .static arraycopyName, .initialized "java/lang/System"] ++ wsX00)
def wsX0_remove : List Cond := .code yX0_remove cX0_remove 2 (some .int) :: ([.fieldLink RX0 24 "ElCompletion$Axioms" "count" "I", .fieldLink RX0 9 "ElCompletion$Axioms" "kind" "[I", .fieldLink RX0 15 "ElCompletion$Axioms" "a" "[I", .fieldLink RX0 18 "ElCompletion$Axioms" "b" "[I", .fieldLink RX0 21 "ElCompletion$Axioms" "c" "[I", .methodLink RX0 28 yX0_closeGap, .instanceMethod yX0_closeGap, .selects RX0 yX0_closeGap yX0_closeGap, .initialized RX0, .code yX0_closeGap cX0_closeGap 3 none, .methodLink RX0 32 arraycopyName, .native arraycopyName, .static arraycopyName, .initialized "java/lang/System"] ++ wsX00)
def wsX1_init : List Cond := .code yX1_init cX1_init 1 none :: ([.methodLink RX1 3 objectInit, .instanceMethod objectInit, .code objectInit ⟨#[0xb1]⟩ 1 none, .arrayClass .int, .fieldLink RX1 9 "ElCompletion$Closure" "before" "[I", .fieldLink RX1 15 "ElCompletion$Closure" "now" "[I", .arrayClass .long, .fieldLink RX1 18 "ElCompletion$Closure" "grounds" "[J", .fieldLink RX1 22 "ElCompletion$Closure" "order" "[I", .fieldLink RX1 25 "ElCompletion$Closure" "classCount" "I", .fieldLink RX1 29 "ElCompletion$Closure" "factCount" "I", .fieldLink RX1 32 "ElCompletion$Closure" "roundCount" "I", .fieldLink RX1 35 "ElCompletion$Closure" "gainers" "I"] ++ wsX10)
def wsJ7_fill_53178 : List Cond := .code yJ7_fill_53178 cJ7_fill_53178 4 none :: ([])
def wsJ7_fill_d0a16 : List Cond := .code yJ7_fill_d0a16 cJ7_fill_d0a16 5 none :: ([])
def wsX1_clear : List Cond := .code yX1_clear cX1_clear 2 none :: ([.fieldLink RX1 9 "ElCompletion$Closure" "before" "[I", .fieldLink RX1 15 "ElCompletion$Closure" "now" "[I", .fieldLink RX1 18 "ElCompletion$Closure" "grounds" "[J", .constantLong RX1 74 (-1), .fieldLink RX1 25 "ElCompletion$Closure" "classCount" "I", .fieldLink RX1 29 "ElCompletion$Closure" "factCount" "I", .fieldLink RX1 32 "ElCompletion$Closure" "roundCount" "I", .fieldLink RX1 35 "ElCompletion$Closure" "gainers" "I", .methodLink RX1 68 yJ7_fill_53178, .static yJ7_fill_53178, .initialized RJ7, .code yJ7_fill_53178 cJ7_fill_53178 4 none, .methodLink RX1 76 yJ7_fill_d0a16, .static yJ7_fill_d0a16, .code yJ7_fill_d0a16 cJ7_fill_d0a16 5 none] ++ wsX10)
def wsX3_isIn : List Cond := .code yX3_isIn cX3_isIn 2 (some .boolean) :: ([])
def wsX3_codeOf : List Cond := .code yX3_codeOf cX3_codeOf 2 (some .int) :: ([])
def wsX1_give : List Cond := .code yX1_give cX1_give 9 none :: ([.fieldLink RX1 15 "ElCompletion$Closure" "now" "[I", .fieldLink RX1 35 "ElCompletion$Closure" "gainers" "I", .fieldLink RX1 25 "ElCompletion$Closure" "classCount" "I", .fieldLink RX1 18 "ElCompletion$Closure" "grounds" "[J", .fieldLink RX1 32 "ElCompletion$Closure" "roundCount" "I", .static yX3_isIn, .initialized RX3, .code yX3_isIn cX3_isIn 2 (some .boolean), .static yX3_codeOf, .code yX3_codeOf cX3_codeOf 2 (some .int)] ++ wsX10)
def wsX3_linkColumn : List Cond := .code yX3_linkColumn cX3_linkColumn 2 (some .int) :: ([])
def wsX1_giveOfItself : List Cond := .code yX1_giveOfItself cX1_giveOfItself 3 none :: ([.fieldLink RX1 25 "ElCompletion$Closure" "classCount" "I", .static yX3_linkColumn, .initialized RX3, .code yX3_linkColumn cX3_linkColumn 2 (some .int), .methodLink RX1 79 yX1_give, .instanceMethod yX1_give, .selects RX1 yX1_give yX1_give, .initialized RX1, .code yX1_give cX1_give 9 none, .fieldLink RX1 15 "ElCompletion$Closure" "now" "[I", .fieldLink RX1 35 "ElCompletion$Closure" "gainers" "I", .fieldLink RX1 18 "ElCompletion$Closure" "grounds" "[J", .fieldLink RX1 32 "ElCompletion$Closure" "roundCount" "I", .static yX3_isIn, .code yX3_isIn cX3_isIn 2 (some .boolean), .static yX3_codeOf, .code yX3_codeOf cX3_codeOf 2 (some .int)] ++ wsX10)
def wsX1_giveAtFirst : List Cond := .code yX1_giveAtFirst cX1_giveAtFirst 3 none :: ([.fieldLink RX1 25 "ElCompletion$Closure" "classCount" "I", .methodLink RX1 79 yX1_give, .instanceMethod yX1_give, .selects RX1 yX1_give yX1_give, .initialized RX1, .code yX1_give cX1_give 9 none, .fieldLink RX1 15 "ElCompletion$Closure" "now" "[I", .fieldLink RX1 35 "ElCompletion$Closure" "gainers" "I", .fieldLink RX1 18 "ElCompletion$Closure" "grounds" "[J", .fieldLink RX1 32 "ElCompletion$Closure" "roundCount" "I", .static yX3_isIn, .initialized RX3, .code yX3_isIn cX3_isIn 2 (some .boolean), .static yX3_codeOf, .code yX3_codeOf cX3_codeOf 2 (some .int), .methodLink RX1 89 yX1_giveOfItself, .instanceMethod yX1_giveOfItself, .selects RX1 yX1_giveOfItself yX1_giveOfItself, .code yX1_giveOfItself cX1_giveOfItself 3 none, .static yX3_linkColumn, .code yX3_linkColumn cX3_linkColumn 2 (some .int)] ++ wsX10 ++ wsX00)
def wsX1_listFactsOf : List Cond := .code yX1_listFactsOf cX1_listFactsOf 5 none :: ([.fieldLink RX1 15 "ElCompletion$Closure" "now" "[I", .fieldLink RX1 9 "ElCompletion$Closure" "before" "[I", .fieldLink RX1 29 "ElCompletion$Closure" "factCount" "I", .fieldLink RX1 22 "ElCompletion$Closure" "order" "[I", .static yX3_isIn, .initialized RX3, .code yX3_isIn cX3_isIn 2 (some .boolean), .static yX3_codeOf, .code yX3_codeOf cX3_codeOf 2 (some .int)] ++ wsX10)
def wsX1_listColumns : List Cond := .code yX1_listColumns cX1_listColumns 4 none :: ([.fieldLink RX1 25 "ElCompletion$Closure" "classCount" "I", .fieldLink RX1 35 "ElCompletion$Closure" "gainers" "I", .static yX3_isIn, .initialized RX3, .code yX3_isIn cX3_isIn 2 (some .boolean), .methodLink RX1 123 yX1_listFactsOf, .instanceMethod yX1_listFactsOf, .selects RX1 yX1_listFactsOf yX1_listFactsOf, .initialized RX1, .code yX1_listFactsOf cX1_listFactsOf 5 none, .fieldLink RX1 15 "ElCompletion$Closure" "now" "[I", .fieldLink RX1 9 "ElCompletion$Closure" "before" "[I", .fieldLink RX1 29 "ElCompletion$Closure" "factCount" "I", .fieldLink RX1 22 "ElCompletion$Closure" "order" "[I", .static yX3_codeOf, .code yX3_codeOf cX3_codeOf 2 (some .int)] ++ wsX10)
def wsX1_endRound : List Cond := .code yX1_endRound cX1_endRound 1 none :: ([.fieldLink RX1 35 "ElCompletion$Closure" "gainers" "I", .fieldLink RX1 32 "ElCompletion$Closure" "roundCount" "I", .methodLink RX1 119 yX1_listColumns, .instanceMethod yX1_listColumns, .selects RX1 yX1_listColumns yX1_listColumns, .initialized RX1, .code yX1_listColumns cX1_listColumns 4 none, .fieldLink RX1 25 "ElCompletion$Closure" "classCount" "I", .static yX3_isIn, .initialized RX3, .code yX3_isIn cX3_isIn 2 (some .boolean), .methodLink RX1 123 yX1_listFactsOf, .instanceMethod yX1_listFactsOf, .selects RX1 yX1_listFactsOf yX1_listFactsOf, .code yX1_listFactsOf cX1_listFactsOf 5 none, .fieldLink RX1 15 "ElCompletion$Closure" "now" "[I", .fieldLink RX1 9 "ElCompletion$Closure" "before" "[I", .fieldLink RX1 29 "ElCompletion$Closure" "factCount" "I", .fieldLink RX1 22 "ElCompletion$Closure" "order" "[I", .static yX3_codeOf, .code yX3_codeOf cX3_codeOf 2 (some .int)] ++ wsX10)
def wsX1_giveToBoth : List Cond := .code yX1_giveToBoth cX1_giveToBoth 7 none :: ([.fieldLink RX1 9 "ElCompletion$Closure" "before" "[I", .fieldLink RX1 15 "ElCompletion$Closure" "now" "[I", .fieldLink RX1 25 "ElCompletion$Closure" "classCount" "I", .static yX3_isIn, .initialized RX3, .code yX3_isIn cX3_isIn 2 (some .boolean), .static yX3_codeOf, .code yX3_codeOf cX3_codeOf 2 (some .int), .methodLink RX1 79 yX1_give, .instanceMethod yX1_give, .selects RX1 yX1_give yX1_give, .initialized RX1, .code yX1_give cX1_give 9 none, .fieldLink RX1 35 "ElCompletion$Closure" "gainers" "I", .fieldLink RX1 18 "ElCompletion$Closure" "grounds" "[J", .fieldLink RX1 32 "ElCompletion$Closure" "roundCount" "I"] ++ wsX10)
def wsX1_giveToWhatHas : List Cond := .code yX1_giveToWhatHas cX1_giveToWhatHas 8 none :: ([.fieldLink RX1 9 "ElCompletion$Closure" "before" "[I", .fieldLink RX1 25 "ElCompletion$Closure" "classCount" "I", .static yX3_isIn, .initialized RX3, .code yX3_isIn cX3_isIn 2 (some .boolean), .static yX3_linkColumn, .code yX3_linkColumn cX3_linkColumn 2 (some .int), .static yX3_codeOf, .code yX3_codeOf cX3_codeOf 2 (some .int), .methodLink RX1 79 yX1_give, .instanceMethod yX1_give, .selects RX1 yX1_give yX1_give, .initialized RX1, .code yX1_give cX1_give 9 none, .fieldLink RX1 15 "ElCompletion$Closure" "now" "[I", .fieldLink RX1 35 "ElCompletion$Closure" "gainers" "I", .fieldLink RX1 18 "ElCompletion$Closure" "grounds" "[J", .fieldLink RX1 32 "ElCompletion$Closure" "roundCount" "I"] ++ wsX10)
def wsX1_giveRole : List Cond := .code yX1_giveRole cX1_giveRole 6 none :: ([.fieldLink RX1 25 "ElCompletion$Closure" "classCount" "I", .fieldLink RX1 9 "ElCompletion$Closure" "before" "[I", .static yX3_linkColumn, .initialized RX3, .code yX3_linkColumn cX3_linkColumn 2 (some .int), .methodLink RX1 79 yX1_give, .instanceMethod yX1_give, .selects RX1 yX1_give yX1_give, .initialized RX1, .code yX1_give cX1_give 9 none, .fieldLink RX1 15 "ElCompletion$Closure" "now" "[I", .fieldLink RX1 35 "ElCompletion$Closure" "gainers" "I", .fieldLink RX1 18 "ElCompletion$Closure" "grounds" "[J", .fieldLink RX1 32 "ElCompletion$Closure" "roundCount" "I", .static yX3_isIn, .code yX3_isIn cX3_isIn 2 (some .boolean), .static yX3_codeOf, .code yX3_codeOf cX3_codeOf 2 (some .int)] ++ wsX10)
def wsX1_giveChain : List Cond := .code yX1_giveChain cX1_giveChain 10 none :: ([.fieldLink RX1 25 "ElCompletion$Closure" "classCount" "I", .fieldLink RX1 9 "ElCompletion$Closure" "before" "[I", .static yX3_linkColumn, .initialized RX3, .code yX3_linkColumn cX3_linkColumn 2 (some .int), .static yX3_isIn, .code yX3_isIn cX3_isIn 2 (some .boolean), .static yX3_codeOf, .code yX3_codeOf cX3_codeOf 2 (some .int), .methodLink RX1 79 yX1_give, .instanceMethod yX1_give, .selects RX1 yX1_give yX1_give, .initialized RX1, .code yX1_give cX1_give 9 none, .fieldLink RX1 15 "ElCompletion$Closure" "now" "[I", .fieldLink RX1 35 "ElCompletion$Closure" "gainers" "I", .fieldLink RX1 18 "ElCompletion$Closure" "grounds" "[J", .fieldLink RX1 32 "ElCompletion$Closure" "roundCount" "I"] ++ wsX10)
def wsX1_giveByAxiom_r1 : List Cond := [Cond.fieldLink RX1 9 "ElCompletion$Closure" "before" "[I", Cond.methodLink RX1 79 yX1_give, Cond.instanceMethod yX1_give, Cond.selects RX1 yX1_give yX1_give, Cond.initialized RX1, Cond.code yX1_give cX1_give 9 none, Cond.fieldLink RX1 15 "ElCompletion$Closure" "now" "[I", Cond.fieldLink RX1 35 "ElCompletion$Closure" "gainers" "I", Cond.fieldLink RX1 25 "ElCompletion$Closure" "classCount" "I", Cond.fieldLink RX1 18 "ElCompletion$Closure" "grounds" "[J", Cond.fieldLink RX1 32 "ElCompletion$Closure" "roundCount" "I", Cond.static yX3_isIn, Cond.initialized RX3, Cond.code yX3_isIn cX3_isIn 2 (some .boolean), Cond.static yX3_codeOf, Cond.code yX3_codeOf cX3_codeOf 2 (some .int), Cond.methodLink RX1 102 yX1_giveToBoth, Cond.instanceMethod yX1_giveToBoth, Cond.selects RX1 yX1_giveToBoth yX1_giveToBoth, Cond.code yX1_giveToBoth cX1_giveToBoth 7 none, Cond.static yX3_linkColumn, Cond.code yX3_linkColumn cX3_linkColumn 2 (some .int), Cond.methodLink RX1 64 yX1_giveToWhatHas, Cond.instanceMethod yX1_giveToWhatHas]
def wsX1_giveByAxiom_r2 : List Cond := [Cond.selects RX1 yX1_giveToWhatHas yX1_giveToWhatHas, Cond.code yX1_giveToWhatHas cX1_giveToWhatHas 8 none, Cond.methodLink RX1 105 yX1_giveRole, Cond.instanceMethod yX1_giveRole, Cond.selects RX1 yX1_giveRole yX1_giveRole, Cond.code yX1_giveRole cX1_giveRole 6 none, Cond.methodLink RX1 109 yX1_giveChain, Cond.instanceMethod yX1_giveChain, Cond.selects RX1 yX1_giveChain yX1_giveChain, Cond.code yX1_giveChain cX1_giveChain 10 none]
def wsX1_giveByAxiom : List Cond := .code yX1_giveByAxiom cX1_giveByAxiom 6 none :: ((wsX1_giveByAxiom_r1 ++ wsX1_giveByAxiom_r2) ++ wsX00 ++ wsX10)
def wsX1_fill_r1 : List Cond := [Cond.fieldLink RX1 35 "ElCompletion$Closure" "gainers" "I", Cond.fieldLink RX1 15 "ElCompletion$Closure" "now" "[I", Cond.fieldLink RX1 9 "ElCompletion$Closure" "before" "[I", Cond.methodLink RX1 49 arraycopyName, Cond.native arraycopyName, Cond.static arraycopyName, Cond.initialized "java/lang/System", Cond.methodLink RX1 38 yX1_clear, Cond.instanceMethod yX1_clear, Cond.selects RX1 yX1_clear yX1_clear, Cond.initialized RX1, Cond.code yX1_clear cX1_clear 2 none, Cond.fieldLink RX1 18 "ElCompletion$Closure" "grounds" "[J", Cond.constantLong RX1 74 (-1), Cond.fieldLink RX1 25 "ElCompletion$Closure" "classCount" "I", Cond.fieldLink RX1 29 "ElCompletion$Closure" "factCount" "I", Cond.fieldLink RX1 32 "ElCompletion$Closure" "roundCount" "I", Cond.methodLink RX1 68 yJ7_fill_53178, Cond.static yJ7_fill_53178, Cond.initialized RJ7, Cond.code yJ7_fill_53178 cJ7_fill_53178 4 none, Cond.methodLink RX1 76 yJ7_fill_d0a16, Cond.static yJ7_fill_d0a16, Cond.code yJ7_fill_d0a16 cJ7_fill_d0a16 5 none]
def wsX1_fill_r2 : List Cond := [Cond.methodLink RX1 42 yX1_giveAtFirst, Cond.instanceMethod yX1_giveAtFirst, Cond.selects RX1 yX1_giveAtFirst yX1_giveAtFirst, Cond.code yX1_giveAtFirst cX1_giveAtFirst 3 none, Cond.methodLink RX1 79 yX1_give, Cond.instanceMethod yX1_give, Cond.selects RX1 yX1_give yX1_give, Cond.code yX1_give cX1_give 9 none, Cond.static yX3_isIn, Cond.initialized RX3, Cond.code yX3_isIn cX3_isIn 2 (some .boolean), Cond.static yX3_codeOf, Cond.code yX3_codeOf cX3_codeOf 2 (some .int), Cond.methodLink RX1 89 yX1_giveOfItself, Cond.instanceMethod yX1_giveOfItself, Cond.selects RX1 yX1_giveOfItself yX1_giveOfItself, Cond.code yX1_giveOfItself cX1_giveOfItself 3 none, Cond.static yX3_linkColumn, Cond.code yX3_linkColumn cX3_linkColumn 2 (some .int), Cond.methodLink RX1 46 yX1_endRound, Cond.instanceMethod yX1_endRound, Cond.selects RX1 yX1_endRound yX1_endRound, Cond.code yX1_endRound cX1_endRound 1 none, Cond.methodLink RX1 119 yX1_listColumns]
def wsX1_fill_r3 : List Cond := [Cond.instanceMethod yX1_listColumns, Cond.selects RX1 yX1_listColumns yX1_listColumns, Cond.code yX1_listColumns cX1_listColumns 4 none, Cond.methodLink RX1 123 yX1_listFactsOf, Cond.instanceMethod yX1_listFactsOf, Cond.selects RX1 yX1_listFactsOf yX1_listFactsOf, Cond.code yX1_listFactsOf cX1_listFactsOf 5 none, Cond.fieldLink RX1 22 "ElCompletion$Closure" "order" "[I", Cond.methodLink RX1 60 yX1_giveByAxiom, Cond.instanceMethod yX1_giveByAxiom, Cond.selects RX1 yX1_giveByAxiom yX1_giveByAxiom, Cond.code yX1_giveByAxiom cX1_giveByAxiom 6 none, Cond.methodLink RX1 102 yX1_giveToBoth, Cond.instanceMethod yX1_giveToBoth, Cond.selects RX1 yX1_giveToBoth yX1_giveToBoth, Cond.code yX1_giveToBoth cX1_giveToBoth 7 none, Cond.methodLink RX1 64 yX1_giveToWhatHas, Cond.instanceMethod yX1_giveToWhatHas, Cond.selects RX1 yX1_giveToWhatHas yX1_giveToWhatHas, Cond.code yX1_giveToWhatHas cX1_giveToWhatHas 8 none, Cond.methodLink RX1 105 yX1_giveRole, Cond.instanceMethod yX1_giveRole, Cond.selects RX1 yX1_giveRole yX1_giveRole, Cond.code yX1_giveRole cX1_giveRole 6 none]
def wsX1_fill_r4 : List Cond := [Cond.methodLink RX1 109 yX1_giveChain, Cond.instanceMethod yX1_giveChain, Cond.selects RX1 yX1_giveChain yX1_giveChain, Cond.code yX1_giveChain cX1_giveChain 10 none]
def wsX1_fill : List Cond := .code yX1_fill cX1_fill 5 none :: ((wsX1_fill_r1 ++ (wsX1_fill_r2 ++ (wsX1_fill_r3 ++ wsX1_fill_r4))) ++ wsX10 ++ wsX00)
def wsX1_has : List Cond := .code yX1_has cX1_has 3 (some .boolean) :: ([.fieldLink RX1 15 "ElCompletion$Closure" "now" "[I", .static yX3_isIn, .initialized RX3, .code yX3_isIn cX3_isIn 2 (some .boolean)] ++ wsX10)
def wsX1_follows : List Cond := .code yX1_follows cX1_follows 2 (some .boolean) :: ([.fieldLink RX1 18 "ElCompletion$Closure" "grounds" "[J"] ++ wsX10)
def wsX1_roundOf : List Cond := .code yX1_roundOf cX1_roundOf 2 (some .int) :: ([.fieldLink RX1 18 "ElCompletion$Closure" "grounds" "[J"] ++ wsX10)
def wsX1_axiomOf : List Cond := .code yX1_axiomOf cX1_axiomOf 3 (some .int) :: ([.fieldLink RX1 18 "ElCompletion$Closure" "grounds" "[J"] ++ wsX10)
def wsX1_firstPremiseOf : List Cond := .code yX1_firstPremiseOf cX1_firstPremiseOf 3 (some .int) :: ([.fieldLink RX1 18 "ElCompletion$Closure" "grounds" "[J"] ++ wsX10)
def wsX1_secondPremiseOf : List Cond := .code yX1_secondPremiseOf cX1_secondPremiseOf 3 (some .int) :: ([.fieldLink RX1 18 "ElCompletion$Closure" "grounds" "[J"] ++ wsX10)
def wsX1_areSame : List Cond := .code yX1_areSame cX1_areSame 3 (some .boolean) :: ([.methodLink RX1 126 yX1_has, .instanceMethod yX1_has, .selects RX1 yX1_has yX1_has, .initialized RX1, .code yX1_has cX1_has 3 (some .boolean), .fieldLink RX1 15 "ElCompletion$Closure" "now" "[I", .static yX3_isIn, .initialized RX3, .code yX3_isIn cX3_isIn 2 (some .boolean)] ++ wsX10)
def wsX1_leastSame : List Cond := .code yX1_leastSame cX1_leastSame 3 (some .int) :: ([.methodLink RX1 129 yX1_areSame, .instanceMethod yX1_areSame, .selects RX1 yX1_areSame yX1_areSame, .initialized RX1, .code yX1_areSame cX1_areSame 3 (some .boolean), .methodLink RX1 126 yX1_has, .instanceMethod yX1_has, .selects RX1 yX1_has yX1_has, .code yX1_has cX1_has 3 (some .boolean), .fieldLink RX1 15 "ElCompletion$Closure" "now" "[I", .static yX3_isIn, .initialized RX3, .code yX3_isIn cX3_isIn 2 (some .boolean)] ++ wsX10)
def wsX1_isParent : List Cond := .code yX1_isParent cX1_isParent 4 (some .boolean) :: ([.fieldLink RX1 25 "ElCompletion$Closure" "classCount" "I", .methodLink RX1 126 yX1_has, .instanceMethod yX1_has, .selects RX1 yX1_has yX1_has, .initialized RX1, .code yX1_has cX1_has 3 (some .boolean), .fieldLink RX1 15 "ElCompletion$Closure" "now" "[I", .static yX3_isIn, .initialized RX3, .code yX3_isIn cX3_isIn 2 (some .boolean), .methodLink RX1 135 yX1_leastSame, .instanceMethod yX1_leastSame, .selects RX1 yX1_leastSame yX1_leastSame, .code yX1_leastSame cX1_leastSame 3 (some .int), .methodLink RX1 129 yX1_areSame, .instanceMethod yX1_areSame, .selects RX1 yX1_areSame yX1_areSame, .code yX1_areSame cX1_areSame 3 (some .boolean)] ++ wsX10)
def wsX1_parentOf : List Cond := .code yX1_parentOf cX1_parentOf 5 (some .int) :: ([.fieldLink RX1 25 "ElCompletion$Closure" "classCount" "I", .methodLink RX1 126 yX1_has, .instanceMethod yX1_has, .selects RX1 yX1_has yX1_has, .initialized RX1, .code yX1_has cX1_has 3 (some .boolean), .fieldLink RX1 15 "ElCompletion$Closure" "now" "[I", .static yX3_isIn, .initialized RX3, .code yX3_isIn cX3_isIn 2 (some .boolean), .methodLink RX1 132 yX1_isParent, .instanceMethod yX1_isParent, .selects RX1 yX1_isParent yX1_isParent, .code yX1_isParent cX1_isParent 4 (some .boolean), .methodLink RX1 135 yX1_leastSame, .instanceMethod yX1_leastSame, .selects RX1 yX1_leastSame yX1_leastSame, .code yX1_leastSame cX1_leastSame 3 (some .int), .methodLink RX1 129 yX1_areSame, .instanceMethod yX1_areSame, .selects RX1 yX1_areSame yX1_areSame, .code yX1_areSame cX1_areSame 3 (some .boolean)] ++ wsX10)
def wsX2_init : List Cond := .code yX2_init cX2_init 1 none :: ([.methodLink RX2 3 objectInit, .instanceMethod objectInit, .code objectInit ⟨#[0xb1]⟩ 1 none, .arrayClass .int, .fieldLink RX2 9 "ElCompletion$Proof" "rows" "[I", .arrayClass .long, .fieldLink RX2 15 "ElCompletion$Proof" "needed" "[J", .fieldLink RX2 19 "ElCompletion$Proof" "count" "I"] ++ wsX20)
def wsX2_need : List Cond := .code yX2_need cX2_need 2 none :: ([.fieldLink RX2 15 "ElCompletion$Proof" "needed" "[J"] ++ wsX20)
def wsX2_isNeeded : List Cond := .code yX2_isNeeded cX2_isNeeded 2 (some .boolean) :: ([.fieldLink RX2 15 "ElCompletion$Proof" "needed" "[J"] ++ wsX20)
def wsX2_take_r1 : List Cond := [Cond.fieldLink RX2 19 "ElCompletion$Proof" "count" "I", Cond.fieldLink RX2 15 "ElCompletion$Proof" "needed" "[J", Cond.fieldLink RX2 9 "ElCompletion$Proof" "rows" "[I", Cond.instanceMethod yX1_follows, Cond.initialized RX1, Cond.selects RX1 yX1_follows yX1_follows, Cond.code yX1_follows cX1_follows 2 (some .boolean), Cond.fieldLink RX1 18 "ElCompletion$Closure" "grounds" "[J", Cond.methodLink RX2 29 yJ7_fill_d0a16, Cond.static yJ7_fill_d0a16, Cond.initialized RJ7, Cond.code yJ7_fill_d0a16 cJ7_fill_d0a16 5 none, Cond.methodLink RX2 35 yX2_need, Cond.instanceMethod yX2_need, Cond.selects RX2 yX2_need yX2_need, Cond.initialized RX2, Cond.code yX2_need cX2_need 2 none, Cond.methodLink RX2 45 yX2_isNeeded, Cond.instanceMethod yX2_isNeeded, Cond.selects RX2 yX2_isNeeded yX2_isNeeded, Cond.code yX2_isNeeded cX2_isNeeded 2 (some .boolean), Cond.instanceMethod yX1_firstPremiseOf, Cond.selects RX1 yX1_firstPremiseOf yX1_firstPremiseOf, Cond.code yX1_firstPremiseOf cX1_firstPremiseOf 3 (some .int)]
def wsX2_take_r2 : List Cond := [Cond.instanceMethod yX1_secondPremiseOf, Cond.selects RX1 yX1_secondPremiseOf yX1_secondPremiseOf, Cond.code yX1_secondPremiseOf cX1_secondPremiseOf 3 (some .int)]
def wsX2_take : List Cond := .code yX2_take cX2_take 4 none :: ((wsX2_take_r1 ++ wsX2_take_r2) ++ wsX20 ++ wsX10)
def wsX3_init_r1 : List Cond := [Cond.methodLink RX3 3 objectInit, Cond.instanceMethod objectInit, Cond.code objectInit ⟨#[0xb1]⟩ 1 none, Cond.classLink RX3 9 RX0, Cond.instantiable RX0 5, Cond.initialized RX0, Cond.fieldLink RX3 12 "ElCompletion" "axioms" "LElCompletion$Axioms;", Cond.classLink RX3 16 RX1, Cond.instantiable RX1 8, Cond.initialized RX1, Cond.fieldLink RX3 19 "ElCompletion" "closure" "LElCompletion$Closure;", Cond.classLink RX3 23 RX2, Cond.instantiable RX2 3, Cond.initialized RX2, Cond.fieldLink RX3 26 "ElCompletion" "proof" "LElCompletion$Proof;", Cond.fieldLink RX3 30 "ElCompletion" "classCount" "I", Cond.fieldLink RX3 34 "ElCompletion" "stale" "Z", Cond.instanceMethod yX0_init, Cond.code yX0_init cX0_init 1 none, Cond.methodLink RX0 3 objectInit, Cond.arrayClass .int, Cond.fieldLink RX0 9 "ElCompletion$Axioms" "kind" "[I", Cond.fieldLink RX0 15 "ElCompletion$Axioms" "a" "[I", Cond.fieldLink RX0 18 "ElCompletion$Axioms" "b" "[I"]
def wsX3_init_r2 : List Cond := [Cond.fieldLink RX0 21 "ElCompletion$Axioms" "c" "[I", Cond.fieldLink RX0 24 "ElCompletion$Axioms" "count" "I", Cond.instanceMethod yX1_init, Cond.code yX1_init cX1_init 1 none, Cond.methodLink RX1 3 objectInit, Cond.fieldLink RX1 9 "ElCompletion$Closure" "before" "[I", Cond.fieldLink RX1 15 "ElCompletion$Closure" "now" "[I", Cond.arrayClass .long, Cond.fieldLink RX1 18 "ElCompletion$Closure" "grounds" "[J", Cond.fieldLink RX1 22 "ElCompletion$Closure" "order" "[I", Cond.fieldLink RX1 25 "ElCompletion$Closure" "classCount" "I", Cond.fieldLink RX1 29 "ElCompletion$Closure" "factCount" "I", Cond.fieldLink RX1 32 "ElCompletion$Closure" "roundCount" "I", Cond.fieldLink RX1 35 "ElCompletion$Closure" "gainers" "I", Cond.instanceMethod yX2_init, Cond.code yX2_init cX2_init 1 none, Cond.methodLink RX2 3 objectInit, Cond.fieldLink RX2 9 "ElCompletion$Proof" "rows" "[I", Cond.fieldLink RX2 15 "ElCompletion$Proof" "needed" "[J", Cond.fieldLink RX2 19 "ElCompletion$Proof" "count" "I"]
def wsX3_init : List Cond := .code yX3_init cX3_init 1 none :: ((wsX3_init_r1 ++ wsX3_init_r2) ++ wsX00 ++ wsX30 ++ wsX10 ++ wsX20)
def wsX3_grow : List Cond := .code yX3_grow cX3_grow 1 (some .int) :: ([.fieldLink RX3 30 "ElCompletion" "classCount" "I", .fieldLink RX3 34 "ElCompletion" "stale" "Z"] ++ wsX30)
def wsX3_isClass : List Cond := .code yX3_isClass cX3_isClass 2 (some .boolean) :: ([.fieldLink RX3 30 "ElCompletion" "classCount" "I"] ++ wsX30)
def wsX3_isRole : List Cond := .code yX3_isRole cX3_isRole 1 (some .boolean) :: ([])
def wsX3_isAxiom : List Cond := .code yX3_isAxiom cX3_isAxiom 5 (some .boolean) :: ([.methodLink RX3 53 yX3_isClass, .instanceMethod yX3_isClass, .selects RX3 yX3_isClass yX3_isClass, .initialized RX3, .code yX3_isClass cX3_isClass 2 (some .boolean), .fieldLink RX3 30 "ElCompletion" "classCount" "I", .methodLink RX3 65 yX3_isRole, .static yX3_isRole, .code yX3_isRole cX3_isRole 1 (some .boolean)] ++ wsX30)
def wsX3_axiom : List Cond := .code yX3_axiom cX3_axiom 5 (some .int) :: ([.fieldLink RX3 12 "ElCompletion" "axioms" "LElCompletion$Axioms;", .fieldLink RX3 34 "ElCompletion" "stale" "Z", .methodLink RX3 38 yX3_isAxiom, .instanceMethod yX3_isAxiom, .selects RX3 yX3_isAxiom yX3_isAxiom, .initialized RX3, .code yX3_isAxiom cX3_isAxiom 5 (some .boolean), .methodLink RX3 53 yX3_isClass, .instanceMethod yX3_isClass, .selects RX3 yX3_isClass yX3_isClass, .code yX3_isClass cX3_isClass 2 (some .boolean), .fieldLink RX3 30 "ElCompletion" "classCount" "I", .methodLink RX3 65 yX3_isRole, .static yX3_isRole, .code yX3_isRole cX3_isRole 1 (some .boolean), .instanceMethod yX0_append, .initialized RX0, .selects RX0 yX0_append yX0_append, .code yX0_append cX0_append 5 (some .int), .fieldLink RX0 24 "ElCompletion$Axioms" "count" "I", .fieldLink RX0 9 "ElCompletion$Axioms" "kind" "[I", .fieldLink RX0 15 "ElCompletion$Axioms" "a" "[I", .fieldLink RX0 18 "ElCompletion$Axioms" "b" "[I", .fieldLink RX0 21 "ElCompletion$Axioms" "c" "[I"] ++ wsX30 ++ wsX00)
def wsX3_drop : List Cond := .code yX3_drop cX3_drop 2 (some .int) :: ([.fieldLink RX3 12 "ElCompletion" "axioms" "LElCompletion$Axioms;", .fieldLink RX3 34 "ElCompletion" "stale" "Z", .instanceMethod yX0_remove, .initialized RX0, .selects RX0 yX0_remove yX0_remove, .code yX0_remove cX0_remove 2 (some .int), .fieldLink RX0 24 "ElCompletion$Axioms" "count" "I", .fieldLink RX0 9 "ElCompletion$Axioms" "kind" "[I", .fieldLink RX0 15 "ElCompletion$Axioms" "a" "[I", .fieldLink RX0 18 "ElCompletion$Axioms" "b" "[I", .fieldLink RX0 21 "ElCompletion$Axioms" "c" "[I", .methodLink RX0 28 yX0_closeGap, .instanceMethod yX0_closeGap, .selects RX0 yX0_closeGap yX0_closeGap, .code yX0_closeGap cX0_closeGap 3 none, .methodLink RX0 32 arraycopyName, .native arraycopyName, .static arraycopyName, .initialized "java/lang/System"] ++ wsX30 ++ wsX00)
def wsX3_closed_r1 : List Cond := [Cond.fieldLink RX3 34 "ElCompletion" "stale" "Z", Cond.fieldLink RX3 19 "ElCompletion" "closure" "LElCompletion$Closure;", Cond.fieldLink RX3 12 "ElCompletion" "axioms" "LElCompletion$Axioms;", Cond.fieldLink RX3 30 "ElCompletion" "classCount" "I", Cond.instanceMethod yX1_fill, Cond.initialized RX1, Cond.selects RX1 yX1_fill yX1_fill, Cond.code yX1_fill cX1_fill 5 none, Cond.fieldLink RX1 35 "ElCompletion$Closure" "gainers" "I", Cond.fieldLink RX1 15 "ElCompletion$Closure" "now" "[I", Cond.fieldLink RX1 9 "ElCompletion$Closure" "before" "[I", Cond.methodLink RX1 49 arraycopyName, Cond.native arraycopyName, Cond.static arraycopyName, Cond.initialized "java/lang/System", Cond.methodLink RX1 38 yX1_clear, Cond.instanceMethod yX1_clear, Cond.selects RX1 yX1_clear yX1_clear, Cond.code yX1_clear cX1_clear 2 none, Cond.fieldLink RX1 18 "ElCompletion$Closure" "grounds" "[J", Cond.constantLong RX1 74 (-1), Cond.fieldLink RX1 25 "ElCompletion$Closure" "classCount" "I", Cond.fieldLink RX1 29 "ElCompletion$Closure" "factCount" "I", Cond.fieldLink RX1 32 "ElCompletion$Closure" "roundCount" "I"]
def wsX3_closed_r2 : List Cond := [Cond.methodLink RX1 68 yJ7_fill_53178, Cond.static yJ7_fill_53178, Cond.initialized RJ7, Cond.code yJ7_fill_53178 cJ7_fill_53178 4 none, Cond.methodLink RX1 76 yJ7_fill_d0a16, Cond.static yJ7_fill_d0a16, Cond.code yJ7_fill_d0a16 cJ7_fill_d0a16 5 none, Cond.methodLink RX1 42 yX1_giveAtFirst, Cond.instanceMethod yX1_giveAtFirst, Cond.selects RX1 yX1_giveAtFirst yX1_giveAtFirst, Cond.code yX1_giveAtFirst cX1_giveAtFirst 3 none, Cond.methodLink RX1 79 yX1_give, Cond.instanceMethod yX1_give, Cond.selects RX1 yX1_give yX1_give, Cond.code yX1_give cX1_give 9 none, Cond.static yX3_isIn, Cond.initialized RX3, Cond.code yX3_isIn cX3_isIn 2 (some .boolean), Cond.static yX3_codeOf, Cond.code yX3_codeOf cX3_codeOf 2 (some .int), Cond.methodLink RX1 89 yX1_giveOfItself, Cond.instanceMethod yX1_giveOfItself, Cond.selects RX1 yX1_giveOfItself yX1_giveOfItself, Cond.code yX1_giveOfItself cX1_giveOfItself 3 none]
def wsX3_closed_r3 : List Cond := [Cond.static yX3_linkColumn, Cond.code yX3_linkColumn cX3_linkColumn 2 (some .int), Cond.methodLink RX1 46 yX1_endRound, Cond.instanceMethod yX1_endRound, Cond.selects RX1 yX1_endRound yX1_endRound, Cond.code yX1_endRound cX1_endRound 1 none, Cond.methodLink RX1 119 yX1_listColumns, Cond.instanceMethod yX1_listColumns, Cond.selects RX1 yX1_listColumns yX1_listColumns, Cond.code yX1_listColumns cX1_listColumns 4 none, Cond.methodLink RX1 123 yX1_listFactsOf, Cond.instanceMethod yX1_listFactsOf, Cond.selects RX1 yX1_listFactsOf yX1_listFactsOf, Cond.code yX1_listFactsOf cX1_listFactsOf 5 none, Cond.fieldLink RX1 22 "ElCompletion$Closure" "order" "[I", Cond.methodLink RX1 60 yX1_giveByAxiom, Cond.instanceMethod yX1_giveByAxiom, Cond.selects RX1 yX1_giveByAxiom yX1_giveByAxiom, Cond.code yX1_giveByAxiom cX1_giveByAxiom 6 none, Cond.methodLink RX1 102 yX1_giveToBoth, Cond.instanceMethod yX1_giveToBoth, Cond.selects RX1 yX1_giveToBoth yX1_giveToBoth, Cond.code yX1_giveToBoth cX1_giveToBoth 7 none, Cond.methodLink RX1 64 yX1_giveToWhatHas]
def wsX3_closed_r4 : List Cond := [Cond.instanceMethod yX1_giveToWhatHas, Cond.selects RX1 yX1_giveToWhatHas yX1_giveToWhatHas, Cond.code yX1_giveToWhatHas cX1_giveToWhatHas 8 none, Cond.methodLink RX1 105 yX1_giveRole, Cond.instanceMethod yX1_giveRole, Cond.selects RX1 yX1_giveRole yX1_giveRole, Cond.code yX1_giveRole cX1_giveRole 6 none, Cond.methodLink RX1 109 yX1_giveChain, Cond.instanceMethod yX1_giveChain, Cond.selects RX1 yX1_giveChain yX1_giveChain, Cond.code yX1_giveChain cX1_giveChain 10 none]
def wsX3_closed : List Cond := .code yX3_closed cX3_closed 1 (some (.object "ElCompletion$Closure")) :: ((wsX3_closed_r1 ++ (wsX3_closed_r2 ++ (wsX3_closed_r3 ++ wsX3_closed_r4))) ++ wsX30 ++ wsX10 ++ wsX00)
def wsX3_sub_r1 : List Cond := [Cond.methodLink RX3 53 yX3_isClass, Cond.instanceMethod yX3_isClass, Cond.selects RX3 yX3_isClass yX3_isClass, Cond.initialized RX3, Cond.code yX3_isClass cX3_isClass 2 (some .boolean), Cond.fieldLink RX3 30 "ElCompletion" "classCount" "I", Cond.methodLink RX3 57 yX3_closed, Cond.instanceMethod yX3_closed, Cond.selects RX3 yX3_closed yX3_closed, Cond.code yX3_closed cX3_closed 1 (some (.object "ElCompletion$Closure")), Cond.fieldLink RX3 34 "ElCompletion" "stale" "Z", Cond.fieldLink RX3 19 "ElCompletion" "closure" "LElCompletion$Closure;", Cond.fieldLink RX3 12 "ElCompletion" "axioms" "LElCompletion$Axioms;", Cond.instanceMethod yX1_fill, Cond.initialized RX1, Cond.selects RX1 yX1_fill yX1_fill, Cond.code yX1_fill cX1_fill 5 none, Cond.fieldLink RX1 35 "ElCompletion$Closure" "gainers" "I", Cond.fieldLink RX1 15 "ElCompletion$Closure" "now" "[I", Cond.fieldLink RX1 9 "ElCompletion$Closure" "before" "[I", Cond.methodLink RX1 49 arraycopyName, Cond.native arraycopyName, Cond.static arraycopyName, Cond.initialized "java/lang/System"]
def wsX3_sub_r2 : List Cond := [Cond.methodLink RX1 38 yX1_clear, Cond.instanceMethod yX1_clear, Cond.selects RX1 yX1_clear yX1_clear, Cond.code yX1_clear cX1_clear 2 none, Cond.fieldLink RX1 18 "ElCompletion$Closure" "grounds" "[J", Cond.constantLong RX1 74 (-1), Cond.fieldLink RX1 25 "ElCompletion$Closure" "classCount" "I", Cond.fieldLink RX1 29 "ElCompletion$Closure" "factCount" "I", Cond.fieldLink RX1 32 "ElCompletion$Closure" "roundCount" "I", Cond.methodLink RX1 68 yJ7_fill_53178, Cond.static yJ7_fill_53178, Cond.initialized RJ7, Cond.code yJ7_fill_53178 cJ7_fill_53178 4 none, Cond.methodLink RX1 76 yJ7_fill_d0a16, Cond.static yJ7_fill_d0a16, Cond.code yJ7_fill_d0a16 cJ7_fill_d0a16 5 none, Cond.methodLink RX1 42 yX1_giveAtFirst, Cond.instanceMethod yX1_giveAtFirst, Cond.selects RX1 yX1_giveAtFirst yX1_giveAtFirst, Cond.code yX1_giveAtFirst cX1_giveAtFirst 3 none, Cond.methodLink RX1 79 yX1_give, Cond.instanceMethod yX1_give, Cond.selects RX1 yX1_give yX1_give, Cond.code yX1_give cX1_give 9 none]
def wsX3_sub_r3 : List Cond := [Cond.static yX3_isIn, Cond.code yX3_isIn cX3_isIn 2 (some .boolean), Cond.static yX3_codeOf, Cond.code yX3_codeOf cX3_codeOf 2 (some .int), Cond.methodLink RX1 89 yX1_giveOfItself, Cond.instanceMethod yX1_giveOfItself, Cond.selects RX1 yX1_giveOfItself yX1_giveOfItself, Cond.code yX1_giveOfItself cX1_giveOfItself 3 none, Cond.static yX3_linkColumn, Cond.code yX3_linkColumn cX3_linkColumn 2 (some .int), Cond.methodLink RX1 46 yX1_endRound, Cond.instanceMethod yX1_endRound, Cond.selects RX1 yX1_endRound yX1_endRound, Cond.code yX1_endRound cX1_endRound 1 none, Cond.methodLink RX1 119 yX1_listColumns, Cond.instanceMethod yX1_listColumns, Cond.selects RX1 yX1_listColumns yX1_listColumns, Cond.code yX1_listColumns cX1_listColumns 4 none, Cond.methodLink RX1 123 yX1_listFactsOf, Cond.instanceMethod yX1_listFactsOf, Cond.selects RX1 yX1_listFactsOf yX1_listFactsOf, Cond.code yX1_listFactsOf cX1_listFactsOf 5 none, Cond.fieldLink RX1 22 "ElCompletion$Closure" "order" "[I", Cond.methodLink RX1 60 yX1_giveByAxiom]
def wsX3_sub_r4 : List Cond := [Cond.instanceMethod yX1_giveByAxiom, Cond.selects RX1 yX1_giveByAxiom yX1_giveByAxiom, Cond.code yX1_giveByAxiom cX1_giveByAxiom 6 none, Cond.methodLink RX1 102 yX1_giveToBoth, Cond.instanceMethod yX1_giveToBoth, Cond.selects RX1 yX1_giveToBoth yX1_giveToBoth, Cond.code yX1_giveToBoth cX1_giveToBoth 7 none, Cond.methodLink RX1 64 yX1_giveToWhatHas, Cond.instanceMethod yX1_giveToWhatHas, Cond.selects RX1 yX1_giveToWhatHas yX1_giveToWhatHas, Cond.code yX1_giveToWhatHas cX1_giveToWhatHas 8 none, Cond.methodLink RX1 105 yX1_giveRole, Cond.instanceMethod yX1_giveRole, Cond.selects RX1 yX1_giveRole yX1_giveRole, Cond.code yX1_giveRole cX1_giveRole 6 none, Cond.methodLink RX1 109 yX1_giveChain, Cond.instanceMethod yX1_giveChain, Cond.selects RX1 yX1_giveChain yX1_giveChain, Cond.code yX1_giveChain cX1_giveChain 10 none, Cond.instanceMethod yX1_has, Cond.selects RX1 yX1_has yX1_has, Cond.code yX1_has cX1_has 3 (some .boolean)]
def wsX3_sub : List Cond := .code yX3_sub cX3_sub 3 (some .int) :: ((wsX3_sub_r1 ++ (wsX3_sub_r2 ++ (wsX3_sub_r3 ++ wsX3_sub_r4))) ++ wsX30 ++ wsX10 ++ wsX00)
def wsX3_link_r1 : List Cond := [Cond.methodLink RX3 53 yX3_isClass, Cond.instanceMethod yX3_isClass, Cond.selects RX3 yX3_isClass yX3_isClass, Cond.initialized RX3, Cond.code yX3_isClass cX3_isClass 2 (some .boolean), Cond.fieldLink RX3 30 "ElCompletion" "classCount" "I", Cond.methodLink RX3 65 yX3_isRole, Cond.static yX3_isRole, Cond.code yX3_isRole cX3_isRole 1 (some .boolean), Cond.methodLink RX3 57 yX3_closed, Cond.instanceMethod yX3_closed, Cond.selects RX3 yX3_closed yX3_closed, Cond.code yX3_closed cX3_closed 1 (some (.object "ElCompletion$Closure")), Cond.fieldLink RX3 34 "ElCompletion" "stale" "Z", Cond.fieldLink RX3 19 "ElCompletion" "closure" "LElCompletion$Closure;", Cond.fieldLink RX3 12 "ElCompletion" "axioms" "LElCompletion$Axioms;", Cond.instanceMethod yX1_fill, Cond.initialized RX1, Cond.selects RX1 yX1_fill yX1_fill, Cond.code yX1_fill cX1_fill 5 none, Cond.fieldLink RX1 35 "ElCompletion$Closure" "gainers" "I", Cond.fieldLink RX1 15 "ElCompletion$Closure" "now" "[I", Cond.fieldLink RX1 9 "ElCompletion$Closure" "before" "[I", Cond.methodLink RX1 49 arraycopyName]
def wsX3_link_r2 : List Cond := [Cond.native arraycopyName, Cond.static arraycopyName, Cond.initialized "java/lang/System", Cond.methodLink RX1 38 yX1_clear, Cond.instanceMethod yX1_clear, Cond.selects RX1 yX1_clear yX1_clear, Cond.code yX1_clear cX1_clear 2 none, Cond.fieldLink RX1 18 "ElCompletion$Closure" "grounds" "[J", Cond.constantLong RX1 74 (-1), Cond.fieldLink RX1 25 "ElCompletion$Closure" "classCount" "I", Cond.fieldLink RX1 29 "ElCompletion$Closure" "factCount" "I", Cond.fieldLink RX1 32 "ElCompletion$Closure" "roundCount" "I", Cond.methodLink RX1 68 yJ7_fill_53178, Cond.static yJ7_fill_53178, Cond.initialized RJ7, Cond.code yJ7_fill_53178 cJ7_fill_53178 4 none, Cond.methodLink RX1 76 yJ7_fill_d0a16, Cond.static yJ7_fill_d0a16, Cond.code yJ7_fill_d0a16 cJ7_fill_d0a16 5 none, Cond.methodLink RX1 42 yX1_giveAtFirst, Cond.instanceMethod yX1_giveAtFirst, Cond.selects RX1 yX1_giveAtFirst yX1_giveAtFirst, Cond.code yX1_giveAtFirst cX1_giveAtFirst 3 none, Cond.methodLink RX1 79 yX1_give]
def wsX3_link_r3 : List Cond := [Cond.instanceMethod yX1_give, Cond.selects RX1 yX1_give yX1_give, Cond.code yX1_give cX1_give 9 none, Cond.static yX3_isIn, Cond.code yX3_isIn cX3_isIn 2 (some .boolean), Cond.static yX3_codeOf, Cond.code yX3_codeOf cX3_codeOf 2 (some .int), Cond.methodLink RX1 89 yX1_giveOfItself, Cond.instanceMethod yX1_giveOfItself, Cond.selects RX1 yX1_giveOfItself yX1_giveOfItself, Cond.code yX1_giveOfItself cX1_giveOfItself 3 none, Cond.static yX3_linkColumn, Cond.code yX3_linkColumn cX3_linkColumn 2 (some .int), Cond.methodLink RX1 46 yX1_endRound, Cond.instanceMethod yX1_endRound, Cond.selects RX1 yX1_endRound yX1_endRound, Cond.code yX1_endRound cX1_endRound 1 none, Cond.methodLink RX1 119 yX1_listColumns, Cond.instanceMethod yX1_listColumns, Cond.selects RX1 yX1_listColumns yX1_listColumns, Cond.code yX1_listColumns cX1_listColumns 4 none, Cond.methodLink RX1 123 yX1_listFactsOf, Cond.instanceMethod yX1_listFactsOf, Cond.selects RX1 yX1_listFactsOf yX1_listFactsOf]
def wsX3_link_r4 : List Cond := [Cond.code yX1_listFactsOf cX1_listFactsOf 5 none, Cond.fieldLink RX1 22 "ElCompletion$Closure" "order" "[I", Cond.methodLink RX1 60 yX1_giveByAxiom, Cond.instanceMethod yX1_giveByAxiom, Cond.selects RX1 yX1_giveByAxiom yX1_giveByAxiom, Cond.code yX1_giveByAxiom cX1_giveByAxiom 6 none, Cond.methodLink RX1 102 yX1_giveToBoth, Cond.instanceMethod yX1_giveToBoth, Cond.selects RX1 yX1_giveToBoth yX1_giveToBoth, Cond.code yX1_giveToBoth cX1_giveToBoth 7 none, Cond.methodLink RX1 64 yX1_giveToWhatHas, Cond.instanceMethod yX1_giveToWhatHas, Cond.selects RX1 yX1_giveToWhatHas yX1_giveToWhatHas, Cond.code yX1_giveToWhatHas cX1_giveToWhatHas 8 none, Cond.methodLink RX1 105 yX1_giveRole, Cond.instanceMethod yX1_giveRole, Cond.selects RX1 yX1_giveRole yX1_giveRole, Cond.code yX1_giveRole cX1_giveRole 6 none, Cond.methodLink RX1 109 yX1_giveChain, Cond.instanceMethod yX1_giveChain, Cond.selects RX1 yX1_giveChain yX1_giveChain, Cond.code yX1_giveChain cX1_giveChain 10 none, Cond.methodLink RX3 68 yX3_linkColumn, Cond.instanceMethod yX1_has]
def wsX3_link_r5 : List Cond := [Cond.selects RX1 yX1_has yX1_has, Cond.code yX1_has cX1_has 3 (some .boolean)]
def wsX3_link : List Cond := .code yX3_link cX3_link 4 (some .int) :: ((wsX3_link_r1 ++ (wsX3_link_r2 ++ (wsX3_link_r3 ++ (wsX3_link_r4 ++ wsX3_link_r5)))) ++ wsX30 ++ wsX10 ++ wsX00)
def wsX3_rounds_r1 : List Cond := [Cond.methodLink RX3 57 yX3_closed, Cond.instanceMethod yX3_closed, Cond.selects RX3 yX3_closed yX3_closed, Cond.initialized RX3, Cond.code yX3_closed cX3_closed 1 (some (.object "ElCompletion$Closure")), Cond.fieldLink RX3 34 "ElCompletion" "stale" "Z", Cond.fieldLink RX3 19 "ElCompletion" "closure" "LElCompletion$Closure;", Cond.fieldLink RX3 12 "ElCompletion" "axioms" "LElCompletion$Axioms;", Cond.fieldLink RX3 30 "ElCompletion" "classCount" "I", Cond.instanceMethod yX1_fill, Cond.initialized RX1, Cond.selects RX1 yX1_fill yX1_fill, Cond.code yX1_fill cX1_fill 5 none, Cond.fieldLink RX1 35 "ElCompletion$Closure" "gainers" "I", Cond.fieldLink RX1 15 "ElCompletion$Closure" "now" "[I", Cond.fieldLink RX1 9 "ElCompletion$Closure" "before" "[I", Cond.methodLink RX1 49 arraycopyName, Cond.native arraycopyName, Cond.static arraycopyName, Cond.initialized "java/lang/System", Cond.methodLink RX1 38 yX1_clear, Cond.instanceMethod yX1_clear, Cond.selects RX1 yX1_clear yX1_clear, Cond.code yX1_clear cX1_clear 2 none]
def wsX3_rounds_r2 : List Cond := [Cond.fieldLink RX1 18 "ElCompletion$Closure" "grounds" "[J", Cond.constantLong RX1 74 (-1), Cond.fieldLink RX1 25 "ElCompletion$Closure" "classCount" "I", Cond.fieldLink RX1 29 "ElCompletion$Closure" "factCount" "I", Cond.fieldLink RX1 32 "ElCompletion$Closure" "roundCount" "I", Cond.methodLink RX1 68 yJ7_fill_53178, Cond.static yJ7_fill_53178, Cond.initialized RJ7, Cond.code yJ7_fill_53178 cJ7_fill_53178 4 none, Cond.methodLink RX1 76 yJ7_fill_d0a16, Cond.static yJ7_fill_d0a16, Cond.code yJ7_fill_d0a16 cJ7_fill_d0a16 5 none, Cond.methodLink RX1 42 yX1_giveAtFirst, Cond.instanceMethod yX1_giveAtFirst, Cond.selects RX1 yX1_giveAtFirst yX1_giveAtFirst, Cond.code yX1_giveAtFirst cX1_giveAtFirst 3 none, Cond.methodLink RX1 79 yX1_give, Cond.instanceMethod yX1_give, Cond.selects RX1 yX1_give yX1_give, Cond.code yX1_give cX1_give 9 none, Cond.static yX3_isIn, Cond.code yX3_isIn cX3_isIn 2 (some .boolean), Cond.static yX3_codeOf, Cond.code yX3_codeOf cX3_codeOf 2 (some .int)]
def wsX3_rounds_r3 : List Cond := [Cond.methodLink RX1 89 yX1_giveOfItself, Cond.instanceMethod yX1_giveOfItself, Cond.selects RX1 yX1_giveOfItself yX1_giveOfItself, Cond.code yX1_giveOfItself cX1_giveOfItself 3 none, Cond.static yX3_linkColumn, Cond.code yX3_linkColumn cX3_linkColumn 2 (some .int), Cond.methodLink RX1 46 yX1_endRound, Cond.instanceMethod yX1_endRound, Cond.selects RX1 yX1_endRound yX1_endRound, Cond.code yX1_endRound cX1_endRound 1 none, Cond.methodLink RX1 119 yX1_listColumns, Cond.instanceMethod yX1_listColumns, Cond.selects RX1 yX1_listColumns yX1_listColumns, Cond.code yX1_listColumns cX1_listColumns 4 none, Cond.methodLink RX1 123 yX1_listFactsOf, Cond.instanceMethod yX1_listFactsOf, Cond.selects RX1 yX1_listFactsOf yX1_listFactsOf, Cond.code yX1_listFactsOf cX1_listFactsOf 5 none, Cond.fieldLink RX1 22 "ElCompletion$Closure" "order" "[I", Cond.methodLink RX1 60 yX1_giveByAxiom, Cond.instanceMethod yX1_giveByAxiom, Cond.selects RX1 yX1_giveByAxiom yX1_giveByAxiom, Cond.code yX1_giveByAxiom cX1_giveByAxiom 6 none, Cond.methodLink RX1 102 yX1_giveToBoth]
def wsX3_rounds_r4 : List Cond := [Cond.instanceMethod yX1_giveToBoth, Cond.selects RX1 yX1_giveToBoth yX1_giveToBoth, Cond.code yX1_giveToBoth cX1_giveToBoth 7 none, Cond.methodLink RX1 64 yX1_giveToWhatHas, Cond.instanceMethod yX1_giveToWhatHas, Cond.selects RX1 yX1_giveToWhatHas yX1_giveToWhatHas, Cond.code yX1_giveToWhatHas cX1_giveToWhatHas 8 none, Cond.methodLink RX1 105 yX1_giveRole, Cond.instanceMethod yX1_giveRole, Cond.selects RX1 yX1_giveRole yX1_giveRole, Cond.code yX1_giveRole cX1_giveRole 6 none, Cond.methodLink RX1 109 yX1_giveChain, Cond.instanceMethod yX1_giveChain, Cond.selects RX1 yX1_giveChain yX1_giveChain, Cond.code yX1_giveChain cX1_giveChain 10 none]
def wsX3_rounds : List Cond := .code yX3_rounds cX3_rounds 1 (some .int) :: ((wsX3_rounds_r1 ++ (wsX3_rounds_r2 ++ (wsX3_rounds_r3 ++ wsX3_rounds_r4))) ++ wsX10 ++ wsX30 ++ wsX00)
def wsX3_facts_r1 : List Cond := [Cond.methodLink RX3 57 yX3_closed, Cond.instanceMethod yX3_closed, Cond.selects RX3 yX3_closed yX3_closed, Cond.initialized RX3, Cond.code yX3_closed cX3_closed 1 (some (.object "ElCompletion$Closure")), Cond.fieldLink RX3 34 "ElCompletion" "stale" "Z", Cond.fieldLink RX3 19 "ElCompletion" "closure" "LElCompletion$Closure;", Cond.fieldLink RX3 12 "ElCompletion" "axioms" "LElCompletion$Axioms;", Cond.fieldLink RX3 30 "ElCompletion" "classCount" "I", Cond.instanceMethod yX1_fill, Cond.initialized RX1, Cond.selects RX1 yX1_fill yX1_fill, Cond.code yX1_fill cX1_fill 5 none, Cond.fieldLink RX1 35 "ElCompletion$Closure" "gainers" "I", Cond.fieldLink RX1 15 "ElCompletion$Closure" "now" "[I", Cond.fieldLink RX1 9 "ElCompletion$Closure" "before" "[I", Cond.methodLink RX1 49 arraycopyName, Cond.native arraycopyName, Cond.static arraycopyName, Cond.initialized "java/lang/System", Cond.methodLink RX1 38 yX1_clear, Cond.instanceMethod yX1_clear, Cond.selects RX1 yX1_clear yX1_clear, Cond.code yX1_clear cX1_clear 2 none]
def wsX3_facts_r2 : List Cond := [Cond.fieldLink RX1 18 "ElCompletion$Closure" "grounds" "[J", Cond.constantLong RX1 74 (-1), Cond.fieldLink RX1 25 "ElCompletion$Closure" "classCount" "I", Cond.fieldLink RX1 29 "ElCompletion$Closure" "factCount" "I", Cond.fieldLink RX1 32 "ElCompletion$Closure" "roundCount" "I", Cond.methodLink RX1 68 yJ7_fill_53178, Cond.static yJ7_fill_53178, Cond.initialized RJ7, Cond.code yJ7_fill_53178 cJ7_fill_53178 4 none, Cond.methodLink RX1 76 yJ7_fill_d0a16, Cond.static yJ7_fill_d0a16, Cond.code yJ7_fill_d0a16 cJ7_fill_d0a16 5 none, Cond.methodLink RX1 42 yX1_giveAtFirst, Cond.instanceMethod yX1_giveAtFirst, Cond.selects RX1 yX1_giveAtFirst yX1_giveAtFirst, Cond.code yX1_giveAtFirst cX1_giveAtFirst 3 none, Cond.methodLink RX1 79 yX1_give, Cond.instanceMethod yX1_give, Cond.selects RX1 yX1_give yX1_give, Cond.code yX1_give cX1_give 9 none, Cond.static yX3_isIn, Cond.code yX3_isIn cX3_isIn 2 (some .boolean), Cond.static yX3_codeOf, Cond.code yX3_codeOf cX3_codeOf 2 (some .int)]
def wsX3_facts_r3 : List Cond := [Cond.methodLink RX1 89 yX1_giveOfItself, Cond.instanceMethod yX1_giveOfItself, Cond.selects RX1 yX1_giveOfItself yX1_giveOfItself, Cond.code yX1_giveOfItself cX1_giveOfItself 3 none, Cond.static yX3_linkColumn, Cond.code yX3_linkColumn cX3_linkColumn 2 (some .int), Cond.methodLink RX1 46 yX1_endRound, Cond.instanceMethod yX1_endRound, Cond.selects RX1 yX1_endRound yX1_endRound, Cond.code yX1_endRound cX1_endRound 1 none, Cond.methodLink RX1 119 yX1_listColumns, Cond.instanceMethod yX1_listColumns, Cond.selects RX1 yX1_listColumns yX1_listColumns, Cond.code yX1_listColumns cX1_listColumns 4 none, Cond.methodLink RX1 123 yX1_listFactsOf, Cond.instanceMethod yX1_listFactsOf, Cond.selects RX1 yX1_listFactsOf yX1_listFactsOf, Cond.code yX1_listFactsOf cX1_listFactsOf 5 none, Cond.fieldLink RX1 22 "ElCompletion$Closure" "order" "[I", Cond.methodLink RX1 60 yX1_giveByAxiom, Cond.instanceMethod yX1_giveByAxiom, Cond.selects RX1 yX1_giveByAxiom yX1_giveByAxiom, Cond.code yX1_giveByAxiom cX1_giveByAxiom 6 none, Cond.methodLink RX1 102 yX1_giveToBoth]
def wsX3_facts_r4 : List Cond := [Cond.instanceMethod yX1_giveToBoth, Cond.selects RX1 yX1_giveToBoth yX1_giveToBoth, Cond.code yX1_giveToBoth cX1_giveToBoth 7 none, Cond.methodLink RX1 64 yX1_giveToWhatHas, Cond.instanceMethod yX1_giveToWhatHas, Cond.selects RX1 yX1_giveToWhatHas yX1_giveToWhatHas, Cond.code yX1_giveToWhatHas cX1_giveToWhatHas 8 none, Cond.methodLink RX1 105 yX1_giveRole, Cond.instanceMethod yX1_giveRole, Cond.selects RX1 yX1_giveRole yX1_giveRole, Cond.code yX1_giveRole cX1_giveRole 6 none, Cond.methodLink RX1 109 yX1_giveChain, Cond.instanceMethod yX1_giveChain, Cond.selects RX1 yX1_giveChain yX1_giveChain, Cond.code yX1_giveChain cX1_giveChain 10 none]
def wsX3_facts : List Cond := .code yX3_facts cX3_facts 1 (some .int) :: ((wsX3_facts_r1 ++ (wsX3_facts_r2 ++ (wsX3_facts_r3 ++ wsX3_facts_r4))) ++ wsX10 ++ wsX30 ++ wsX00)
def wsX3_fact_r1 : List Cond := [Cond.classLink RX3 78 RJx00060, Cond.instantiable RJx00060 6, Cond.initialized RJx00060, Cond.methodLink RX3 57 yX3_closed, Cond.instanceMethod yX3_closed, Cond.selects RX3 yX3_closed yX3_closed, Cond.initialized RX3, Cond.code yX3_closed cX3_closed 1 (some (.object "ElCompletion$Closure")), Cond.fieldLink RX3 34 "ElCompletion" "stale" "Z", Cond.fieldLink RX3 19 "ElCompletion" "closure" "LElCompletion$Closure;", Cond.fieldLink RX3 12 "ElCompletion" "axioms" "LElCompletion$Axioms;", Cond.fieldLink RX3 30 "ElCompletion" "classCount" "I", Cond.instanceMethod yX1_fill, Cond.initialized RX1, Cond.selects RX1 yX1_fill yX1_fill, Cond.code yX1_fill cX1_fill 5 none, Cond.fieldLink RX1 35 "ElCompletion$Closure" "gainers" "I", Cond.fieldLink RX1 15 "ElCompletion$Closure" "now" "[I", Cond.fieldLink RX1 9 "ElCompletion$Closure" "before" "[I", Cond.methodLink RX1 49 arraycopyName, Cond.native arraycopyName, Cond.static arraycopyName, Cond.initialized "java/lang/System", Cond.methodLink RX1 38 yX1_clear]
def wsX3_fact_r2 : List Cond := [Cond.instanceMethod yX1_clear, Cond.selects RX1 yX1_clear yX1_clear, Cond.code yX1_clear cX1_clear 2 none, Cond.fieldLink RX1 18 "ElCompletion$Closure" "grounds" "[J", Cond.constantLong RX1 74 (-1), Cond.fieldLink RX1 25 "ElCompletion$Closure" "classCount" "I", Cond.fieldLink RX1 29 "ElCompletion$Closure" "factCount" "I", Cond.fieldLink RX1 32 "ElCompletion$Closure" "roundCount" "I", Cond.methodLink RX1 68 yJ7_fill_53178, Cond.static yJ7_fill_53178, Cond.initialized RJ7, Cond.code yJ7_fill_53178 cJ7_fill_53178 4 none, Cond.methodLink RX1 76 yJ7_fill_d0a16, Cond.static yJ7_fill_d0a16, Cond.code yJ7_fill_d0a16 cJ7_fill_d0a16 5 none, Cond.methodLink RX1 42 yX1_giveAtFirst, Cond.instanceMethod yX1_giveAtFirst, Cond.selects RX1 yX1_giveAtFirst yX1_giveAtFirst, Cond.code yX1_giveAtFirst cX1_giveAtFirst 3 none, Cond.methodLink RX1 79 yX1_give, Cond.instanceMethod yX1_give, Cond.selects RX1 yX1_give yX1_give, Cond.code yX1_give cX1_give 9 none, Cond.static yX3_isIn]
def wsX3_fact_r3 : List Cond := [Cond.code yX3_isIn cX3_isIn 2 (some .boolean), Cond.static yX3_codeOf, Cond.code yX3_codeOf cX3_codeOf 2 (some .int), Cond.methodLink RX1 89 yX1_giveOfItself, Cond.instanceMethod yX1_giveOfItself, Cond.selects RX1 yX1_giveOfItself yX1_giveOfItself, Cond.code yX1_giveOfItself cX1_giveOfItself 3 none, Cond.static yX3_linkColumn, Cond.code yX3_linkColumn cX3_linkColumn 2 (some .int), Cond.methodLink RX1 46 yX1_endRound, Cond.instanceMethod yX1_endRound, Cond.selects RX1 yX1_endRound yX1_endRound, Cond.code yX1_endRound cX1_endRound 1 none, Cond.methodLink RX1 119 yX1_listColumns, Cond.instanceMethod yX1_listColumns, Cond.selects RX1 yX1_listColumns yX1_listColumns, Cond.code yX1_listColumns cX1_listColumns 4 none, Cond.methodLink RX1 123 yX1_listFactsOf, Cond.instanceMethod yX1_listFactsOf, Cond.selects RX1 yX1_listFactsOf yX1_listFactsOf, Cond.code yX1_listFactsOf cX1_listFactsOf 5 none, Cond.fieldLink RX1 22 "ElCompletion$Closure" "order" "[I", Cond.methodLink RX1 60 yX1_giveByAxiom, Cond.instanceMethod yX1_giveByAxiom]
def wsX3_fact_r4 : List Cond := [Cond.selects RX1 yX1_giveByAxiom yX1_giveByAxiom, Cond.code yX1_giveByAxiom cX1_giveByAxiom 6 none, Cond.methodLink RX1 102 yX1_giveToBoth, Cond.instanceMethod yX1_giveToBoth, Cond.selects RX1 yX1_giveToBoth yX1_giveToBoth, Cond.code yX1_giveToBoth cX1_giveToBoth 7 none, Cond.methodLink RX1 64 yX1_giveToWhatHas, Cond.instanceMethod yX1_giveToWhatHas, Cond.selects RX1 yX1_giveToWhatHas yX1_giveToWhatHas, Cond.code yX1_giveToWhatHas cX1_giveToWhatHas 8 none, Cond.methodLink RX1 105 yX1_giveRole, Cond.instanceMethod yX1_giveRole, Cond.selects RX1 yX1_giveRole yX1_giveRole, Cond.code yX1_giveRole cX1_giveRole 6 none, Cond.methodLink RX1 109 yX1_giveChain, Cond.instanceMethod yX1_giveChain, Cond.selects RX1 yX1_giveChain yX1_giveChain, Cond.code yX1_giveChain cX1_giveChain 10 none]
def wsX3_fact : List Cond := .code yX3_fact cX3_fact 3 (some .int) :: ((wsX3_fact_r1 ++ (wsX3_fact_r2 ++ (wsX3_fact_r3 ++ wsX3_fact_r4))) ++ wsX10 ++ wsJx000600 ++ wsX30 ++ wsX00)
def wsX3_told_r1 : List Cond := [Cond.methodLink RX3 57 yX3_closed, Cond.instanceMethod yX3_closed, Cond.selects RX3 yX3_closed yX3_closed, Cond.initialized RX3, Cond.code yX3_closed cX3_closed 1 (some (.object "ElCompletion$Closure")), Cond.fieldLink RX3 34 "ElCompletion" "stale" "Z", Cond.fieldLink RX3 19 "ElCompletion" "closure" "LElCompletion$Closure;", Cond.fieldLink RX3 12 "ElCompletion" "axioms" "LElCompletion$Axioms;", Cond.fieldLink RX3 30 "ElCompletion" "classCount" "I", Cond.instanceMethod yX1_fill, Cond.initialized RX1, Cond.selects RX1 yX1_fill yX1_fill, Cond.code yX1_fill cX1_fill 5 none, Cond.fieldLink RX1 35 "ElCompletion$Closure" "gainers" "I", Cond.fieldLink RX1 15 "ElCompletion$Closure" "now" "[I", Cond.fieldLink RX1 9 "ElCompletion$Closure" "before" "[I", Cond.methodLink RX1 49 arraycopyName, Cond.native arraycopyName, Cond.static arraycopyName, Cond.initialized "java/lang/System", Cond.methodLink RX1 38 yX1_clear, Cond.instanceMethod yX1_clear, Cond.selects RX1 yX1_clear yX1_clear, Cond.code yX1_clear cX1_clear 2 none]
def wsX3_told_r2 : List Cond := [Cond.fieldLink RX1 18 "ElCompletion$Closure" "grounds" "[J", Cond.constantLong RX1 74 (-1), Cond.fieldLink RX1 25 "ElCompletion$Closure" "classCount" "I", Cond.fieldLink RX1 29 "ElCompletion$Closure" "factCount" "I", Cond.fieldLink RX1 32 "ElCompletion$Closure" "roundCount" "I", Cond.methodLink RX1 68 yJ7_fill_53178, Cond.static yJ7_fill_53178, Cond.initialized RJ7, Cond.code yJ7_fill_53178 cJ7_fill_53178 4 none, Cond.methodLink RX1 76 yJ7_fill_d0a16, Cond.static yJ7_fill_d0a16, Cond.code yJ7_fill_d0a16 cJ7_fill_d0a16 5 none, Cond.methodLink RX1 42 yX1_giveAtFirst, Cond.instanceMethod yX1_giveAtFirst, Cond.selects RX1 yX1_giveAtFirst yX1_giveAtFirst, Cond.code yX1_giveAtFirst cX1_giveAtFirst 3 none, Cond.methodLink RX1 79 yX1_give, Cond.instanceMethod yX1_give, Cond.selects RX1 yX1_give yX1_give, Cond.code yX1_give cX1_give 9 none, Cond.static yX3_isIn, Cond.code yX3_isIn cX3_isIn 2 (some .boolean), Cond.static yX3_codeOf, Cond.code yX3_codeOf cX3_codeOf 2 (some .int)]
def wsX3_told_r3 : List Cond := [Cond.methodLink RX1 89 yX1_giveOfItself, Cond.instanceMethod yX1_giveOfItself, Cond.selects RX1 yX1_giveOfItself yX1_giveOfItself, Cond.code yX1_giveOfItself cX1_giveOfItself 3 none, Cond.static yX3_linkColumn, Cond.code yX3_linkColumn cX3_linkColumn 2 (some .int), Cond.methodLink RX1 46 yX1_endRound, Cond.instanceMethod yX1_endRound, Cond.selects RX1 yX1_endRound yX1_endRound, Cond.code yX1_endRound cX1_endRound 1 none, Cond.methodLink RX1 119 yX1_listColumns, Cond.instanceMethod yX1_listColumns, Cond.selects RX1 yX1_listColumns yX1_listColumns, Cond.code yX1_listColumns cX1_listColumns 4 none, Cond.methodLink RX1 123 yX1_listFactsOf, Cond.instanceMethod yX1_listFactsOf, Cond.selects RX1 yX1_listFactsOf yX1_listFactsOf, Cond.code yX1_listFactsOf cX1_listFactsOf 5 none, Cond.fieldLink RX1 22 "ElCompletion$Closure" "order" "[I", Cond.methodLink RX1 60 yX1_giveByAxiom, Cond.instanceMethod yX1_giveByAxiom, Cond.selects RX1 yX1_giveByAxiom yX1_giveByAxiom, Cond.code yX1_giveByAxiom cX1_giveByAxiom 6 none, Cond.methodLink RX1 102 yX1_giveToBoth]
def wsX3_told_r4 : List Cond := [Cond.instanceMethod yX1_giveToBoth, Cond.selects RX1 yX1_giveToBoth yX1_giveToBoth, Cond.code yX1_giveToBoth cX1_giveToBoth 7 none, Cond.methodLink RX1 64 yX1_giveToWhatHas, Cond.instanceMethod yX1_giveToWhatHas, Cond.selects RX1 yX1_giveToWhatHas yX1_giveToWhatHas, Cond.code yX1_giveToWhatHas cX1_giveToWhatHas 8 none, Cond.methodLink RX1 105 yX1_giveRole, Cond.instanceMethod yX1_giveRole, Cond.selects RX1 yX1_giveRole yX1_giveRole, Cond.code yX1_giveRole cX1_giveRole 6 none, Cond.methodLink RX1 109 yX1_giveChain, Cond.instanceMethod yX1_giveChain, Cond.selects RX1 yX1_giveChain yX1_giveChain, Cond.code yX1_giveChain cX1_giveChain 10 none, Cond.instanceMethod yX1_follows, Cond.selects RX1 yX1_follows yX1_follows, Cond.code yX1_follows cX1_follows 2 (some .boolean), Cond.instanceMethod yX1_roundOf, Cond.selects RX1 yX1_roundOf yX1_roundOf, Cond.code yX1_roundOf cX1_roundOf 2 (some .int), Cond.instanceMethod yX1_axiomOf, Cond.selects RX1 yX1_axiomOf yX1_axiomOf, Cond.code yX1_axiomOf cX1_axiomOf 3 (some .int)]
def wsX3_told_r5 : List Cond := [Cond.instanceMethod yX1_firstPremiseOf, Cond.selects RX1 yX1_firstPremiseOf yX1_firstPremiseOf, Cond.code yX1_firstPremiseOf cX1_firstPremiseOf 3 (some .int), Cond.instanceMethod yX1_secondPremiseOf, Cond.selects RX1 yX1_secondPremiseOf yX1_secondPremiseOf, Cond.code yX1_secondPremiseOf cX1_secondPremiseOf 3 (some .int)]
def wsX3_told : List Cond := .code yX3_told cX3_told 4 (some .int) :: ((wsX3_told_r1 ++ (wsX3_told_r2 ++ (wsX3_told_r3 ++ (wsX3_told_r4 ++ wsX3_told_r5)))) ++ wsX30 ++ wsX10 ++ wsX00)
def wsX3_trace_r1 : List Cond := [Cond.fieldLink RX3 26 "ElCompletion" "proof" "LElCompletion$Proof;", Cond.methodLink RX3 57 yX3_closed, Cond.instanceMethod yX3_closed, Cond.selects RX3 yX3_closed yX3_closed, Cond.initialized RX3, Cond.code yX3_closed cX3_closed 1 (some (.object "ElCompletion$Closure")), Cond.fieldLink RX3 34 "ElCompletion" "stale" "Z", Cond.fieldLink RX3 19 "ElCompletion" "closure" "LElCompletion$Closure;", Cond.fieldLink RX3 12 "ElCompletion" "axioms" "LElCompletion$Axioms;", Cond.fieldLink RX3 30 "ElCompletion" "classCount" "I", Cond.instanceMethod yX1_fill, Cond.initialized RX1, Cond.selects RX1 yX1_fill yX1_fill, Cond.code yX1_fill cX1_fill 5 none, Cond.fieldLink RX1 35 "ElCompletion$Closure" "gainers" "I", Cond.fieldLink RX1 15 "ElCompletion$Closure" "now" "[I", Cond.fieldLink RX1 9 "ElCompletion$Closure" "before" "[I", Cond.methodLink RX1 49 arraycopyName, Cond.native arraycopyName, Cond.static arraycopyName, Cond.initialized "java/lang/System", Cond.methodLink RX1 38 yX1_clear, Cond.instanceMethod yX1_clear, Cond.selects RX1 yX1_clear yX1_clear]
def wsX3_trace_r2 : List Cond := [Cond.code yX1_clear cX1_clear 2 none, Cond.fieldLink RX1 18 "ElCompletion$Closure" "grounds" "[J", Cond.constantLong RX1 74 (-1), Cond.fieldLink RX1 25 "ElCompletion$Closure" "classCount" "I", Cond.fieldLink RX1 29 "ElCompletion$Closure" "factCount" "I", Cond.fieldLink RX1 32 "ElCompletion$Closure" "roundCount" "I", Cond.methodLink RX1 68 yJ7_fill_53178, Cond.static yJ7_fill_53178, Cond.initialized RJ7, Cond.code yJ7_fill_53178 cJ7_fill_53178 4 none, Cond.methodLink RX1 76 yJ7_fill_d0a16, Cond.static yJ7_fill_d0a16, Cond.code yJ7_fill_d0a16 cJ7_fill_d0a16 5 none, Cond.methodLink RX1 42 yX1_giveAtFirst, Cond.instanceMethod yX1_giveAtFirst, Cond.selects RX1 yX1_giveAtFirst yX1_giveAtFirst, Cond.code yX1_giveAtFirst cX1_giveAtFirst 3 none, Cond.methodLink RX1 79 yX1_give, Cond.instanceMethod yX1_give, Cond.selects RX1 yX1_give yX1_give, Cond.code yX1_give cX1_give 9 none, Cond.static yX3_isIn, Cond.code yX3_isIn cX3_isIn 2 (some .boolean), Cond.static yX3_codeOf]
def wsX3_trace_r3 : List Cond := [Cond.code yX3_codeOf cX3_codeOf 2 (some .int), Cond.methodLink RX1 89 yX1_giveOfItself, Cond.instanceMethod yX1_giveOfItself, Cond.selects RX1 yX1_giveOfItself yX1_giveOfItself, Cond.code yX1_giveOfItself cX1_giveOfItself 3 none, Cond.static yX3_linkColumn, Cond.code yX3_linkColumn cX3_linkColumn 2 (some .int), Cond.methodLink RX1 46 yX1_endRound, Cond.instanceMethod yX1_endRound, Cond.selects RX1 yX1_endRound yX1_endRound, Cond.code yX1_endRound cX1_endRound 1 none, Cond.methodLink RX1 119 yX1_listColumns, Cond.instanceMethod yX1_listColumns, Cond.selects RX1 yX1_listColumns yX1_listColumns, Cond.code yX1_listColumns cX1_listColumns 4 none, Cond.methodLink RX1 123 yX1_listFactsOf, Cond.instanceMethod yX1_listFactsOf, Cond.selects RX1 yX1_listFactsOf yX1_listFactsOf, Cond.code yX1_listFactsOf cX1_listFactsOf 5 none, Cond.fieldLink RX1 22 "ElCompletion$Closure" "order" "[I", Cond.methodLink RX1 60 yX1_giveByAxiom, Cond.instanceMethod yX1_giveByAxiom, Cond.selects RX1 yX1_giveByAxiom yX1_giveByAxiom, Cond.code yX1_giveByAxiom cX1_giveByAxiom 6 none]
def wsX3_trace_r4 : List Cond := [Cond.methodLink RX1 102 yX1_giveToBoth, Cond.instanceMethod yX1_giveToBoth, Cond.selects RX1 yX1_giveToBoth yX1_giveToBoth, Cond.code yX1_giveToBoth cX1_giveToBoth 7 none, Cond.methodLink RX1 64 yX1_giveToWhatHas, Cond.instanceMethod yX1_giveToWhatHas, Cond.selects RX1 yX1_giveToWhatHas yX1_giveToWhatHas, Cond.code yX1_giveToWhatHas cX1_giveToWhatHas 8 none, Cond.methodLink RX1 105 yX1_giveRole, Cond.instanceMethod yX1_giveRole, Cond.selects RX1 yX1_giveRole yX1_giveRole, Cond.code yX1_giveRole cX1_giveRole 6 none, Cond.methodLink RX1 109 yX1_giveChain, Cond.instanceMethod yX1_giveChain, Cond.selects RX1 yX1_giveChain yX1_giveChain, Cond.code yX1_giveChain cX1_giveChain 10 none, Cond.instanceMethod yX2_take, Cond.initialized RX2, Cond.selects RX2 yX2_take yX2_take, Cond.code yX2_take cX2_take 4 none, Cond.fieldLink RX2 19 "ElCompletion$Proof" "count" "I", Cond.fieldLink RX2 15 "ElCompletion$Proof" "needed" "[J", Cond.fieldLink RX2 9 "ElCompletion$Proof" "rows" "[I", Cond.instanceMethod yX1_follows]
def wsX3_trace_r5 : List Cond := [Cond.selects RX1 yX1_follows yX1_follows, Cond.code yX1_follows cX1_follows 2 (some .boolean), Cond.methodLink RX2 29 yJ7_fill_d0a16, Cond.methodLink RX2 35 yX2_need, Cond.instanceMethod yX2_need, Cond.selects RX2 yX2_need yX2_need, Cond.code yX2_need cX2_need 2 none, Cond.methodLink RX2 45 yX2_isNeeded, Cond.instanceMethod yX2_isNeeded, Cond.selects RX2 yX2_isNeeded yX2_isNeeded, Cond.code yX2_isNeeded cX2_isNeeded 2 (some .boolean), Cond.instanceMethod yX1_firstPremiseOf, Cond.selects RX1 yX1_firstPremiseOf yX1_firstPremiseOf, Cond.code yX1_firstPremiseOf cX1_firstPremiseOf 3 (some .int), Cond.instanceMethod yX1_secondPremiseOf, Cond.selects RX1 yX1_secondPremiseOf yX1_secondPremiseOf, Cond.code yX1_secondPremiseOf cX1_secondPremiseOf 3 (some .int)]
def wsX3_trace : List Cond := .code yX3_trace cX3_trace 2 (some .int) :: ((wsX3_trace_r1 ++ (wsX3_trace_r2 ++ (wsX3_trace_r3 ++ (wsX3_trace_r4 ++ wsX3_trace_r5)))) ++ wsX30 ++ wsX20 ++ wsX10 ++ wsX00)
def wsX3_row : List Cond := .code yX3_row cX3_row 2 (some .int) :: ([.fieldLink RX3 26 "ElCompletion" "proof" "LElCompletion$Proof;"] ++ wsX30 ++ wsX20)
def wsX3_empty_r1 : List Cond := [Cond.methodLink RX3 112 yX3_sub, Cond.instanceMethod yX3_sub, Cond.selects RX3 yX3_sub yX3_sub, Cond.initialized RX3, Cond.code yX3_sub cX3_sub 3 (some .int), Cond.methodLink RX3 53 yX3_isClass, Cond.instanceMethod yX3_isClass, Cond.selects RX3 yX3_isClass yX3_isClass, Cond.code yX3_isClass cX3_isClass 2 (some .boolean), Cond.fieldLink RX3 30 "ElCompletion" "classCount" "I", Cond.methodLink RX3 57 yX3_closed, Cond.instanceMethod yX3_closed, Cond.selects RX3 yX3_closed yX3_closed, Cond.code yX3_closed cX3_closed 1 (some (.object "ElCompletion$Closure")), Cond.fieldLink RX3 34 "ElCompletion" "stale" "Z", Cond.fieldLink RX3 19 "ElCompletion" "closure" "LElCompletion$Closure;", Cond.fieldLink RX3 12 "ElCompletion" "axioms" "LElCompletion$Axioms;", Cond.instanceMethod yX1_fill, Cond.initialized RX1, Cond.selects RX1 yX1_fill yX1_fill, Cond.code yX1_fill cX1_fill 5 none, Cond.fieldLink RX1 35 "ElCompletion$Closure" "gainers" "I", Cond.fieldLink RX1 15 "ElCompletion$Closure" "now" "[I", Cond.fieldLink RX1 9 "ElCompletion$Closure" "before" "[I"]
def wsX3_empty_r2 : List Cond := [Cond.methodLink RX1 49 arraycopyName, Cond.native arraycopyName, Cond.static arraycopyName, Cond.initialized "java/lang/System", Cond.methodLink RX1 38 yX1_clear, Cond.instanceMethod yX1_clear, Cond.selects RX1 yX1_clear yX1_clear, Cond.code yX1_clear cX1_clear 2 none, Cond.fieldLink RX1 18 "ElCompletion$Closure" "grounds" "[J", Cond.constantLong RX1 74 (-1), Cond.fieldLink RX1 25 "ElCompletion$Closure" "classCount" "I", Cond.fieldLink RX1 29 "ElCompletion$Closure" "factCount" "I", Cond.fieldLink RX1 32 "ElCompletion$Closure" "roundCount" "I", Cond.methodLink RX1 68 yJ7_fill_53178, Cond.static yJ7_fill_53178, Cond.initialized RJ7, Cond.code yJ7_fill_53178 cJ7_fill_53178 4 none, Cond.methodLink RX1 76 yJ7_fill_d0a16, Cond.static yJ7_fill_d0a16, Cond.code yJ7_fill_d0a16 cJ7_fill_d0a16 5 none, Cond.methodLink RX1 42 yX1_giveAtFirst, Cond.instanceMethod yX1_giveAtFirst, Cond.selects RX1 yX1_giveAtFirst yX1_giveAtFirst, Cond.code yX1_giveAtFirst cX1_giveAtFirst 3 none]
def wsX3_empty_r3 : List Cond := [Cond.methodLink RX1 79 yX1_give, Cond.instanceMethod yX1_give, Cond.selects RX1 yX1_give yX1_give, Cond.code yX1_give cX1_give 9 none, Cond.static yX3_isIn, Cond.code yX3_isIn cX3_isIn 2 (some .boolean), Cond.static yX3_codeOf, Cond.code yX3_codeOf cX3_codeOf 2 (some .int), Cond.methodLink RX1 89 yX1_giveOfItself, Cond.instanceMethod yX1_giveOfItself, Cond.selects RX1 yX1_giveOfItself yX1_giveOfItself, Cond.code yX1_giveOfItself cX1_giveOfItself 3 none, Cond.static yX3_linkColumn, Cond.code yX3_linkColumn cX3_linkColumn 2 (some .int), Cond.methodLink RX1 46 yX1_endRound, Cond.instanceMethod yX1_endRound, Cond.selects RX1 yX1_endRound yX1_endRound, Cond.code yX1_endRound cX1_endRound 1 none, Cond.methodLink RX1 119 yX1_listColumns, Cond.instanceMethod yX1_listColumns, Cond.selects RX1 yX1_listColumns yX1_listColumns, Cond.code yX1_listColumns cX1_listColumns 4 none, Cond.methodLink RX1 123 yX1_listFactsOf, Cond.instanceMethod yX1_listFactsOf]
def wsX3_empty_r4 : List Cond := [Cond.selects RX1 yX1_listFactsOf yX1_listFactsOf, Cond.code yX1_listFactsOf cX1_listFactsOf 5 none, Cond.fieldLink RX1 22 "ElCompletion$Closure" "order" "[I", Cond.methodLink RX1 60 yX1_giveByAxiom, Cond.instanceMethod yX1_giveByAxiom, Cond.selects RX1 yX1_giveByAxiom yX1_giveByAxiom, Cond.code yX1_giveByAxiom cX1_giveByAxiom 6 none, Cond.methodLink RX1 102 yX1_giveToBoth, Cond.instanceMethod yX1_giveToBoth, Cond.selects RX1 yX1_giveToBoth yX1_giveToBoth, Cond.code yX1_giveToBoth cX1_giveToBoth 7 none, Cond.methodLink RX1 64 yX1_giveToWhatHas, Cond.instanceMethod yX1_giveToWhatHas, Cond.selects RX1 yX1_giveToWhatHas yX1_giveToWhatHas, Cond.code yX1_giveToWhatHas cX1_giveToWhatHas 8 none, Cond.methodLink RX1 105 yX1_giveRole, Cond.instanceMethod yX1_giveRole, Cond.selects RX1 yX1_giveRole yX1_giveRole, Cond.code yX1_giveRole cX1_giveRole 6 none, Cond.methodLink RX1 109 yX1_giveChain, Cond.instanceMethod yX1_giveChain, Cond.selects RX1 yX1_giveChain yX1_giveChain, Cond.code yX1_giveChain cX1_giveChain 10 none, Cond.instanceMethod yX1_has]
def wsX3_empty_r5 : List Cond := [Cond.selects RX1 yX1_has yX1_has, Cond.code yX1_has cX1_has 3 (some .boolean)]
def wsX3_empty : List Cond := .code yX3_empty cX3_empty 2 (some .int) :: ((wsX3_empty_r1 ++ (wsX3_empty_r2 ++ (wsX3_empty_r3 ++ (wsX3_empty_r4 ++ wsX3_empty_r5)))) ++ wsX30 ++ wsX10 ++ wsX00)
def wsX3_same_r1 : List Cond := [Cond.methodLink RX3 53 yX3_isClass, Cond.instanceMethod yX3_isClass, Cond.selects RX3 yX3_isClass yX3_isClass, Cond.initialized RX3, Cond.code yX3_isClass cX3_isClass 2 (some .boolean), Cond.fieldLink RX3 30 "ElCompletion" "classCount" "I", Cond.methodLink RX3 57 yX3_closed, Cond.instanceMethod yX3_closed, Cond.selects RX3 yX3_closed yX3_closed, Cond.code yX3_closed cX3_closed 1 (some (.object "ElCompletion$Closure")), Cond.fieldLink RX3 34 "ElCompletion" "stale" "Z", Cond.fieldLink RX3 19 "ElCompletion" "closure" "LElCompletion$Closure;", Cond.fieldLink RX3 12 "ElCompletion" "axioms" "LElCompletion$Axioms;", Cond.instanceMethod yX1_fill, Cond.initialized RX1, Cond.selects RX1 yX1_fill yX1_fill, Cond.code yX1_fill cX1_fill 5 none, Cond.fieldLink RX1 35 "ElCompletion$Closure" "gainers" "I", Cond.fieldLink RX1 15 "ElCompletion$Closure" "now" "[I", Cond.fieldLink RX1 9 "ElCompletion$Closure" "before" "[I", Cond.methodLink RX1 49 arraycopyName, Cond.native arraycopyName, Cond.static arraycopyName, Cond.initialized "java/lang/System"]
def wsX3_same_r2 : List Cond := [Cond.methodLink RX1 38 yX1_clear, Cond.instanceMethod yX1_clear, Cond.selects RX1 yX1_clear yX1_clear, Cond.code yX1_clear cX1_clear 2 none, Cond.fieldLink RX1 18 "ElCompletion$Closure" "grounds" "[J", Cond.constantLong RX1 74 (-1), Cond.fieldLink RX1 25 "ElCompletion$Closure" "classCount" "I", Cond.fieldLink RX1 29 "ElCompletion$Closure" "factCount" "I", Cond.fieldLink RX1 32 "ElCompletion$Closure" "roundCount" "I", Cond.methodLink RX1 68 yJ7_fill_53178, Cond.static yJ7_fill_53178, Cond.initialized RJ7, Cond.code yJ7_fill_53178 cJ7_fill_53178 4 none, Cond.methodLink RX1 76 yJ7_fill_d0a16, Cond.static yJ7_fill_d0a16, Cond.code yJ7_fill_d0a16 cJ7_fill_d0a16 5 none, Cond.methodLink RX1 42 yX1_giveAtFirst, Cond.instanceMethod yX1_giveAtFirst, Cond.selects RX1 yX1_giveAtFirst yX1_giveAtFirst, Cond.code yX1_giveAtFirst cX1_giveAtFirst 3 none, Cond.methodLink RX1 79 yX1_give, Cond.instanceMethod yX1_give, Cond.selects RX1 yX1_give yX1_give, Cond.code yX1_give cX1_give 9 none]
def wsX3_same_r3 : List Cond := [Cond.static yX3_isIn, Cond.code yX3_isIn cX3_isIn 2 (some .boolean), Cond.static yX3_codeOf, Cond.code yX3_codeOf cX3_codeOf 2 (some .int), Cond.methodLink RX1 89 yX1_giveOfItself, Cond.instanceMethod yX1_giveOfItself, Cond.selects RX1 yX1_giveOfItself yX1_giveOfItself, Cond.code yX1_giveOfItself cX1_giveOfItself 3 none, Cond.static yX3_linkColumn, Cond.code yX3_linkColumn cX3_linkColumn 2 (some .int), Cond.methodLink RX1 46 yX1_endRound, Cond.instanceMethod yX1_endRound, Cond.selects RX1 yX1_endRound yX1_endRound, Cond.code yX1_endRound cX1_endRound 1 none, Cond.methodLink RX1 119 yX1_listColumns, Cond.instanceMethod yX1_listColumns, Cond.selects RX1 yX1_listColumns yX1_listColumns, Cond.code yX1_listColumns cX1_listColumns 4 none, Cond.methodLink RX1 123 yX1_listFactsOf, Cond.instanceMethod yX1_listFactsOf, Cond.selects RX1 yX1_listFactsOf yX1_listFactsOf, Cond.code yX1_listFactsOf cX1_listFactsOf 5 none, Cond.fieldLink RX1 22 "ElCompletion$Closure" "order" "[I", Cond.methodLink RX1 60 yX1_giveByAxiom]
def wsX3_same_r4 : List Cond := [Cond.instanceMethod yX1_giveByAxiom, Cond.selects RX1 yX1_giveByAxiom yX1_giveByAxiom, Cond.code yX1_giveByAxiom cX1_giveByAxiom 6 none, Cond.methodLink RX1 102 yX1_giveToBoth, Cond.instanceMethod yX1_giveToBoth, Cond.selects RX1 yX1_giveToBoth yX1_giveToBoth, Cond.code yX1_giveToBoth cX1_giveToBoth 7 none, Cond.methodLink RX1 64 yX1_giveToWhatHas, Cond.instanceMethod yX1_giveToWhatHas, Cond.selects RX1 yX1_giveToWhatHas yX1_giveToWhatHas, Cond.code yX1_giveToWhatHas cX1_giveToWhatHas 8 none, Cond.methodLink RX1 105 yX1_giveRole, Cond.instanceMethod yX1_giveRole, Cond.selects RX1 yX1_giveRole yX1_giveRole, Cond.code yX1_giveRole cX1_giveRole 6 none, Cond.methodLink RX1 109 yX1_giveChain, Cond.instanceMethod yX1_giveChain, Cond.selects RX1 yX1_giveChain yX1_giveChain, Cond.code yX1_giveChain cX1_giveChain 10 none, Cond.instanceMethod yX1_leastSame, Cond.selects RX1 yX1_leastSame yX1_leastSame, Cond.code yX1_leastSame cX1_leastSame 3 (some .int), Cond.methodLink RX1 129 yX1_areSame, Cond.instanceMethod yX1_areSame]
def wsX3_same_r5 : List Cond := [Cond.selects RX1 yX1_areSame yX1_areSame, Cond.code yX1_areSame cX1_areSame 3 (some .boolean), Cond.methodLink RX1 126 yX1_has, Cond.instanceMethod yX1_has, Cond.selects RX1 yX1_has yX1_has, Cond.code yX1_has cX1_has 3 (some .boolean)]
def wsX3_same : List Cond := .code yX3_same cX3_same 2 (some .int) :: ((wsX3_same_r1 ++ (wsX3_same_r2 ++ (wsX3_same_r3 ++ (wsX3_same_r4 ++ wsX3_same_r5)))) ++ wsX30 ++ wsX10 ++ wsX00)
def wsX3_parent_r1 : List Cond := [Cond.methodLink RX3 53 yX3_isClass, Cond.instanceMethod yX3_isClass, Cond.selects RX3 yX3_isClass yX3_isClass, Cond.initialized RX3, Cond.code yX3_isClass cX3_isClass 2 (some .boolean), Cond.fieldLink RX3 30 "ElCompletion" "classCount" "I", Cond.methodLink RX3 57 yX3_closed, Cond.instanceMethod yX3_closed, Cond.selects RX3 yX3_closed yX3_closed, Cond.code yX3_closed cX3_closed 1 (some (.object "ElCompletion$Closure")), Cond.fieldLink RX3 34 "ElCompletion" "stale" "Z", Cond.fieldLink RX3 19 "ElCompletion" "closure" "LElCompletion$Closure;", Cond.fieldLink RX3 12 "ElCompletion" "axioms" "LElCompletion$Axioms;", Cond.instanceMethod yX1_fill, Cond.initialized RX1, Cond.selects RX1 yX1_fill yX1_fill, Cond.code yX1_fill cX1_fill 5 none, Cond.fieldLink RX1 35 "ElCompletion$Closure" "gainers" "I", Cond.fieldLink RX1 15 "ElCompletion$Closure" "now" "[I", Cond.fieldLink RX1 9 "ElCompletion$Closure" "before" "[I", Cond.methodLink RX1 49 arraycopyName, Cond.native arraycopyName, Cond.static arraycopyName, Cond.initialized "java/lang/System"]
def wsX3_parent_r2 : List Cond := [Cond.methodLink RX1 38 yX1_clear, Cond.instanceMethod yX1_clear, Cond.selects RX1 yX1_clear yX1_clear, Cond.code yX1_clear cX1_clear 2 none, Cond.fieldLink RX1 18 "ElCompletion$Closure" "grounds" "[J", Cond.constantLong RX1 74 (-1), Cond.fieldLink RX1 25 "ElCompletion$Closure" "classCount" "I", Cond.fieldLink RX1 29 "ElCompletion$Closure" "factCount" "I", Cond.fieldLink RX1 32 "ElCompletion$Closure" "roundCount" "I", Cond.methodLink RX1 68 yJ7_fill_53178, Cond.static yJ7_fill_53178, Cond.initialized RJ7, Cond.code yJ7_fill_53178 cJ7_fill_53178 4 none, Cond.methodLink RX1 76 yJ7_fill_d0a16, Cond.static yJ7_fill_d0a16, Cond.code yJ7_fill_d0a16 cJ7_fill_d0a16 5 none, Cond.methodLink RX1 42 yX1_giveAtFirst, Cond.instanceMethod yX1_giveAtFirst, Cond.selects RX1 yX1_giveAtFirst yX1_giveAtFirst, Cond.code yX1_giveAtFirst cX1_giveAtFirst 3 none, Cond.methodLink RX1 79 yX1_give, Cond.instanceMethod yX1_give, Cond.selects RX1 yX1_give yX1_give, Cond.code yX1_give cX1_give 9 none]
def wsX3_parent_r3 : List Cond := [Cond.static yX3_isIn, Cond.code yX3_isIn cX3_isIn 2 (some .boolean), Cond.static yX3_codeOf, Cond.code yX3_codeOf cX3_codeOf 2 (some .int), Cond.methodLink RX1 89 yX1_giveOfItself, Cond.instanceMethod yX1_giveOfItself, Cond.selects RX1 yX1_giveOfItself yX1_giveOfItself, Cond.code yX1_giveOfItself cX1_giveOfItself 3 none, Cond.static yX3_linkColumn, Cond.code yX3_linkColumn cX3_linkColumn 2 (some .int), Cond.methodLink RX1 46 yX1_endRound, Cond.instanceMethod yX1_endRound, Cond.selects RX1 yX1_endRound yX1_endRound, Cond.code yX1_endRound cX1_endRound 1 none, Cond.methodLink RX1 119 yX1_listColumns, Cond.instanceMethod yX1_listColumns, Cond.selects RX1 yX1_listColumns yX1_listColumns, Cond.code yX1_listColumns cX1_listColumns 4 none, Cond.methodLink RX1 123 yX1_listFactsOf, Cond.instanceMethod yX1_listFactsOf, Cond.selects RX1 yX1_listFactsOf yX1_listFactsOf, Cond.code yX1_listFactsOf cX1_listFactsOf 5 none, Cond.fieldLink RX1 22 "ElCompletion$Closure" "order" "[I", Cond.methodLink RX1 60 yX1_giveByAxiom]
def wsX3_parent_r4 : List Cond := [Cond.instanceMethod yX1_giveByAxiom, Cond.selects RX1 yX1_giveByAxiom yX1_giveByAxiom, Cond.code yX1_giveByAxiom cX1_giveByAxiom 6 none, Cond.methodLink RX1 102 yX1_giveToBoth, Cond.instanceMethod yX1_giveToBoth, Cond.selects RX1 yX1_giveToBoth yX1_giveToBoth, Cond.code yX1_giveToBoth cX1_giveToBoth 7 none, Cond.methodLink RX1 64 yX1_giveToWhatHas, Cond.instanceMethod yX1_giveToWhatHas, Cond.selects RX1 yX1_giveToWhatHas yX1_giveToWhatHas, Cond.code yX1_giveToWhatHas cX1_giveToWhatHas 8 none, Cond.methodLink RX1 105 yX1_giveRole, Cond.instanceMethod yX1_giveRole, Cond.selects RX1 yX1_giveRole yX1_giveRole, Cond.code yX1_giveRole cX1_giveRole 6 none, Cond.methodLink RX1 109 yX1_giveChain, Cond.instanceMethod yX1_giveChain, Cond.selects RX1 yX1_giveChain yX1_giveChain, Cond.code yX1_giveChain cX1_giveChain 10 none, Cond.instanceMethod yX1_parentOf, Cond.selects RX1 yX1_parentOf yX1_parentOf, Cond.code yX1_parentOf cX1_parentOf 5 (some .int), Cond.methodLink RX1 126 yX1_has, Cond.instanceMethod yX1_has]
def wsX3_parent_r5 : List Cond := [Cond.selects RX1 yX1_has yX1_has, Cond.code yX1_has cX1_has 3 (some .boolean), Cond.methodLink RX1 132 yX1_isParent, Cond.instanceMethod yX1_isParent, Cond.selects RX1 yX1_isParent yX1_isParent, Cond.code yX1_isParent cX1_isParent 4 (some .boolean), Cond.methodLink RX1 135 yX1_leastSame, Cond.instanceMethod yX1_leastSame, Cond.selects RX1 yX1_leastSame yX1_leastSame, Cond.code yX1_leastSame cX1_leastSame 3 (some .int), Cond.methodLink RX1 129 yX1_areSame, Cond.instanceMethod yX1_areSame, Cond.selects RX1 yX1_areSame yX1_areSame, Cond.code yX1_areSame cX1_areSame 3 (some .boolean)]
def wsX3_parent : List Cond := .code yX3_parent cX3_parent 3 (some .int) :: ((wsX3_parent_r1 ++ (wsX3_parent_r2 ++ (wsX3_parent_r3 ++ (wsX3_parent_r4 ++ wsX3_parent_r5)))) ++ wsX30 ++ wsX10 ++ wsX00)
def wsX4_thrown : List Cond := .code yX4_thrown cX4_thrown 1 (some .int) :: ([.fieldLink RX4 1 "ElCompletionModel" "thrown" "I"] ++ wsX40)
def wsX4_init : List Cond := .code yX4_init cX4_init 1 none :: ([.methodLink RX4 7 objectInit, .instanceMethod objectInit, .code objectInit ⟨#[0xb1]⟩ 1 none, .fieldLink RX4 13 "ElCompletionModel" "classes" "I", .arrayClass .int, .fieldLink RX4 16 "ElCompletionModel" "axioms" "[I", .fieldLink RX4 20 "ElCompletionModel" "rounds" "[I", .fieldLink RX4 23 "ElCompletionModel" "whys" "[I", .fieldLink RX4 26 "ElCompletionModel" "firsts" "[I", .fieldLink RX4 29 "ElCompletionModel" "seconds" "[I", .fieldLink RX4 32 "ElCompletionModel" "row" "[I", .fieldLink RX4 35 "ElCompletionModel" "proof" "[I", .arrayClass .boolean, .fieldLink RX4 38 "ElCompletionModel" "wanted" "[Z"] ++ wsX40)
def wsX4_isClass : List Cond := .code yX4_isClass cX4_isClass 2 (some .boolean) :: ([.fieldLink RX4 13 "ElCompletionModel" "classes" "I"] ++ wsX40)
def wsX4_isRole : List Cond := .code yX4_isRole cX4_isRole 1 (some .boolean) :: ([])
def wsX4_grow : List Cond := .code yX4_grow cX4_grow 1 (some .int) :: ([.fieldLink RX4 1 "ElCompletionModel" "thrown" "I", .fieldLink RX4 13 "ElCompletionModel" "classes" "I", .fieldLink RX4 42 "ElCompletionModel" "known" "Z"] ++ wsX40)
def wsX4_wants : List Cond := .code yX4_wants cX4_wants 1 (some .int) :: ([])
def wsX4_fits : List Cond := .code yX4_fits cX4_fits 3 (some .boolean) :: ([.methodLink RX4 46 yX4_isClass, .instanceMethod yX4_isClass, .selects RX4 yX4_isClass yX4_isClass, .initialized RX4, .code yX4_isClass cX4_isClass 2 (some .boolean), .fieldLink RX4 13 "ElCompletionModel" "classes" "I", .methodLink RX4 50 yX4_isRole, .static yX4_isRole, .code yX4_isRole cX4_isRole 1 (some .boolean)] ++ wsX40)
def wsX4_axiom : List Cond := .code yX4_axiom cX4_axiom 6 (some .int) :: ([.fieldLink RX4 1 "ElCompletionModel" "thrown" "I", .fieldLink RX4 61 "ElCompletionModel" "count" "I", .fieldLink RX4 16 "ElCompletionModel" "axioms" "[I", .fieldLink RX4 42 "ElCompletionModel" "known" "Z", .methodLink RX4 53 yX4_wants, .static yX4_wants, .initialized RX4, .code yX4_wants cX4_wants 1 (some .int), .methodLink RX4 57 yX4_fits, .instanceMethod yX4_fits, .selects RX4 yX4_fits yX4_fits, .code yX4_fits cX4_fits 3 (some .boolean), .methodLink RX4 46 yX4_isClass, .instanceMethod yX4_isClass, .selects RX4 yX4_isClass yX4_isClass, .code yX4_isClass cX4_isClass 2 (some .boolean), .fieldLink RX4 13 "ElCompletionModel" "classes" "I", .methodLink RX4 50 yX4_isRole, .static yX4_isRole, .code yX4_isRole cX4_isRole 1 (some .boolean)] ++ wsX40)
def wsX4_drop : List Cond := .code yX4_drop cX4_drop 3 (some .int) :: ([.fieldLink RX4 1 "ElCompletionModel" "thrown" "I", .fieldLink RX4 61 "ElCompletionModel" "count" "I", .fieldLink RX4 16 "ElCompletionModel" "axioms" "[I", .fieldLink RX4 42 "ElCompletionModel" "known" "Z"] ++ wsX40)
def wsX4_code : List Cond := .code yX4_code cX4_code 2 (some .int) :: ([])
def wsX4_linked : List Cond := .code yX4_linked cX4_linked 3 (some .int) :: ([])
def wsX4_has : List Cond := .code yX4_has cX4_has 2 (some .boolean) :: ([.fieldLink RX4 20 "ElCompletionModel" "rounds" "[I", .fieldLink RX4 64 "ElCompletionModel" "round" "I"] ++ wsX40)
def wsX4_start : List Cond := .code yX4_start cX4_start 2 none :: ([.fieldLink RX4 20 "ElCompletionModel" "rounds" "[I", .fieldLink RX4 23 "ElCompletionModel" "whys" "[I", .fieldLink RX4 26 "ElCompletionModel" "firsts" "[I", .fieldLink RX4 29 "ElCompletionModel" "seconds" "[I"] ++ wsX40)
def wsX4_give : List Cond := .code yX4_give cX4_give 7 none :: ([.fieldLink RX4 20 "ElCompletionModel" "rounds" "[I", .fieldLink RX4 23 "ElCompletionModel" "whys" "[I", .fieldLink RX4 26 "ElCompletionModel" "firsts" "[I", .fieldLink RX4 29 "ElCompletionModel" "seconds" "[I", .fieldLink RX4 70 "ElCompletionModel" "made" "I", .fieldLink RX4 64 "ElCompletionModel" "round" "I", .methodLink RX4 67 yX4_has, .instanceMethod yX4_has, .selects RX4 yX4_has yX4_has, .initialized RX4, .code yX4_has cX4_has 2 (some .boolean)] ++ wsX40)
def wsX4_two : List Cond := .code yX4_two cX4_two 9 none :: ([.fieldLink RX4 16 "ElCompletionModel" "axioms" "[I", .fieldLink RX4 13 "ElCompletionModel" "classes" "I", .methodLink RX4 81 yX4_linked, .static yX4_linked, .initialized RX4, .code yX4_linked cX4_linked 3 (some .int), .methodLink RX4 73 yX4_code, .static yX4_code, .code yX4_code cX4_code 2 (some .int), .methodLink RX4 77 yX4_give, .instanceMethod yX4_give, .selects RX4 yX4_give yX4_give, .code yX4_give cX4_give 7 none, .fieldLink RX4 20 "ElCompletionModel" "rounds" "[I", .fieldLink RX4 23 "ElCompletionModel" "whys" "[I", .fieldLink RX4 26 "ElCompletionModel" "firsts" "[I", .fieldLink RX4 29 "ElCompletionModel" "seconds" "[I", .fieldLink RX4 70 "ElCompletionModel" "made" "I", .fieldLink RX4 64 "ElCompletionModel" "round" "I", .methodLink RX4 67 yX4_has, .instanceMethod yX4_has, .selects RX4 yX4_has yX4_has, .code yX4_has cX4_has 2 (some .boolean)] ++ wsX40)
def wsX4_one_r1 : List Cond := [Cond.fieldLink RX4 16 "ElCompletionModel" "axioms" "[I", Cond.fieldLink RX4 13 "ElCompletionModel" "classes" "I", Cond.methodLink RX4 73 yX4_code, Cond.static yX4_code, Cond.initialized RX4, Cond.code yX4_code cX4_code 2 (some .int), Cond.methodLink RX4 77 yX4_give, Cond.instanceMethod yX4_give, Cond.selects RX4 yX4_give yX4_give, Cond.code yX4_give cX4_give 7 none, Cond.fieldLink RX4 20 "ElCompletionModel" "rounds" "[I", Cond.fieldLink RX4 23 "ElCompletionModel" "whys" "[I", Cond.fieldLink RX4 26 "ElCompletionModel" "firsts" "[I", Cond.fieldLink RX4 29 "ElCompletionModel" "seconds" "[I", Cond.fieldLink RX4 70 "ElCompletionModel" "made" "I", Cond.fieldLink RX4 64 "ElCompletionModel" "round" "I", Cond.methodLink RX4 67 yX4_has, Cond.instanceMethod yX4_has, Cond.selects RX4 yX4_has yX4_has, Cond.code yX4_has cX4_has 2 (some .boolean), Cond.methodLink RX4 81 yX4_linked, Cond.static yX4_linked, Cond.code yX4_linked cX4_linked 3 (some .int), Cond.methodLink RX4 85 yX4_two]
def wsX4_one_r2 : List Cond := [Cond.instanceMethod yX4_two, Cond.selects RX4 yX4_two yX4_two, Cond.code yX4_two cX4_two 9 none]
def wsX4_one : List Cond := .code yX4_one cX4_one 7 none :: ((wsX4_one_r1 ++ wsX4_one_r2) ++ wsX40)
def wsX4_reckon_r1 : List Cond := [Cond.fieldLink RX4 42 "ElCompletionModel" "known" "Z", Cond.fieldLink RX4 20 "ElCompletionModel" "rounds" "[I", Cond.fieldLink RX4 13 "ElCompletionModel" "classes" "I", Cond.fieldLink RX4 61 "ElCompletionModel" "count" "I", Cond.fieldLink RX4 16 "ElCompletionModel" "axioms" "[I", Cond.fieldLink RX4 64 "ElCompletionModel" "round" "I", Cond.fieldLink RX4 70 "ElCompletionModel" "made" "I", Cond.fieldLink RX4 97 "ElCompletionModel" "found" "I", Cond.fieldLink RX4 32 "ElCompletionModel" "row" "[I", Cond.methodLink RX4 73 yX4_code, Cond.static yX4_code, Cond.initialized RX4, Cond.code yX4_code cX4_code 2 (some .int), Cond.methodLink RX4 89 yX4_start, Cond.instanceMethod yX4_start, Cond.selects RX4 yX4_start yX4_start, Cond.code yX4_start cX4_start 2 none, Cond.fieldLink RX4 23 "ElCompletionModel" "whys" "[I", Cond.fieldLink RX4 26 "ElCompletionModel" "firsts" "[I", Cond.fieldLink RX4 29 "ElCompletionModel" "seconds" "[I", Cond.methodLink RX4 81 yX4_linked, Cond.static yX4_linked, Cond.code yX4_linked cX4_linked 3 (some .int), Cond.methodLink RX4 93 yX4_one]
def wsX4_reckon_r2 : List Cond := [Cond.instanceMethod yX4_one, Cond.selects RX4 yX4_one yX4_one, Cond.code yX4_one cX4_one 7 none, Cond.methodLink RX4 77 yX4_give, Cond.instanceMethod yX4_give, Cond.selects RX4 yX4_give yX4_give, Cond.code yX4_give cX4_give 7 none, Cond.methodLink RX4 67 yX4_has, Cond.instanceMethod yX4_has, Cond.selects RX4 yX4_has yX4_has, Cond.code yX4_has cX4_has 2 (some .boolean), Cond.methodLink RX4 85 yX4_two, Cond.instanceMethod yX4_two, Cond.selects RX4 yX4_two yX4_two, Cond.code yX4_two cX4_two 9 none]
def wsX4_reckon : List Cond := .code yX4_reckon cX4_reckon 4 none :: ((wsX4_reckon_r1 ++ wsX4_reckon_r2) ++ wsX40)
def wsX4_follows_r1 : List Cond := [Cond.fieldLink RX4 20 "ElCompletionModel" "rounds" "[I", Cond.methodLink RX4 100 yX4_reckon, Cond.instanceMethod yX4_reckon, Cond.selects RX4 yX4_reckon yX4_reckon, Cond.initialized RX4, Cond.code yX4_reckon cX4_reckon 4 none, Cond.fieldLink RX4 42 "ElCompletionModel" "known" "Z", Cond.fieldLink RX4 13 "ElCompletionModel" "classes" "I", Cond.fieldLink RX4 61 "ElCompletionModel" "count" "I", Cond.fieldLink RX4 16 "ElCompletionModel" "axioms" "[I", Cond.fieldLink RX4 64 "ElCompletionModel" "round" "I", Cond.fieldLink RX4 70 "ElCompletionModel" "made" "I", Cond.fieldLink RX4 97 "ElCompletionModel" "found" "I", Cond.fieldLink RX4 32 "ElCompletionModel" "row" "[I", Cond.methodLink RX4 73 yX4_code, Cond.static yX4_code, Cond.code yX4_code cX4_code 2 (some .int), Cond.methodLink RX4 89 yX4_start, Cond.instanceMethod yX4_start, Cond.selects RX4 yX4_start yX4_start, Cond.code yX4_start cX4_start 2 none, Cond.fieldLink RX4 23 "ElCompletionModel" "whys" "[I", Cond.fieldLink RX4 26 "ElCompletionModel" "firsts" "[I", Cond.fieldLink RX4 29 "ElCompletionModel" "seconds" "[I"]
def wsX4_follows_r2 : List Cond := [Cond.methodLink RX4 81 yX4_linked, Cond.static yX4_linked, Cond.code yX4_linked cX4_linked 3 (some .int), Cond.methodLink RX4 93 yX4_one, Cond.instanceMethod yX4_one, Cond.selects RX4 yX4_one yX4_one, Cond.code yX4_one cX4_one 7 none, Cond.methodLink RX4 77 yX4_give, Cond.instanceMethod yX4_give, Cond.selects RX4 yX4_give yX4_give, Cond.code yX4_give cX4_give 7 none, Cond.methodLink RX4 67 yX4_has, Cond.instanceMethod yX4_has, Cond.selects RX4 yX4_has yX4_has, Cond.code yX4_has cX4_has 2 (some .boolean), Cond.methodLink RX4 85 yX4_two, Cond.instanceMethod yX4_two, Cond.selects RX4 yX4_two yX4_two, Cond.code yX4_two cX4_two 9 none]
def wsX4_follows : List Cond := .code yX4_follows cX4_follows 2 (some .boolean) :: ((wsX4_follows_r1 ++ wsX4_follows_r2) ++ wsX40)
def wsX4_sub_r1 : List Cond := [Cond.fieldLink RX4 1 "ElCompletionModel" "thrown" "I", Cond.methodLink RX4 46 yX4_isClass, Cond.instanceMethod yX4_isClass, Cond.selects RX4 yX4_isClass yX4_isClass, Cond.initialized RX4, Cond.code yX4_isClass cX4_isClass 2 (some .boolean), Cond.fieldLink RX4 13 "ElCompletionModel" "classes" "I", Cond.methodLink RX4 73 yX4_code, Cond.static yX4_code, Cond.code yX4_code cX4_code 2 (some .int), Cond.methodLink RX4 103 yX4_follows, Cond.instanceMethod yX4_follows, Cond.selects RX4 yX4_follows yX4_follows, Cond.code yX4_follows cX4_follows 2 (some .boolean), Cond.fieldLink RX4 20 "ElCompletionModel" "rounds" "[I", Cond.methodLink RX4 100 yX4_reckon, Cond.instanceMethod yX4_reckon, Cond.selects RX4 yX4_reckon yX4_reckon, Cond.code yX4_reckon cX4_reckon 4 none, Cond.fieldLink RX4 42 "ElCompletionModel" "known" "Z", Cond.fieldLink RX4 61 "ElCompletionModel" "count" "I", Cond.fieldLink RX4 16 "ElCompletionModel" "axioms" "[I", Cond.fieldLink RX4 64 "ElCompletionModel" "round" "I", Cond.fieldLink RX4 70 "ElCompletionModel" "made" "I"]
def wsX4_sub_r2 : List Cond := [Cond.fieldLink RX4 97 "ElCompletionModel" "found" "I", Cond.fieldLink RX4 32 "ElCompletionModel" "row" "[I", Cond.methodLink RX4 89 yX4_start, Cond.instanceMethod yX4_start, Cond.selects RX4 yX4_start yX4_start, Cond.code yX4_start cX4_start 2 none, Cond.fieldLink RX4 23 "ElCompletionModel" "whys" "[I", Cond.fieldLink RX4 26 "ElCompletionModel" "firsts" "[I", Cond.fieldLink RX4 29 "ElCompletionModel" "seconds" "[I", Cond.methodLink RX4 81 yX4_linked, Cond.static yX4_linked, Cond.code yX4_linked cX4_linked 3 (some .int), Cond.methodLink RX4 93 yX4_one, Cond.instanceMethod yX4_one, Cond.selects RX4 yX4_one yX4_one, Cond.code yX4_one cX4_one 7 none, Cond.methodLink RX4 77 yX4_give, Cond.instanceMethod yX4_give, Cond.selects RX4 yX4_give yX4_give, Cond.code yX4_give cX4_give 7 none, Cond.methodLink RX4 67 yX4_has, Cond.instanceMethod yX4_has, Cond.selects RX4 yX4_has yX4_has, Cond.code yX4_has cX4_has 2 (some .boolean)]
def wsX4_sub_r3 : List Cond := [Cond.methodLink RX4 85 yX4_two, Cond.instanceMethod yX4_two, Cond.selects RX4 yX4_two yX4_two, Cond.code yX4_two cX4_two 9 none]
def wsX4_sub : List Cond := .code yX4_sub cX4_sub 3 (some .int) :: ((wsX4_sub_r1 ++ (wsX4_sub_r2 ++ wsX4_sub_r3)) ++ wsX40)
def wsX4_link_r1 : List Cond := [Cond.fieldLink RX4 1 "ElCompletionModel" "thrown" "I", Cond.methodLink RX4 46 yX4_isClass, Cond.instanceMethod yX4_isClass, Cond.selects RX4 yX4_isClass yX4_isClass, Cond.initialized RX4, Cond.code yX4_isClass cX4_isClass 2 (some .boolean), Cond.fieldLink RX4 13 "ElCompletionModel" "classes" "I", Cond.methodLink RX4 50 yX4_isRole, Cond.static yX4_isRole, Cond.code yX4_isRole cX4_isRole 1 (some .boolean), Cond.methodLink RX4 81 yX4_linked, Cond.static yX4_linked, Cond.code yX4_linked cX4_linked 3 (some .int), Cond.methodLink RX4 103 yX4_follows, Cond.instanceMethod yX4_follows, Cond.selects RX4 yX4_follows yX4_follows, Cond.code yX4_follows cX4_follows 2 (some .boolean), Cond.fieldLink RX4 20 "ElCompletionModel" "rounds" "[I", Cond.methodLink RX4 100 yX4_reckon, Cond.instanceMethod yX4_reckon, Cond.selects RX4 yX4_reckon yX4_reckon, Cond.code yX4_reckon cX4_reckon 4 none, Cond.fieldLink RX4 42 "ElCompletionModel" "known" "Z", Cond.fieldLink RX4 61 "ElCompletionModel" "count" "I"]
def wsX4_link_r2 : List Cond := [Cond.fieldLink RX4 16 "ElCompletionModel" "axioms" "[I", Cond.fieldLink RX4 64 "ElCompletionModel" "round" "I", Cond.fieldLink RX4 70 "ElCompletionModel" "made" "I", Cond.fieldLink RX4 97 "ElCompletionModel" "found" "I", Cond.fieldLink RX4 32 "ElCompletionModel" "row" "[I", Cond.methodLink RX4 73 yX4_code, Cond.static yX4_code, Cond.code yX4_code cX4_code 2 (some .int), Cond.methodLink RX4 89 yX4_start, Cond.instanceMethod yX4_start, Cond.selects RX4 yX4_start yX4_start, Cond.code yX4_start cX4_start 2 none, Cond.fieldLink RX4 23 "ElCompletionModel" "whys" "[I", Cond.fieldLink RX4 26 "ElCompletionModel" "firsts" "[I", Cond.fieldLink RX4 29 "ElCompletionModel" "seconds" "[I", Cond.methodLink RX4 93 yX4_one, Cond.instanceMethod yX4_one, Cond.selects RX4 yX4_one yX4_one, Cond.code yX4_one cX4_one 7 none, Cond.methodLink RX4 77 yX4_give, Cond.instanceMethod yX4_give, Cond.selects RX4 yX4_give yX4_give, Cond.code yX4_give cX4_give 7 none, Cond.methodLink RX4 67 yX4_has]
def wsX4_link_r3 : List Cond := [Cond.instanceMethod yX4_has, Cond.selects RX4 yX4_has yX4_has, Cond.code yX4_has cX4_has 2 (some .boolean), Cond.methodLink RX4 85 yX4_two, Cond.instanceMethod yX4_two, Cond.selects RX4 yX4_two yX4_two, Cond.code yX4_two cX4_two 9 none]
def wsX4_link : List Cond := .code yX4_link cX4_link 4 (some .int) :: ((wsX4_link_r1 ++ (wsX4_link_r2 ++ wsX4_link_r3)) ++ wsX40)
def wsX4_rounds_r1 : List Cond := [Cond.fieldLink RX4 1 "ElCompletionModel" "thrown" "I", Cond.fieldLink RX4 64 "ElCompletionModel" "round" "I", Cond.methodLink RX4 100 yX4_reckon, Cond.instanceMethod yX4_reckon, Cond.selects RX4 yX4_reckon yX4_reckon, Cond.initialized RX4, Cond.code yX4_reckon cX4_reckon 4 none, Cond.fieldLink RX4 42 "ElCompletionModel" "known" "Z", Cond.fieldLink RX4 20 "ElCompletionModel" "rounds" "[I", Cond.fieldLink RX4 13 "ElCompletionModel" "classes" "I", Cond.fieldLink RX4 61 "ElCompletionModel" "count" "I", Cond.fieldLink RX4 16 "ElCompletionModel" "axioms" "[I", Cond.fieldLink RX4 70 "ElCompletionModel" "made" "I", Cond.fieldLink RX4 97 "ElCompletionModel" "found" "I", Cond.fieldLink RX4 32 "ElCompletionModel" "row" "[I", Cond.methodLink RX4 73 yX4_code, Cond.static yX4_code, Cond.code yX4_code cX4_code 2 (some .int), Cond.methodLink RX4 89 yX4_start, Cond.instanceMethod yX4_start, Cond.selects RX4 yX4_start yX4_start, Cond.code yX4_start cX4_start 2 none, Cond.fieldLink RX4 23 "ElCompletionModel" "whys" "[I", Cond.fieldLink RX4 26 "ElCompletionModel" "firsts" "[I"]
def wsX4_rounds_r2 : List Cond := [Cond.fieldLink RX4 29 "ElCompletionModel" "seconds" "[I", Cond.methodLink RX4 81 yX4_linked, Cond.static yX4_linked, Cond.code yX4_linked cX4_linked 3 (some .int), Cond.methodLink RX4 93 yX4_one, Cond.instanceMethod yX4_one, Cond.selects RX4 yX4_one yX4_one, Cond.code yX4_one cX4_one 7 none, Cond.methodLink RX4 77 yX4_give, Cond.instanceMethod yX4_give, Cond.selects RX4 yX4_give yX4_give, Cond.code yX4_give cX4_give 7 none, Cond.methodLink RX4 67 yX4_has, Cond.instanceMethod yX4_has, Cond.selects RX4 yX4_has yX4_has, Cond.code yX4_has cX4_has 2 (some .boolean), Cond.methodLink RX4 85 yX4_two, Cond.instanceMethod yX4_two, Cond.selects RX4 yX4_two yX4_two, Cond.code yX4_two cX4_two 9 none]
def wsX4_rounds : List Cond := .code yX4_rounds cX4_rounds 1 (some .int) :: ((wsX4_rounds_r1 ++ wsX4_rounds_r2) ++ wsX40)
def wsX4_facts_r1 : List Cond := [Cond.fieldLink RX4 1 "ElCompletionModel" "thrown" "I", Cond.fieldLink RX4 97 "ElCompletionModel" "found" "I", Cond.methodLink RX4 100 yX4_reckon, Cond.instanceMethod yX4_reckon, Cond.selects RX4 yX4_reckon yX4_reckon, Cond.initialized RX4, Cond.code yX4_reckon cX4_reckon 4 none, Cond.fieldLink RX4 42 "ElCompletionModel" "known" "Z", Cond.fieldLink RX4 20 "ElCompletionModel" "rounds" "[I", Cond.fieldLink RX4 13 "ElCompletionModel" "classes" "I", Cond.fieldLink RX4 61 "ElCompletionModel" "count" "I", Cond.fieldLink RX4 16 "ElCompletionModel" "axioms" "[I", Cond.fieldLink RX4 64 "ElCompletionModel" "round" "I", Cond.fieldLink RX4 70 "ElCompletionModel" "made" "I", Cond.fieldLink RX4 32 "ElCompletionModel" "row" "[I", Cond.methodLink RX4 73 yX4_code, Cond.static yX4_code, Cond.code yX4_code cX4_code 2 (some .int), Cond.methodLink RX4 89 yX4_start, Cond.instanceMethod yX4_start, Cond.selects RX4 yX4_start yX4_start, Cond.code yX4_start cX4_start 2 none, Cond.fieldLink RX4 23 "ElCompletionModel" "whys" "[I", Cond.fieldLink RX4 26 "ElCompletionModel" "firsts" "[I"]
def wsX4_facts_r2 : List Cond := [Cond.fieldLink RX4 29 "ElCompletionModel" "seconds" "[I", Cond.methodLink RX4 81 yX4_linked, Cond.static yX4_linked, Cond.code yX4_linked cX4_linked 3 (some .int), Cond.methodLink RX4 93 yX4_one, Cond.instanceMethod yX4_one, Cond.selects RX4 yX4_one yX4_one, Cond.code yX4_one cX4_one 7 none, Cond.methodLink RX4 77 yX4_give, Cond.instanceMethod yX4_give, Cond.selects RX4 yX4_give yX4_give, Cond.code yX4_give cX4_give 7 none, Cond.methodLink RX4 67 yX4_has, Cond.instanceMethod yX4_has, Cond.selects RX4 yX4_has yX4_has, Cond.code yX4_has cX4_has 2 (some .boolean), Cond.methodLink RX4 85 yX4_two, Cond.instanceMethod yX4_two, Cond.selects RX4 yX4_two yX4_two, Cond.code yX4_two cX4_two 9 none]
def wsX4_facts : List Cond := .code yX4_facts cX4_facts 1 (some .int) :: ((wsX4_facts_r1 ++ wsX4_facts_r2) ++ wsX40)
def wsX4_fact_r1 : List Cond := [Cond.fieldLink RX4 97 "ElCompletionModel" "found" "I", Cond.fieldLink RX4 1 "ElCompletionModel" "thrown" "I", Cond.fieldLink RX4 32 "ElCompletionModel" "row" "[I", Cond.methodLink RX4 100 yX4_reckon, Cond.instanceMethod yX4_reckon, Cond.selects RX4 yX4_reckon yX4_reckon, Cond.initialized RX4, Cond.code yX4_reckon cX4_reckon 4 none, Cond.fieldLink RX4 42 "ElCompletionModel" "known" "Z", Cond.fieldLink RX4 20 "ElCompletionModel" "rounds" "[I", Cond.fieldLink RX4 13 "ElCompletionModel" "classes" "I", Cond.fieldLink RX4 61 "ElCompletionModel" "count" "I", Cond.fieldLink RX4 16 "ElCompletionModel" "axioms" "[I", Cond.fieldLink RX4 64 "ElCompletionModel" "round" "I", Cond.fieldLink RX4 70 "ElCompletionModel" "made" "I", Cond.methodLink RX4 73 yX4_code, Cond.static yX4_code, Cond.code yX4_code cX4_code 2 (some .int), Cond.methodLink RX4 89 yX4_start, Cond.instanceMethod yX4_start, Cond.selects RX4 yX4_start yX4_start, Cond.code yX4_start cX4_start 2 none, Cond.fieldLink RX4 23 "ElCompletionModel" "whys" "[I", Cond.fieldLink RX4 26 "ElCompletionModel" "firsts" "[I"]
def wsX4_fact_r2 : List Cond := [Cond.fieldLink RX4 29 "ElCompletionModel" "seconds" "[I", Cond.methodLink RX4 81 yX4_linked, Cond.static yX4_linked, Cond.code yX4_linked cX4_linked 3 (some .int), Cond.methodLink RX4 93 yX4_one, Cond.instanceMethod yX4_one, Cond.selects RX4 yX4_one yX4_one, Cond.code yX4_one cX4_one 7 none, Cond.methodLink RX4 77 yX4_give, Cond.instanceMethod yX4_give, Cond.selects RX4 yX4_give yX4_give, Cond.code yX4_give cX4_give 7 none, Cond.methodLink RX4 67 yX4_has, Cond.instanceMethod yX4_has, Cond.selects RX4 yX4_has yX4_has, Cond.code yX4_has cX4_has 2 (some .boolean), Cond.methodLink RX4 85 yX4_two, Cond.instanceMethod yX4_two, Cond.selects RX4 yX4_two yX4_two, Cond.code yX4_two cX4_two 9 none]
def wsX4_fact : List Cond := .code yX4_fact cX4_fact 2 (some .int) :: ((wsX4_fact_r1 ++ wsX4_fact_r2) ++ wsX40)
def wsX4_told_r1 : List Cond := [Cond.fieldLink RX4 1 "ElCompletionModel" "thrown" "I", Cond.fieldLink RX4 20 "ElCompletionModel" "rounds" "[I", Cond.fieldLink RX4 23 "ElCompletionModel" "whys" "[I", Cond.fieldLink RX4 26 "ElCompletionModel" "firsts" "[I", Cond.fieldLink RX4 29 "ElCompletionModel" "seconds" "[I", Cond.methodLink RX4 103 yX4_follows, Cond.instanceMethod yX4_follows, Cond.selects RX4 yX4_follows yX4_follows, Cond.initialized RX4, Cond.code yX4_follows cX4_follows 2 (some .boolean), Cond.methodLink RX4 100 yX4_reckon, Cond.instanceMethod yX4_reckon, Cond.selects RX4 yX4_reckon yX4_reckon, Cond.code yX4_reckon cX4_reckon 4 none, Cond.fieldLink RX4 42 "ElCompletionModel" "known" "Z", Cond.fieldLink RX4 13 "ElCompletionModel" "classes" "I", Cond.fieldLink RX4 61 "ElCompletionModel" "count" "I", Cond.fieldLink RX4 16 "ElCompletionModel" "axioms" "[I", Cond.fieldLink RX4 64 "ElCompletionModel" "round" "I", Cond.fieldLink RX4 70 "ElCompletionModel" "made" "I", Cond.fieldLink RX4 97 "ElCompletionModel" "found" "I", Cond.fieldLink RX4 32 "ElCompletionModel" "row" "[I", Cond.methodLink RX4 73 yX4_code, Cond.static yX4_code]
def wsX4_told_r2 : List Cond := [Cond.code yX4_code cX4_code 2 (some .int), Cond.methodLink RX4 89 yX4_start, Cond.instanceMethod yX4_start, Cond.selects RX4 yX4_start yX4_start, Cond.code yX4_start cX4_start 2 none, Cond.methodLink RX4 81 yX4_linked, Cond.static yX4_linked, Cond.code yX4_linked cX4_linked 3 (some .int), Cond.methodLink RX4 93 yX4_one, Cond.instanceMethod yX4_one, Cond.selects RX4 yX4_one yX4_one, Cond.code yX4_one cX4_one 7 none, Cond.methodLink RX4 77 yX4_give, Cond.instanceMethod yX4_give, Cond.selects RX4 yX4_give yX4_give, Cond.code yX4_give cX4_give 7 none, Cond.methodLink RX4 67 yX4_has, Cond.instanceMethod yX4_has, Cond.selects RX4 yX4_has yX4_has, Cond.code yX4_has cX4_has 2 (some .boolean), Cond.methodLink RX4 85 yX4_two, Cond.instanceMethod yX4_two, Cond.selects RX4 yX4_two yX4_two, Cond.code yX4_two cX4_two 9 none]
def wsX4_told : List Cond := .code yX4_told cX4_told 3 (some .int) :: ((wsX4_told_r1 ++ wsX4_told_r2) ++ wsX40)
def wsX4_want : List Cond := .code yX4_want cX4_want 2 (some .boolean) :: ([.fieldLink RX4 38 "ElCompletionModel" "wanted" "[Z"] ++ wsX40)
def wsX4_trace_r1 : List Cond := [Cond.fieldLink RX4 1 "ElCompletionModel" "thrown" "I", Cond.fieldLink RX4 106 "ElCompletionModel" "proofSize" "I", Cond.fieldLink RX4 38 "ElCompletionModel" "wanted" "[Z", Cond.fieldLink RX4 26 "ElCompletionModel" "firsts" "[I", Cond.fieldLink RX4 29 "ElCompletionModel" "seconds" "[I", Cond.fieldLink RX4 97 "ElCompletionModel" "found" "I", Cond.fieldLink RX4 32 "ElCompletionModel" "row" "[I", Cond.fieldLink RX4 35 "ElCompletionModel" "proof" "[I", Cond.methodLink RX4 103 yX4_follows, Cond.instanceMethod yX4_follows, Cond.selects RX4 yX4_follows yX4_follows, Cond.initialized RX4, Cond.code yX4_follows cX4_follows 2 (some .boolean), Cond.fieldLink RX4 20 "ElCompletionModel" "rounds" "[I", Cond.methodLink RX4 100 yX4_reckon, Cond.instanceMethod yX4_reckon, Cond.selects RX4 yX4_reckon yX4_reckon, Cond.code yX4_reckon cX4_reckon 4 none, Cond.fieldLink RX4 42 "ElCompletionModel" "known" "Z", Cond.fieldLink RX4 13 "ElCompletionModel" "classes" "I", Cond.fieldLink RX4 61 "ElCompletionModel" "count" "I", Cond.fieldLink RX4 16 "ElCompletionModel" "axioms" "[I", Cond.fieldLink RX4 64 "ElCompletionModel" "round" "I", Cond.fieldLink RX4 70 "ElCompletionModel" "made" "I"]
def wsX4_trace_r2 : List Cond := [Cond.methodLink RX4 73 yX4_code, Cond.static yX4_code, Cond.code yX4_code cX4_code 2 (some .int), Cond.methodLink RX4 89 yX4_start, Cond.instanceMethod yX4_start, Cond.selects RX4 yX4_start yX4_start, Cond.code yX4_start cX4_start 2 none, Cond.fieldLink RX4 23 "ElCompletionModel" "whys" "[I", Cond.methodLink RX4 81 yX4_linked, Cond.static yX4_linked, Cond.code yX4_linked cX4_linked 3 (some .int), Cond.methodLink RX4 93 yX4_one, Cond.instanceMethod yX4_one, Cond.selects RX4 yX4_one yX4_one, Cond.code yX4_one cX4_one 7 none, Cond.methodLink RX4 77 yX4_give, Cond.instanceMethod yX4_give, Cond.selects RX4 yX4_give yX4_give, Cond.code yX4_give cX4_give 7 none, Cond.methodLink RX4 67 yX4_has, Cond.instanceMethod yX4_has, Cond.selects RX4 yX4_has yX4_has, Cond.code yX4_has cX4_has 2 (some .boolean), Cond.methodLink RX4 85 yX4_two]
def wsX4_trace_r3 : List Cond := [Cond.instanceMethod yX4_two, Cond.selects RX4 yX4_two yX4_two, Cond.code yX4_two cX4_two 9 none, Cond.methodLink RX4 109 yX4_want, Cond.instanceMethod yX4_want, Cond.selects RX4 yX4_want yX4_want, Cond.code yX4_want cX4_want 2 (some .boolean)]
def wsX4_trace : List Cond := .code yX4_trace cX4_trace 4 (some .int) :: ((wsX4_trace_r1 ++ (wsX4_trace_r2 ++ wsX4_trace_r3)) ++ wsX40)
def wsX4_row : List Cond := .code yX4_row cX4_row 2 (some .int) :: ([.fieldLink RX4 1 "ElCompletionModel" "thrown" "I", .fieldLink RX4 106 "ElCompletionModel" "proofSize" "I", .fieldLink RX4 35 "ElCompletionModel" "proof" "[I"] ++ wsX40)
def wsX4_empty_r1 : List Cond := [Cond.fieldLink RX4 1 "ElCompletionModel" "thrown" "I", Cond.methodLink RX4 112 yX4_sub, Cond.instanceMethod yX4_sub, Cond.selects RX4 yX4_sub yX4_sub, Cond.initialized RX4, Cond.code yX4_sub cX4_sub 3 (some .int), Cond.methodLink RX4 46 yX4_isClass, Cond.instanceMethod yX4_isClass, Cond.selects RX4 yX4_isClass yX4_isClass, Cond.code yX4_isClass cX4_isClass 2 (some .boolean), Cond.fieldLink RX4 13 "ElCompletionModel" "classes" "I", Cond.methodLink RX4 73 yX4_code, Cond.static yX4_code, Cond.code yX4_code cX4_code 2 (some .int), Cond.methodLink RX4 103 yX4_follows, Cond.instanceMethod yX4_follows, Cond.selects RX4 yX4_follows yX4_follows, Cond.code yX4_follows cX4_follows 2 (some .boolean), Cond.fieldLink RX4 20 "ElCompletionModel" "rounds" "[I", Cond.methodLink RX4 100 yX4_reckon, Cond.instanceMethod yX4_reckon, Cond.selects RX4 yX4_reckon yX4_reckon, Cond.code yX4_reckon cX4_reckon 4 none, Cond.fieldLink RX4 42 "ElCompletionModel" "known" "Z"]
def wsX4_empty_r2 : List Cond := [Cond.fieldLink RX4 61 "ElCompletionModel" "count" "I", Cond.fieldLink RX4 16 "ElCompletionModel" "axioms" "[I", Cond.fieldLink RX4 64 "ElCompletionModel" "round" "I", Cond.fieldLink RX4 70 "ElCompletionModel" "made" "I", Cond.fieldLink RX4 97 "ElCompletionModel" "found" "I", Cond.fieldLink RX4 32 "ElCompletionModel" "row" "[I", Cond.methodLink RX4 89 yX4_start, Cond.instanceMethod yX4_start, Cond.selects RX4 yX4_start yX4_start, Cond.code yX4_start cX4_start 2 none, Cond.fieldLink RX4 23 "ElCompletionModel" "whys" "[I", Cond.fieldLink RX4 26 "ElCompletionModel" "firsts" "[I", Cond.fieldLink RX4 29 "ElCompletionModel" "seconds" "[I", Cond.methodLink RX4 81 yX4_linked, Cond.static yX4_linked, Cond.code yX4_linked cX4_linked 3 (some .int), Cond.methodLink RX4 93 yX4_one, Cond.instanceMethod yX4_one, Cond.selects RX4 yX4_one yX4_one, Cond.code yX4_one cX4_one 7 none, Cond.methodLink RX4 77 yX4_give, Cond.instanceMethod yX4_give, Cond.selects RX4 yX4_give yX4_give, Cond.code yX4_give cX4_give 7 none]
def wsX4_empty_r3 : List Cond := [Cond.methodLink RX4 67 yX4_has, Cond.instanceMethod yX4_has, Cond.selects RX4 yX4_has yX4_has, Cond.code yX4_has cX4_has 2 (some .boolean), Cond.methodLink RX4 85 yX4_two, Cond.instanceMethod yX4_two, Cond.selects RX4 yX4_two yX4_two, Cond.code yX4_two cX4_two 9 none]
def wsX4_empty : List Cond := .code yX4_empty cX4_empty 2 (some .int) :: ((wsX4_empty_r1 ++ (wsX4_empty_r2 ++ wsX4_empty_r3)) ++ wsX40)
def wsX4_both_r1 : List Cond := [Cond.methodLink RX4 73 yX4_code, Cond.static yX4_code, Cond.initialized RX4, Cond.code yX4_code cX4_code 2 (some .int), Cond.methodLink RX4 103 yX4_follows, Cond.instanceMethod yX4_follows, Cond.selects RX4 yX4_follows yX4_follows, Cond.code yX4_follows cX4_follows 2 (some .boolean), Cond.fieldLink RX4 20 "ElCompletionModel" "rounds" "[I", Cond.methodLink RX4 100 yX4_reckon, Cond.instanceMethod yX4_reckon, Cond.selects RX4 yX4_reckon yX4_reckon, Cond.code yX4_reckon cX4_reckon 4 none, Cond.fieldLink RX4 42 "ElCompletionModel" "known" "Z", Cond.fieldLink RX4 13 "ElCompletionModel" "classes" "I", Cond.fieldLink RX4 61 "ElCompletionModel" "count" "I", Cond.fieldLink RX4 16 "ElCompletionModel" "axioms" "[I", Cond.fieldLink RX4 64 "ElCompletionModel" "round" "I", Cond.fieldLink RX4 70 "ElCompletionModel" "made" "I", Cond.fieldLink RX4 97 "ElCompletionModel" "found" "I", Cond.fieldLink RX4 32 "ElCompletionModel" "row" "[I", Cond.methodLink RX4 89 yX4_start, Cond.instanceMethod yX4_start, Cond.selects RX4 yX4_start yX4_start]
def wsX4_both_r2 : List Cond := [Cond.code yX4_start cX4_start 2 none, Cond.fieldLink RX4 23 "ElCompletionModel" "whys" "[I", Cond.fieldLink RX4 26 "ElCompletionModel" "firsts" "[I", Cond.fieldLink RX4 29 "ElCompletionModel" "seconds" "[I", Cond.methodLink RX4 81 yX4_linked, Cond.static yX4_linked, Cond.code yX4_linked cX4_linked 3 (some .int), Cond.methodLink RX4 93 yX4_one, Cond.instanceMethod yX4_one, Cond.selects RX4 yX4_one yX4_one, Cond.code yX4_one cX4_one 7 none, Cond.methodLink RX4 77 yX4_give, Cond.instanceMethod yX4_give, Cond.selects RX4 yX4_give yX4_give, Cond.code yX4_give cX4_give 7 none, Cond.methodLink RX4 67 yX4_has, Cond.instanceMethod yX4_has, Cond.selects RX4 yX4_has yX4_has, Cond.code yX4_has cX4_has 2 (some .boolean), Cond.methodLink RX4 85 yX4_two, Cond.instanceMethod yX4_two, Cond.selects RX4 yX4_two yX4_two, Cond.code yX4_two cX4_two 9 none]
def wsX4_both : List Cond := .code yX4_both cX4_both 3 (some .boolean) :: ((wsX4_both_r1 ++ wsX4_both_r2) ++ wsX40)
def wsX4_same_r1 : List Cond := [Cond.fieldLink RX4 1 "ElCompletionModel" "thrown" "I", Cond.methodLink RX4 46 yX4_isClass, Cond.instanceMethod yX4_isClass, Cond.selects RX4 yX4_isClass yX4_isClass, Cond.initialized RX4, Cond.code yX4_isClass cX4_isClass 2 (some .boolean), Cond.fieldLink RX4 13 "ElCompletionModel" "classes" "I", Cond.methodLink RX4 115 yX4_both, Cond.instanceMethod yX4_both, Cond.selects RX4 yX4_both yX4_both, Cond.code yX4_both cX4_both 3 (some .boolean), Cond.methodLink RX4 73 yX4_code, Cond.static yX4_code, Cond.code yX4_code cX4_code 2 (some .int), Cond.methodLink RX4 103 yX4_follows, Cond.instanceMethod yX4_follows, Cond.selects RX4 yX4_follows yX4_follows, Cond.code yX4_follows cX4_follows 2 (some .boolean), Cond.fieldLink RX4 20 "ElCompletionModel" "rounds" "[I", Cond.methodLink RX4 100 yX4_reckon, Cond.instanceMethod yX4_reckon, Cond.selects RX4 yX4_reckon yX4_reckon, Cond.code yX4_reckon cX4_reckon 4 none, Cond.fieldLink RX4 42 "ElCompletionModel" "known" "Z"]
def wsX4_same_r2 : List Cond := [Cond.fieldLink RX4 61 "ElCompletionModel" "count" "I", Cond.fieldLink RX4 16 "ElCompletionModel" "axioms" "[I", Cond.fieldLink RX4 64 "ElCompletionModel" "round" "I", Cond.fieldLink RX4 70 "ElCompletionModel" "made" "I", Cond.fieldLink RX4 97 "ElCompletionModel" "found" "I", Cond.fieldLink RX4 32 "ElCompletionModel" "row" "[I", Cond.methodLink RX4 89 yX4_start, Cond.instanceMethod yX4_start, Cond.selects RX4 yX4_start yX4_start, Cond.code yX4_start cX4_start 2 none, Cond.fieldLink RX4 23 "ElCompletionModel" "whys" "[I", Cond.fieldLink RX4 26 "ElCompletionModel" "firsts" "[I", Cond.fieldLink RX4 29 "ElCompletionModel" "seconds" "[I", Cond.methodLink RX4 81 yX4_linked, Cond.static yX4_linked, Cond.code yX4_linked cX4_linked 3 (some .int), Cond.methodLink RX4 93 yX4_one, Cond.instanceMethod yX4_one, Cond.selects RX4 yX4_one yX4_one, Cond.code yX4_one cX4_one 7 none, Cond.methodLink RX4 77 yX4_give, Cond.instanceMethod yX4_give, Cond.selects RX4 yX4_give yX4_give, Cond.code yX4_give cX4_give 7 none]
def wsX4_same_r3 : List Cond := [Cond.methodLink RX4 67 yX4_has, Cond.instanceMethod yX4_has, Cond.selects RX4 yX4_has yX4_has, Cond.code yX4_has cX4_has 2 (some .boolean), Cond.methodLink RX4 85 yX4_two, Cond.instanceMethod yX4_two, Cond.selects RX4 yX4_two yX4_two, Cond.code yX4_two cX4_two 9 none]
def wsX4_same : List Cond := .code yX4_same cX4_same 3 (some .int) :: ((wsX4_same_r1 ++ (wsX4_same_r2 ++ wsX4_same_r3)) ++ wsX40)
def wsX4_isAbove_r1 : List Cond := [Cond.methodLink RX4 73 yX4_code, Cond.static yX4_code, Cond.initialized RX4, Cond.code yX4_code cX4_code 2 (some .int), Cond.methodLink RX4 103 yX4_follows, Cond.instanceMethod yX4_follows, Cond.selects RX4 yX4_follows yX4_follows, Cond.code yX4_follows cX4_follows 2 (some .boolean), Cond.fieldLink RX4 20 "ElCompletionModel" "rounds" "[I", Cond.methodLink RX4 100 yX4_reckon, Cond.instanceMethod yX4_reckon, Cond.selects RX4 yX4_reckon yX4_reckon, Cond.code yX4_reckon cX4_reckon 4 none, Cond.fieldLink RX4 42 "ElCompletionModel" "known" "Z", Cond.fieldLink RX4 13 "ElCompletionModel" "classes" "I", Cond.fieldLink RX4 61 "ElCompletionModel" "count" "I", Cond.fieldLink RX4 16 "ElCompletionModel" "axioms" "[I", Cond.fieldLink RX4 64 "ElCompletionModel" "round" "I", Cond.fieldLink RX4 70 "ElCompletionModel" "made" "I", Cond.fieldLink RX4 97 "ElCompletionModel" "found" "I", Cond.fieldLink RX4 32 "ElCompletionModel" "row" "[I", Cond.methodLink RX4 89 yX4_start, Cond.instanceMethod yX4_start, Cond.selects RX4 yX4_start yX4_start]
def wsX4_isAbove_r2 : List Cond := [Cond.code yX4_start cX4_start 2 none, Cond.fieldLink RX4 23 "ElCompletionModel" "whys" "[I", Cond.fieldLink RX4 26 "ElCompletionModel" "firsts" "[I", Cond.fieldLink RX4 29 "ElCompletionModel" "seconds" "[I", Cond.methodLink RX4 81 yX4_linked, Cond.static yX4_linked, Cond.code yX4_linked cX4_linked 3 (some .int), Cond.methodLink RX4 93 yX4_one, Cond.instanceMethod yX4_one, Cond.selects RX4 yX4_one yX4_one, Cond.code yX4_one cX4_one 7 none, Cond.methodLink RX4 77 yX4_give, Cond.instanceMethod yX4_give, Cond.selects RX4 yX4_give yX4_give, Cond.code yX4_give cX4_give 7 none, Cond.methodLink RX4 67 yX4_has, Cond.instanceMethod yX4_has, Cond.selects RX4 yX4_has yX4_has, Cond.code yX4_has cX4_has 2 (some .boolean), Cond.methodLink RX4 85 yX4_two, Cond.instanceMethod yX4_two, Cond.selects RX4 yX4_two yX4_two, Cond.code yX4_two cX4_two 9 none, Cond.methodLink RX4 115 yX4_both]
def wsX4_isAbove_r3 : List Cond := [Cond.instanceMethod yX4_both, Cond.selects RX4 yX4_both yX4_both, Cond.code yX4_both cX4_both 3 (some .boolean)]
def wsX4_isAbove : List Cond := .code yX4_isAbove cX4_isAbove 3 (some .boolean) :: ((wsX4_isAbove_r1 ++ (wsX4_isAbove_r2 ++ wsX4_isAbove_r3)) ++ wsX40)
def wsX4_isParent_r1 : List Cond := [Cond.fieldLink RX4 13 "ElCompletionModel" "classes" "I", Cond.methodLink RX4 118 yX4_isAbove, Cond.instanceMethod yX4_isAbove, Cond.selects RX4 yX4_isAbove yX4_isAbove, Cond.initialized RX4, Cond.code yX4_isAbove cX4_isAbove 3 (some .boolean), Cond.methodLink RX4 73 yX4_code, Cond.static yX4_code, Cond.code yX4_code cX4_code 2 (some .int), Cond.methodLink RX4 103 yX4_follows, Cond.instanceMethod yX4_follows, Cond.selects RX4 yX4_follows yX4_follows, Cond.code yX4_follows cX4_follows 2 (some .boolean), Cond.fieldLink RX4 20 "ElCompletionModel" "rounds" "[I", Cond.methodLink RX4 100 yX4_reckon, Cond.instanceMethod yX4_reckon, Cond.selects RX4 yX4_reckon yX4_reckon, Cond.code yX4_reckon cX4_reckon 4 none, Cond.fieldLink RX4 42 "ElCompletionModel" "known" "Z", Cond.fieldLink RX4 61 "ElCompletionModel" "count" "I", Cond.fieldLink RX4 16 "ElCompletionModel" "axioms" "[I", Cond.fieldLink RX4 64 "ElCompletionModel" "round" "I", Cond.fieldLink RX4 70 "ElCompletionModel" "made" "I", Cond.fieldLink RX4 97 "ElCompletionModel" "found" "I"]
def wsX4_isParent_r2 : List Cond := [Cond.fieldLink RX4 32 "ElCompletionModel" "row" "[I", Cond.methodLink RX4 89 yX4_start, Cond.instanceMethod yX4_start, Cond.selects RX4 yX4_start yX4_start, Cond.code yX4_start cX4_start 2 none, Cond.fieldLink RX4 23 "ElCompletionModel" "whys" "[I", Cond.fieldLink RX4 26 "ElCompletionModel" "firsts" "[I", Cond.fieldLink RX4 29 "ElCompletionModel" "seconds" "[I", Cond.methodLink RX4 81 yX4_linked, Cond.static yX4_linked, Cond.code yX4_linked cX4_linked 3 (some .int), Cond.methodLink RX4 93 yX4_one, Cond.instanceMethod yX4_one, Cond.selects RX4 yX4_one yX4_one, Cond.code yX4_one cX4_one 7 none, Cond.methodLink RX4 77 yX4_give, Cond.instanceMethod yX4_give, Cond.selects RX4 yX4_give yX4_give, Cond.code yX4_give cX4_give 7 none, Cond.methodLink RX4 67 yX4_has, Cond.instanceMethod yX4_has, Cond.selects RX4 yX4_has yX4_has, Cond.code yX4_has cX4_has 2 (some .boolean), Cond.methodLink RX4 85 yX4_two]
def wsX4_isParent_r3 : List Cond := [Cond.instanceMethod yX4_two, Cond.selects RX4 yX4_two yX4_two, Cond.code yX4_two cX4_two 9 none, Cond.methodLink RX4 115 yX4_both, Cond.instanceMethod yX4_both, Cond.selects RX4 yX4_both yX4_both, Cond.code yX4_both cX4_both 3 (some .boolean), Cond.methodLink RX4 121 yX4_same, Cond.instanceMethod yX4_same, Cond.selects RX4 yX4_same yX4_same, Cond.code yX4_same cX4_same 3 (some .int), Cond.fieldLink RX4 1 "ElCompletionModel" "thrown" "I", Cond.methodLink RX4 46 yX4_isClass, Cond.instanceMethod yX4_isClass, Cond.selects RX4 yX4_isClass yX4_isClass, Cond.code yX4_isClass cX4_isClass 2 (some .boolean)]
def wsX4_isParent : List Cond := .code yX4_isParent cX4_isParent 4 (some .boolean) :: ((wsX4_isParent_r1 ++ (wsX4_isParent_r2 ++ wsX4_isParent_r3)) ++ wsX40)
def wsX4_parent_r1 : List Cond := [Cond.fieldLink RX4 1 "ElCompletionModel" "thrown" "I", Cond.fieldLink RX4 13 "ElCompletionModel" "classes" "I", Cond.methodLink RX4 46 yX4_isClass, Cond.instanceMethod yX4_isClass, Cond.selects RX4 yX4_isClass yX4_isClass, Cond.initialized RX4, Cond.code yX4_isClass cX4_isClass 2 (some .boolean), Cond.methodLink RX4 73 yX4_code, Cond.static yX4_code, Cond.code yX4_code cX4_code 2 (some .int), Cond.methodLink RX4 103 yX4_follows, Cond.instanceMethod yX4_follows, Cond.selects RX4 yX4_follows yX4_follows, Cond.code yX4_follows cX4_follows 2 (some .boolean), Cond.fieldLink RX4 20 "ElCompletionModel" "rounds" "[I", Cond.methodLink RX4 100 yX4_reckon, Cond.instanceMethod yX4_reckon, Cond.selects RX4 yX4_reckon yX4_reckon, Cond.code yX4_reckon cX4_reckon 4 none, Cond.fieldLink RX4 42 "ElCompletionModel" "known" "Z", Cond.fieldLink RX4 61 "ElCompletionModel" "count" "I", Cond.fieldLink RX4 16 "ElCompletionModel" "axioms" "[I", Cond.fieldLink RX4 64 "ElCompletionModel" "round" "I", Cond.fieldLink RX4 70 "ElCompletionModel" "made" "I"]
def wsX4_parent_r2 : List Cond := [Cond.fieldLink RX4 97 "ElCompletionModel" "found" "I", Cond.fieldLink RX4 32 "ElCompletionModel" "row" "[I", Cond.methodLink RX4 89 yX4_start, Cond.instanceMethod yX4_start, Cond.selects RX4 yX4_start yX4_start, Cond.code yX4_start cX4_start 2 none, Cond.fieldLink RX4 23 "ElCompletionModel" "whys" "[I", Cond.fieldLink RX4 26 "ElCompletionModel" "firsts" "[I", Cond.fieldLink RX4 29 "ElCompletionModel" "seconds" "[I", Cond.methodLink RX4 81 yX4_linked, Cond.static yX4_linked, Cond.code yX4_linked cX4_linked 3 (some .int), Cond.methodLink RX4 93 yX4_one, Cond.instanceMethod yX4_one, Cond.selects RX4 yX4_one yX4_one, Cond.code yX4_one cX4_one 7 none, Cond.methodLink RX4 77 yX4_give, Cond.instanceMethod yX4_give, Cond.selects RX4 yX4_give yX4_give, Cond.code yX4_give cX4_give 7 none, Cond.methodLink RX4 67 yX4_has, Cond.instanceMethod yX4_has, Cond.selects RX4 yX4_has yX4_has, Cond.code yX4_has cX4_has 2 (some .boolean)]
def wsX4_parent_r3 : List Cond := [Cond.methodLink RX4 85 yX4_two, Cond.instanceMethod yX4_two, Cond.selects RX4 yX4_two yX4_two, Cond.code yX4_two cX4_two 9 none, Cond.methodLink RX4 124 yX4_isParent, Cond.instanceMethod yX4_isParent, Cond.selects RX4 yX4_isParent yX4_isParent, Cond.code yX4_isParent cX4_isParent 4 (some .boolean), Cond.methodLink RX4 118 yX4_isAbove, Cond.instanceMethod yX4_isAbove, Cond.selects RX4 yX4_isAbove yX4_isAbove, Cond.code yX4_isAbove cX4_isAbove 3 (some .boolean), Cond.methodLink RX4 115 yX4_both, Cond.instanceMethod yX4_both, Cond.selects RX4 yX4_both yX4_both, Cond.code yX4_both cX4_both 3 (some .boolean), Cond.methodLink RX4 121 yX4_same, Cond.instanceMethod yX4_same, Cond.selects RX4 yX4_same yX4_same, Cond.code yX4_same cX4_same 3 (some .int)]
def wsX4_parent : List Cond := .code yX4_parent cX4_parent 5 (some .int) :: ((wsX4_parent_r1 ++ (wsX4_parent_r2 ++ wsX4_parent_r3)) ++ wsX40)
def wsJx00060_init_a7421 : List Cond := .code yJx00060_init_a7421 cJx00060_init_a7421 2 none :: ([])
def wsL_fact_r1 : List Cond := [Cond.methodLink RL 7 yX3_fact, Cond.instanceMethod yX3_fact, Cond.selects RX3 yX3_fact yX3_fact, Cond.initialized RX3, Cond.code yX3_fact cX3_fact 3 (some .int), Cond.classLink RX3 78 RJx00060, Cond.instantiable RJx00060 6, Cond.initialized RJx00060, Cond.methodLink RX3 57 yX3_closed, Cond.instanceMethod yX3_closed, Cond.selects RX3 yX3_closed yX3_closed, Cond.code yX3_closed cX3_closed 1 (some (.object "ElCompletion$Closure")), Cond.fieldLink RX3 34 "ElCompletion" "stale" "Z", Cond.fieldLink RX3 19 "ElCompletion" "closure" "LElCompletion$Closure;", Cond.fieldLink RX3 12 "ElCompletion" "axioms" "LElCompletion$Axioms;", Cond.fieldLink RX3 30 "ElCompletion" "classCount" "I", Cond.instanceMethod yX1_fill, Cond.initialized RX1, Cond.selects RX1 yX1_fill yX1_fill, Cond.code yX1_fill cX1_fill 5 none, Cond.fieldLink RX1 35 "ElCompletion$Closure" "gainers" "I", Cond.fieldLink RX1 15 "ElCompletion$Closure" "now" "[I", Cond.fieldLink RX1 9 "ElCompletion$Closure" "before" "[I", Cond.methodLink RX1 49 arraycopyName]
def wsL_fact_r2 : List Cond := [Cond.native arraycopyName, Cond.static arraycopyName, Cond.initialized "java/lang/System", Cond.methodLink RX1 38 yX1_clear, Cond.instanceMethod yX1_clear, Cond.selects RX1 yX1_clear yX1_clear, Cond.code yX1_clear cX1_clear 2 none, Cond.fieldLink RX1 18 "ElCompletion$Closure" "grounds" "[J", Cond.constantLong RX1 74 (-1), Cond.fieldLink RX1 25 "ElCompletion$Closure" "classCount" "I", Cond.fieldLink RX1 29 "ElCompletion$Closure" "factCount" "I", Cond.fieldLink RX1 32 "ElCompletion$Closure" "roundCount" "I", Cond.methodLink RX1 68 yJ7_fill_53178, Cond.static yJ7_fill_53178, Cond.initialized RJ7, Cond.code yJ7_fill_53178 cJ7_fill_53178 4 none, Cond.methodLink RX1 76 yJ7_fill_d0a16, Cond.static yJ7_fill_d0a16, Cond.code yJ7_fill_d0a16 cJ7_fill_d0a16 5 none, Cond.methodLink RX1 42 yX1_giveAtFirst, Cond.instanceMethod yX1_giveAtFirst, Cond.selects RX1 yX1_giveAtFirst yX1_giveAtFirst, Cond.code yX1_giveAtFirst cX1_giveAtFirst 3 none, Cond.methodLink RX1 79 yX1_give]
def wsL_fact_r3 : List Cond := [Cond.instanceMethod yX1_give, Cond.selects RX1 yX1_give yX1_give, Cond.code yX1_give cX1_give 9 none, Cond.static yX3_isIn, Cond.code yX3_isIn cX3_isIn 2 (some .boolean), Cond.static yX3_codeOf, Cond.code yX3_codeOf cX3_codeOf 2 (some .int), Cond.methodLink RX1 89 yX1_giveOfItself, Cond.instanceMethod yX1_giveOfItself, Cond.selects RX1 yX1_giveOfItself yX1_giveOfItself, Cond.code yX1_giveOfItself cX1_giveOfItself 3 none, Cond.static yX3_linkColumn, Cond.code yX3_linkColumn cX3_linkColumn 2 (some .int), Cond.methodLink RX1 46 yX1_endRound, Cond.instanceMethod yX1_endRound, Cond.selects RX1 yX1_endRound yX1_endRound, Cond.code yX1_endRound cX1_endRound 1 none, Cond.methodLink RX1 119 yX1_listColumns, Cond.instanceMethod yX1_listColumns, Cond.selects RX1 yX1_listColumns yX1_listColumns, Cond.code yX1_listColumns cX1_listColumns 4 none, Cond.methodLink RX1 123 yX1_listFactsOf, Cond.instanceMethod yX1_listFactsOf, Cond.selects RX1 yX1_listFactsOf yX1_listFactsOf]
def wsL_fact_r4 : List Cond := [Cond.code yX1_listFactsOf cX1_listFactsOf 5 none, Cond.fieldLink RX1 22 "ElCompletion$Closure" "order" "[I", Cond.methodLink RX1 60 yX1_giveByAxiom, Cond.instanceMethod yX1_giveByAxiom, Cond.selects RX1 yX1_giveByAxiom yX1_giveByAxiom, Cond.code yX1_giveByAxiom cX1_giveByAxiom 6 none, Cond.methodLink RX1 102 yX1_giveToBoth, Cond.instanceMethod yX1_giveToBoth, Cond.selects RX1 yX1_giveToBoth yX1_giveToBoth, Cond.code yX1_giveToBoth cX1_giveToBoth 7 none, Cond.methodLink RX1 64 yX1_giveToWhatHas, Cond.instanceMethod yX1_giveToWhatHas, Cond.selects RX1 yX1_giveToWhatHas yX1_giveToWhatHas, Cond.code yX1_giveToWhatHas cX1_giveToWhatHas 8 none, Cond.methodLink RX1 105 yX1_giveRole, Cond.instanceMethod yX1_giveRole, Cond.selects RX1 yX1_giveRole yX1_giveRole, Cond.code yX1_giveRole cX1_giveRole 6 none, Cond.methodLink RX1 109 yX1_giveChain, Cond.instanceMethod yX1_giveChain, Cond.selects RX1 yX1_giveChain yX1_giveChain, Cond.code yX1_giveChain cX1_giveChain 10 none]
def wsL_fact : List Cond := .codeWith yL_fact cL_fact 4 (some .int) [(0, 9, 12, 13)] :: ((wsL_fact_r1 ++ (wsL_fact_r2 ++ (wsL_fact_r3 ++ wsL_fact_r4))) ++ wsX10 ++ wsJx000600 ++ wsX30 ++ wsX00)
def wsL_law_r1 : List Cond := [Cond.classLink RL 8 RX3, Cond.instantiable RX3 5, Cond.initialized RX3, Cond.classLink RL 16 RX4, Cond.instantiable RX4 16, Cond.initialized RX4, Cond.arrayClass .long, Cond.methodLink RL 15 yX3_init, Cond.instanceMethod yX3_init, Cond.code yX3_init cX3_init 1 none, Cond.methodLink RX3 3 objectInit, Cond.instanceMethod objectInit, Cond.code objectInit ⟨#[0xb1]⟩ 1 none, Cond.classLink RX3 9 RX0, Cond.instantiable RX0 5, Cond.initialized RX0, Cond.fieldLink RX3 12 "ElCompletion" "axioms" "LElCompletion$Axioms;", Cond.classLink RX3 16 RX1, Cond.instantiable RX1 8, Cond.initialized RX1, Cond.fieldLink RX3 19 "ElCompletion" "closure" "LElCompletion$Closure;", Cond.classLink RX3 23 RX2, Cond.instantiable RX2 3, Cond.initialized RX2]
def wsL_law_r2 : List Cond := [Cond.fieldLink RX3 26 "ElCompletion" "proof" "LElCompletion$Proof;", Cond.fieldLink RX3 30 "ElCompletion" "classCount" "I", Cond.fieldLink RX3 34 "ElCompletion" "stale" "Z", Cond.instanceMethod yX0_init, Cond.code yX0_init cX0_init 1 none, Cond.methodLink RX0 3 objectInit, Cond.arrayClass .int, Cond.fieldLink RX0 9 "ElCompletion$Axioms" "kind" "[I", Cond.fieldLink RX0 15 "ElCompletion$Axioms" "a" "[I", Cond.fieldLink RX0 18 "ElCompletion$Axioms" "b" "[I", Cond.fieldLink RX0 21 "ElCompletion$Axioms" "c" "[I", Cond.fieldLink RX0 24 "ElCompletion$Axioms" "count" "I", Cond.instanceMethod yX1_init, Cond.code yX1_init cX1_init 1 none, Cond.methodLink RX1 3 objectInit, Cond.fieldLink RX1 9 "ElCompletion$Closure" "before" "[I", Cond.fieldLink RX1 15 "ElCompletion$Closure" "now" "[I", Cond.fieldLink RX1 18 "ElCompletion$Closure" "grounds" "[J", Cond.fieldLink RX1 22 "ElCompletion$Closure" "order" "[I", Cond.fieldLink RX1 25 "ElCompletion$Closure" "classCount" "I", Cond.fieldLink RX1 29 "ElCompletion$Closure" "factCount" "I", Cond.fieldLink RX1 32 "ElCompletion$Closure" "roundCount" "I", Cond.fieldLink RX1 35 "ElCompletion$Closure" "gainers" "I", Cond.instanceMethod yX2_init]
def wsL_law_r3 : List Cond := [Cond.code yX2_init cX2_init 1 none, Cond.methodLink RX2 3 objectInit, Cond.fieldLink RX2 9 "ElCompletion$Proof" "rows" "[I", Cond.fieldLink RX2 15 "ElCompletion$Proof" "needed" "[J", Cond.fieldLink RX2 19 "ElCompletion$Proof" "count" "I", Cond.methodLink RL 18 yX4_init, Cond.instanceMethod yX4_init, Cond.code yX4_init cX4_init 1 none, Cond.methodLink RX4 7 objectInit, Cond.fieldLink RX4 13 "ElCompletionModel" "classes" "I", Cond.fieldLink RX4 16 "ElCompletionModel" "axioms" "[I", Cond.fieldLink RX4 20 "ElCompletionModel" "rounds" "[I", Cond.fieldLink RX4 23 "ElCompletionModel" "whys" "[I", Cond.fieldLink RX4 26 "ElCompletionModel" "firsts" "[I", Cond.fieldLink RX4 29 "ElCompletionModel" "seconds" "[I", Cond.fieldLink RX4 32 "ElCompletionModel" "row" "[I", Cond.fieldLink RX4 35 "ElCompletionModel" "proof" "[I", Cond.arrayClass .boolean, Cond.fieldLink RX4 38 "ElCompletionModel" "wanted" "[Z", Cond.methodLink RL 19 yX3_grow, Cond.instanceMethod yX3_grow, Cond.selects RX3 yX3_grow yX3_grow, Cond.code yX3_grow cX3_grow 1 (some .int), Cond.methodLink RL 23 yX4_grow]
def wsL_law_r4 : List Cond := [Cond.instanceMethod yX4_grow, Cond.selects RX4 yX4_grow yX4_grow, Cond.code yX4_grow cX4_grow 1 (some .int), Cond.fieldLink RX4 1 "ElCompletionModel" "thrown" "I", Cond.fieldLink RX4 42 "ElCompletionModel" "known" "Z", Cond.methodLink RL 24 yX3_axiom, Cond.instanceMethod yX3_axiom, Cond.selects RX3 yX3_axiom yX3_axiom, Cond.code yX3_axiom cX3_axiom 5 (some .int), Cond.methodLink RX3 38 yX3_isAxiom, Cond.instanceMethod yX3_isAxiom, Cond.selects RX3 yX3_isAxiom yX3_isAxiom, Cond.code yX3_isAxiom cX3_isAxiom 5 (some .boolean), Cond.methodLink RX3 53 yX3_isClass, Cond.instanceMethod yX3_isClass, Cond.selects RX3 yX3_isClass yX3_isClass, Cond.code yX3_isClass cX3_isClass 2 (some .boolean), Cond.methodLink RX3 65 yX3_isRole, Cond.static yX3_isRole, Cond.code yX3_isRole cX3_isRole 1 (some .boolean), Cond.instanceMethod yX0_append, Cond.selects RX0 yX0_append yX0_append, Cond.code yX0_append cX0_append 5 (some .int), Cond.methodLink RL 28 yX4_axiom]
def wsL_law_r5 : List Cond := [Cond.instanceMethod yX4_axiom, Cond.selects RX4 yX4_axiom yX4_axiom, Cond.code yX4_axiom cX4_axiom 6 (some .int), Cond.fieldLink RX4 61 "ElCompletionModel" "count" "I", Cond.methodLink RX4 53 yX4_wants, Cond.static yX4_wants, Cond.code yX4_wants cX4_wants 1 (some .int), Cond.methodLink RX4 57 yX4_fits, Cond.instanceMethod yX4_fits, Cond.selects RX4 yX4_fits yX4_fits, Cond.code yX4_fits cX4_fits 3 (some .boolean), Cond.methodLink RX4 46 yX4_isClass, Cond.instanceMethod yX4_isClass, Cond.selects RX4 yX4_isClass yX4_isClass, Cond.code yX4_isClass cX4_isClass 2 (some .boolean), Cond.methodLink RX4 50 yX4_isRole, Cond.static yX4_isRole, Cond.code yX4_isRole cX4_isRole 1 (some .boolean), Cond.methodLink RL 29 yX3_drop, Cond.instanceMethod yX3_drop, Cond.selects RX3 yX3_drop yX3_drop, Cond.code yX3_drop cX3_drop 2 (some .int), Cond.instanceMethod yX0_remove, Cond.selects RX0 yX0_remove yX0_remove]
def wsL_law_r6 : List Cond := [Cond.code yX0_remove cX0_remove 2 (some .int), Cond.methodLink RX0 28 yX0_closeGap, Cond.instanceMethod yX0_closeGap, Cond.selects RX0 yX0_closeGap yX0_closeGap, Cond.code yX0_closeGap cX0_closeGap 3 none, Cond.methodLink RX0 32 arraycopyName, Cond.native arraycopyName, Cond.static arraycopyName, Cond.initialized "java/lang/System", Cond.methodLink RL 32 yX4_drop, Cond.instanceMethod yX4_drop, Cond.selects RX4 yX4_drop yX4_drop, Cond.code yX4_drop cX4_drop 3 (some .int), Cond.methodLink RL 33 yX3_sub, Cond.instanceMethod yX3_sub, Cond.selects RX3 yX3_sub yX3_sub, Cond.code yX3_sub cX3_sub 3 (some .int), Cond.methodLink RX3 57 yX3_closed, Cond.instanceMethod yX3_closed, Cond.selects RX3 yX3_closed yX3_closed, Cond.code yX3_closed cX3_closed 1 (some (.object "ElCompletion$Closure")), Cond.instanceMethod yX1_fill, Cond.selects RX1 yX1_fill yX1_fill, Cond.code yX1_fill cX1_fill 5 none]
def wsL_law_r7 : List Cond := [Cond.methodLink RX1 49 arraycopyName, Cond.methodLink RX1 38 yX1_clear, Cond.instanceMethod yX1_clear, Cond.selects RX1 yX1_clear yX1_clear, Cond.code yX1_clear cX1_clear 2 none, Cond.constantLong RX1 74 (-1), Cond.methodLink RX1 68 yJ7_fill_53178, Cond.static yJ7_fill_53178, Cond.initialized RJ7, Cond.code yJ7_fill_53178 cJ7_fill_53178 4 none, Cond.methodLink RX1 76 yJ7_fill_d0a16, Cond.static yJ7_fill_d0a16, Cond.code yJ7_fill_d0a16 cJ7_fill_d0a16 5 none, Cond.methodLink RX1 42 yX1_giveAtFirst, Cond.instanceMethod yX1_giveAtFirst, Cond.selects RX1 yX1_giveAtFirst yX1_giveAtFirst, Cond.code yX1_giveAtFirst cX1_giveAtFirst 3 none, Cond.methodLink RX1 79 yX1_give, Cond.instanceMethod yX1_give, Cond.selects RX1 yX1_give yX1_give, Cond.code yX1_give cX1_give 9 none, Cond.static yX3_isIn, Cond.code yX3_isIn cX3_isIn 2 (some .boolean), Cond.static yX3_codeOf]
def wsL_law_r8 : List Cond := [Cond.code yX3_codeOf cX3_codeOf 2 (some .int), Cond.methodLink RX1 89 yX1_giveOfItself, Cond.instanceMethod yX1_giveOfItself, Cond.selects RX1 yX1_giveOfItself yX1_giveOfItself, Cond.code yX1_giveOfItself cX1_giveOfItself 3 none, Cond.static yX3_linkColumn, Cond.code yX3_linkColumn cX3_linkColumn 2 (some .int), Cond.methodLink RX1 46 yX1_endRound, Cond.instanceMethod yX1_endRound, Cond.selects RX1 yX1_endRound yX1_endRound, Cond.code yX1_endRound cX1_endRound 1 none, Cond.methodLink RX1 119 yX1_listColumns, Cond.instanceMethod yX1_listColumns, Cond.selects RX1 yX1_listColumns yX1_listColumns, Cond.code yX1_listColumns cX1_listColumns 4 none, Cond.methodLink RX1 123 yX1_listFactsOf, Cond.instanceMethod yX1_listFactsOf, Cond.selects RX1 yX1_listFactsOf yX1_listFactsOf, Cond.code yX1_listFactsOf cX1_listFactsOf 5 none, Cond.methodLink RX1 60 yX1_giveByAxiom, Cond.instanceMethod yX1_giveByAxiom, Cond.selects RX1 yX1_giveByAxiom yX1_giveByAxiom, Cond.code yX1_giveByAxiom cX1_giveByAxiom 6 none, Cond.methodLink RX1 102 yX1_giveToBoth]
def wsL_law_r9 : List Cond := [Cond.instanceMethod yX1_giveToBoth, Cond.selects RX1 yX1_giveToBoth yX1_giveToBoth, Cond.code yX1_giveToBoth cX1_giveToBoth 7 none, Cond.methodLink RX1 64 yX1_giveToWhatHas, Cond.instanceMethod yX1_giveToWhatHas, Cond.selects RX1 yX1_giveToWhatHas yX1_giveToWhatHas, Cond.code yX1_giveToWhatHas cX1_giveToWhatHas 8 none, Cond.methodLink RX1 105 yX1_giveRole, Cond.instanceMethod yX1_giveRole, Cond.selects RX1 yX1_giveRole yX1_giveRole, Cond.code yX1_giveRole cX1_giveRole 6 none, Cond.methodLink RX1 109 yX1_giveChain, Cond.instanceMethod yX1_giveChain, Cond.selects RX1 yX1_giveChain yX1_giveChain, Cond.code yX1_giveChain cX1_giveChain 10 none, Cond.instanceMethod yX1_has, Cond.selects RX1 yX1_has yX1_has, Cond.code yX1_has cX1_has 3 (some .boolean), Cond.methodLink RL 37 yX4_sub, Cond.instanceMethod yX4_sub, Cond.selects RX4 yX4_sub yX4_sub, Cond.code yX4_sub cX4_sub 3 (some .int), Cond.methodLink RX4 73 yX4_code, Cond.static yX4_code]
def wsL_law_r10 : List Cond := [Cond.code yX4_code cX4_code 2 (some .int), Cond.methodLink RX4 103 yX4_follows, Cond.instanceMethod yX4_follows, Cond.selects RX4 yX4_follows yX4_follows, Cond.code yX4_follows cX4_follows 2 (some .boolean), Cond.methodLink RX4 100 yX4_reckon, Cond.instanceMethod yX4_reckon, Cond.selects RX4 yX4_reckon yX4_reckon, Cond.code yX4_reckon cX4_reckon 4 none, Cond.fieldLink RX4 64 "ElCompletionModel" "round" "I", Cond.fieldLink RX4 70 "ElCompletionModel" "made" "I", Cond.fieldLink RX4 97 "ElCompletionModel" "found" "I", Cond.methodLink RX4 89 yX4_start, Cond.instanceMethod yX4_start, Cond.selects RX4 yX4_start yX4_start, Cond.code yX4_start cX4_start 2 none, Cond.methodLink RX4 81 yX4_linked, Cond.static yX4_linked, Cond.code yX4_linked cX4_linked 3 (some .int), Cond.methodLink RX4 93 yX4_one, Cond.instanceMethod yX4_one, Cond.selects RX4 yX4_one yX4_one, Cond.code yX4_one cX4_one 7 none, Cond.methodLink RX4 77 yX4_give]
def wsL_law_r11 : List Cond := [Cond.instanceMethod yX4_give, Cond.selects RX4 yX4_give yX4_give, Cond.code yX4_give cX4_give 7 none, Cond.methodLink RX4 67 yX4_has, Cond.instanceMethod yX4_has, Cond.selects RX4 yX4_has yX4_has, Cond.code yX4_has cX4_has 2 (some .boolean), Cond.methodLink RX4 85 yX4_two, Cond.instanceMethod yX4_two, Cond.selects RX4 yX4_two yX4_two, Cond.code yX4_two cX4_two 9 none, Cond.methodLink RL 38 yX3_link, Cond.instanceMethod yX3_link, Cond.selects RX3 yX3_link yX3_link, Cond.code yX3_link cX3_link 4 (some .int), Cond.methodLink RX3 68 yX3_linkColumn, Cond.methodLink RL 42 yX4_link, Cond.instanceMethod yX4_link, Cond.selects RX4 yX4_link yX4_link, Cond.code yX4_link cX4_link 4 (some .int), Cond.methodLink RL 43 yX3_rounds, Cond.instanceMethod yX3_rounds, Cond.selects RX3 yX3_rounds yX3_rounds, Cond.code yX3_rounds cX3_rounds 1 (some .int)]
def wsL_law_r12 : List Cond := [Cond.methodLink RL 46 yX4_rounds, Cond.instanceMethod yX4_rounds, Cond.selects RX4 yX4_rounds yX4_rounds, Cond.code yX4_rounds cX4_rounds 1 (some .int), Cond.methodLink RL 47 yX3_facts, Cond.instanceMethod yX3_facts, Cond.selects RX3 yX3_facts yX3_facts, Cond.code yX3_facts cX3_facts 1 (some .int), Cond.methodLink RL 50 yX4_facts, Cond.instanceMethod yX4_facts, Cond.selects RX4 yX4_facts yX4_facts, Cond.code yX4_facts cX4_facts 1 (some .int), Cond.methodLink RL 51 yL_fact, Cond.static yL_fact, Cond.initialized RL, Cond.codeWith yL_fact cL_fact 4 (some .int) [(0, 9, 12, 13)], Cond.methodLink RL 7 yX3_fact, Cond.instanceMethod yX3_fact, Cond.selects RX3 yX3_fact yX3_fact, Cond.code yX3_fact cX3_fact 3 (some .int), Cond.classLink RX3 78 RJx00060, Cond.instantiable RJx00060 6, Cond.initialized RJx00060, Cond.methodLink RL 56 yX4_fact]
def wsL_law_r13 : List Cond := [Cond.instanceMethod yX4_fact, Cond.selects RX4 yX4_fact yX4_fact, Cond.code yX4_fact cX4_fact 2 (some .int), Cond.methodLink RL 57 yX4_thrown, Cond.instanceMethod yX4_thrown, Cond.selects RX4 yX4_thrown yX4_thrown, Cond.code yX4_thrown cX4_thrown 1 (some .int), Cond.methodLink RL 60 yX3_told, Cond.instanceMethod yX3_told, Cond.selects RX3 yX3_told yX3_told, Cond.code yX3_told cX3_told 4 (some .int), Cond.instanceMethod yX1_follows, Cond.selects RX1 yX1_follows yX1_follows, Cond.code yX1_follows cX1_follows 2 (some .boolean), Cond.instanceMethod yX1_roundOf, Cond.selects RX1 yX1_roundOf yX1_roundOf, Cond.code yX1_roundOf cX1_roundOf 2 (some .int), Cond.instanceMethod yX1_axiomOf, Cond.selects RX1 yX1_axiomOf yX1_axiomOf, Cond.code yX1_axiomOf cX1_axiomOf 3 (some .int), Cond.instanceMethod yX1_firstPremiseOf, Cond.selects RX1 yX1_firstPremiseOf yX1_firstPremiseOf, Cond.code yX1_firstPremiseOf cX1_firstPremiseOf 3 (some .int), Cond.instanceMethod yX1_secondPremiseOf]
def wsL_law_r14 : List Cond := [Cond.selects RX1 yX1_secondPremiseOf yX1_secondPremiseOf, Cond.code yX1_secondPremiseOf cX1_secondPremiseOf 3 (some .int), Cond.methodLink RL 63 yX4_told, Cond.instanceMethod yX4_told, Cond.selects RX4 yX4_told yX4_told, Cond.code yX4_told cX4_told 3 (some .int), Cond.methodLink RL 64 yX3_trace, Cond.instanceMethod yX3_trace, Cond.selects RX3 yX3_trace yX3_trace, Cond.code yX3_trace cX3_trace 2 (some .int), Cond.instanceMethod yX2_take, Cond.selects RX2 yX2_take yX2_take, Cond.code yX2_take cX2_take 4 none, Cond.methodLink RX2 29 yJ7_fill_d0a16, Cond.methodLink RX2 35 yX2_need, Cond.instanceMethod yX2_need, Cond.selects RX2 yX2_need yX2_need, Cond.code yX2_need cX2_need 2 none, Cond.methodLink RX2 45 yX2_isNeeded, Cond.instanceMethod yX2_isNeeded, Cond.selects RX2 yX2_isNeeded yX2_isNeeded, Cond.code yX2_isNeeded cX2_isNeeded 2 (some .boolean), Cond.methodLink RL 67 yX4_trace, Cond.instanceMethod yX4_trace]
def wsL_law_r15 : List Cond := [Cond.selects RX4 yX4_trace yX4_trace, Cond.code yX4_trace cX4_trace 4 (some .int), Cond.fieldLink RX4 106 "ElCompletionModel" "proofSize" "I", Cond.methodLink RX4 109 yX4_want, Cond.instanceMethod yX4_want, Cond.selects RX4 yX4_want yX4_want, Cond.code yX4_want cX4_want 2 (some .boolean), Cond.methodLink RL 68 yX3_row, Cond.instanceMethod yX3_row, Cond.selects RX3 yX3_row yX3_row, Cond.code yX3_row cX3_row 2 (some .int), Cond.methodLink RL 71 yX4_row, Cond.instanceMethod yX4_row, Cond.selects RX4 yX4_row yX4_row, Cond.code yX4_row cX4_row 2 (some .int), Cond.methodLink RL 72 yX3_empty, Cond.instanceMethod yX3_empty, Cond.selects RX3 yX3_empty yX3_empty, Cond.code yX3_empty cX3_empty 2 (some .int), Cond.methodLink RX3 112 yX3_sub, Cond.methodLink RL 75 yX4_empty, Cond.instanceMethod yX4_empty, Cond.selects RX4 yX4_empty yX4_empty, Cond.code yX4_empty cX4_empty 2 (some .int)]
def wsL_law_r16 : List Cond := [Cond.methodLink RX4 112 yX4_sub, Cond.methodLink RL 76 yX3_same, Cond.instanceMethod yX3_same, Cond.selects RX3 yX3_same yX3_same, Cond.code yX3_same cX3_same 2 (some .int), Cond.instanceMethod yX1_leastSame, Cond.selects RX1 yX1_leastSame yX1_leastSame, Cond.code yX1_leastSame cX1_leastSame 3 (some .int), Cond.methodLink RX1 129 yX1_areSame, Cond.instanceMethod yX1_areSame, Cond.selects RX1 yX1_areSame yX1_areSame, Cond.code yX1_areSame cX1_areSame 3 (some .boolean), Cond.methodLink RX1 126 yX1_has, Cond.methodLink RL 79 yX4_same, Cond.instanceMethod yX4_same, Cond.selects RX4 yX4_same yX4_same, Cond.code yX4_same cX4_same 3 (some .int), Cond.methodLink RX4 115 yX4_both, Cond.instanceMethod yX4_both, Cond.selects RX4 yX4_both yX4_both, Cond.code yX4_both cX4_both 3 (some .boolean), Cond.methodLink RL 80 yX3_parent, Cond.instanceMethod yX3_parent, Cond.selects RX3 yX3_parent yX3_parent]
def wsL_law_r17 : List Cond := [Cond.code yX3_parent cX3_parent 3 (some .int), Cond.instanceMethod yX1_parentOf, Cond.selects RX1 yX1_parentOf yX1_parentOf, Cond.code yX1_parentOf cX1_parentOf 5 (some .int), Cond.methodLink RX1 132 yX1_isParent, Cond.instanceMethod yX1_isParent, Cond.selects RX1 yX1_isParent yX1_isParent, Cond.code yX1_isParent cX1_isParent 4 (some .boolean), Cond.methodLink RX1 135 yX1_leastSame, Cond.methodLink RL 83 yX4_parent, Cond.instanceMethod yX4_parent, Cond.selects RX4 yX4_parent yX4_parent, Cond.code yX4_parent cX4_parent 5 (some .int), Cond.methodLink RX4 124 yX4_isParent, Cond.instanceMethod yX4_isParent, Cond.selects RX4 yX4_isParent yX4_isParent, Cond.code yX4_isParent cX4_isParent 4 (some .boolean), Cond.methodLink RX4 118 yX4_isAbove, Cond.instanceMethod yX4_isAbove, Cond.selects RX4 yX4_isAbove yX4_isAbove, Cond.code yX4_isAbove cX4_isAbove 3 (some .boolean), Cond.methodLink RX4 121 yX4_same]
def wsL_law : List Cond := (wsL_law_r1 ++ (wsL_law_r2 ++ (wsL_law_r3 ++ (wsL_law_r4 ++ (wsL_law_r5 ++ (wsL_law_r6 ++ (wsL_law_r7 ++ (wsL_law_r8 ++ (wsL_law_r9 ++ (wsL_law_r10 ++ (wsL_law_r11 ++ (wsL_law_r12 ++ (wsL_law_r13 ++ (wsL_law_r14 ++ (wsL_law_r15 ++ (wsL_law_r16 ++ wsL_law_r17)))))))))))))))) ++ wsX30 ++ wsX40 ++ wsX00 ++ wsX10 ++ wsX20 ++ wsJx000600 ++ ([] : List Cond)
abbrev vwCl : List vw_C := [(RJx00060, TJx00060, 6), (RX0, TX0, 5), (RX1, TX1, 8), (RX2, TX2, 3), (RX3, TX3, 5), (RX4, TX4, 16)]
end
section
theorem dX0_init_0 : decode cX0_init 0 = .ok (.aload_n 0, 1) := by decide +kernel
theorem dX0_init_1 : decode cX0_init 1 = .ok (.invokespecial 3, 3) := by decide +kernel
theorem dX0_init_4 : decode cX0_init 4 = .ok (.aload_n 0, 1) := by decide +kernel
theorem dX0_init_5 : decode cX0_init 5 = .ok (.bipush 80, 2) := by decide +kernel
theorem dX0_init_7 : decode cX0_init 7 = .ok (.newarray .int, 2) := by decide +kernel
theorem dX0_init_9 : decode cX0_init 9 = .ok (.putfield 9, 3) := by decide +kernel
theorem dX0_init_12 : decode cX0_init 12 = .ok (.aload_n 0, 1) := by decide +kernel
theorem dX0_init_13 : decode cX0_init 13 = .ok (.bipush 80, 2) := by decide +kernel
theorem dX0_init_15 : decode cX0_init 15 = .ok (.newarray .int, 2) := by decide +kernel
theorem dX0_init_17 : decode cX0_init 17 = .ok (.putfield 15, 3) := by decide +kernel
theorem dX0_init_20 : decode cX0_init 20 = .ok (.aload_n 0, 1) := by decide +kernel
theorem dX0_init_21 : decode cX0_init 21 = .ok (.bipush 80, 2) := by decide +kernel
theorem dX0_init_23 : decode cX0_init 23 = .ok (.newarray .int, 2) := by decide +kernel
theorem dX0_init_25 : decode cX0_init 25 = .ok (.putfield 18, 3) := by decide +kernel
theorem dX0_init_28 : decode cX0_init 28 = .ok (.aload_n 0, 1) := by decide +kernel
theorem dX0_init_29 : decode cX0_init 29 = .ok (.bipush 80, 2) := by decide +kernel
theorem dX0_init_31 : decode cX0_init 31 = .ok (.newarray .int, 2) := by decide +kernel
theorem dX0_init_33 : decode cX0_init 33 = .ok (.putfield 21, 3) := by decide +kernel
theorem dX0_init_36 : decode cX0_init 36 = .ok (.aload_n 0, 1) := by decide +kernel
theorem dX0_init_37 : decode cX0_init 37 = .ok (.iconst 0, 1) := by decide +kernel
theorem dX0_init_38 : decode cX0_init 38 = .ok (.putfield 24, 3) := by decide +kernel
theorem dX0_init_41 : decode cX0_init 41 = .ok (.return_, 1) := by decide +kernel
theorem dX0_append_0 : decode cX0_append 0 = .ok (.aload_n 0, 1) := by decide +kernel
theorem dX0_append_1 : decode cX0_append 1 = .ok (.getfield 24, 3) := by decide +kernel
theorem dX0_append_4 : decode cX0_append 4 = .ok (.bipush 80, 2) := by decide +kernel
theorem dX0_append_6 : decode cX0_append 6 = .ok (.if_icmp .lt 6, 3) := by decide +kernel
theorem dX0_append_9 : decode cX0_append 9 = .ok (.bipush (-2), 2) := by decide +kernel
theorem dX0_append_11 : decode cX0_append 11 = .ok (.ireturn, 1) := by decide +kernel
theorem dX0_append_12 : decode cX0_append 12 = .ok (.aload_n 0, 1) := by decide +kernel
theorem dX0_append_13 : decode cX0_append 13 = .ok (.getfield 9, 3) := by decide +kernel
theorem dX0_append_16 : decode cX0_append 16 = .ok (.aload_n 0, 1) := by decide +kernel
theorem dX0_append_17 : decode cX0_append 17 = .ok (.getfield 24, 3) := by decide +kernel
theorem dX0_append_20 : decode cX0_append 20 = .ok (.iload_n 1, 1) := by decide +kernel
theorem dX0_append_21 : decode cX0_append 21 = .ok (.iastore, 1) := by decide +kernel
theorem dX0_append_22 : decode cX0_append 22 = .ok (.aload_n 0, 1) := by decide +kernel
theorem dX0_append_23 : decode cX0_append 23 = .ok (.getfield 15, 3) := by decide +kernel
theorem dX0_append_26 : decode cX0_append 26 = .ok (.aload_n 0, 1) := by decide +kernel
theorem dX0_append_27 : decode cX0_append 27 = .ok (.getfield 24, 3) := by decide +kernel
theorem dX0_append_30 : decode cX0_append 30 = .ok (.iload_n 2, 1) := by decide +kernel
theorem dX0_append_31 : decode cX0_append 31 = .ok (.iastore, 1) := by decide +kernel
theorem dX0_append_32 : decode cX0_append 32 = .ok (.aload_n 0, 1) := by decide +kernel
theorem dX0_append_33 : decode cX0_append 33 = .ok (.getfield 18, 3) := by decide +kernel
theorem dX0_append_36 : decode cX0_append 36 = .ok (.aload_n 0, 1) := by decide +kernel
theorem dX0_append_37 : decode cX0_append 37 = .ok (.getfield 24, 3) := by decide +kernel
theorem dX0_append_40 : decode cX0_append 40 = .ok (.iload_n 3, 1) := by decide +kernel
theorem dX0_append_41 : decode cX0_append 41 = .ok (.iastore, 1) := by decide +kernel
theorem dX0_append_42 : decode cX0_append 42 = .ok (.aload_n 0, 1) := by decide +kernel
theorem dX0_append_43 : decode cX0_append 43 = .ok (.getfield 21, 3) := by decide +kernel
theorem dX0_append_46 : decode cX0_append 46 = .ok (.aload_n 0, 1) := by decide +kernel
theorem dX0_append_47 : decode cX0_append 47 = .ok (.getfield 24, 3) := by decide +kernel
theorem dX0_append_50 : decode cX0_append 50 = .ok (.iload 4, 2) := by decide +kernel
theorem dX0_append_52 : decode cX0_append 52 = .ok (.iastore, 1) := by decide +kernel
theorem dX0_append_53 : decode cX0_append 53 = .ok (.aload_n 0, 1) := by decide +kernel
theorem dX0_append_54 : decode cX0_append 54 = .ok (.dup, 1) := by decide +kernel
theorem dX0_append_55 : decode cX0_append 55 = .ok (.getfield 24, 3) := by decide +kernel
theorem dX0_append_58 : decode cX0_append 58 = .ok (.iconst 1, 1) := by decide +kernel
theorem dX0_append_59 : decode cX0_append 59 = .ok (.iadd, 1) := by decide +kernel
theorem dX0_append_60 : decode cX0_append 60 = .ok (.putfield 24, 3) := by decide +kernel
theorem dX0_append_63 : decode cX0_append 63 = .ok (.aload_n 0, 1) := by decide +kernel
theorem dX0_append_64 : decode cX0_append 64 = .ok (.getfield 24, 3) := by decide +kernel
theorem dX0_append_67 : decode cX0_append 67 = .ok (.iconst 1, 1) := by decide +kernel
theorem dX0_append_68 : decode cX0_append 68 = .ok (.isub, 1) := by decide +kernel
theorem dX0_append_69 : decode cX0_append 69 = .ok (.ireturn, 1) := by decide +kernel
set_option maxRecDepth 20000 in
theorem ggX0_remove_X0_closeGap : GoodIn wsX0_remove wsX0_closeGap := goodIn_r _ [10, 1, 11, 12, 13, 14, 15, 16, 17, 18, 19] (by decide +kernel) (by decide +kernel)
set_option maxRecDepth 20000 in
theorem gX0_remove_X0_closeGap : GoodIn wsX0_remove (wsV RX0 28 RX0 yX0_closeGap wsX0_closeGap) := goodIn_app (goodIn_of _ (by decide +kernel)) ggX0_remove_X0_closeGap
theorem dX0_remove_0 : decode cX0_remove 0 = .ok (.iload_n 1, 1) := by decide +kernel
theorem dX0_remove_1 : decode cX0_remove 1 = .ok (.ifCond .lt 11, 3) := by decide +kernel
theorem dX0_remove_4 : decode cX0_remove 4 = .ok (.iload_n 1, 1) := by decide +kernel
theorem dX0_remove_5 : decode cX0_remove 5 = .ok (.aload_n 0, 1) := by decide +kernel
theorem dX0_remove_6 : decode cX0_remove 6 = .ok (.getfield 24, 3) := by decide +kernel
theorem dX0_remove_9 : decode cX0_remove 9 = .ok (.if_icmp .lt 5, 3) := by decide +kernel
theorem dX0_remove_12 : decode cX0_remove 12 = .ok (.iconst (-1), 1) := by decide +kernel
theorem dX0_remove_13 : decode cX0_remove 13 = .ok (.ireturn, 1) := by decide +kernel
theorem dX0_remove_14 : decode cX0_remove 14 = .ok (.aload_n 0, 1) := by decide +kernel
theorem dX0_remove_15 : decode cX0_remove 15 = .ok (.dup, 1) := by decide +kernel
theorem dX0_remove_16 : decode cX0_remove 16 = .ok (.getfield 24, 3) := by decide +kernel
theorem dX0_remove_19 : decode cX0_remove 19 = .ok (.iconst 1, 1) := by decide +kernel
theorem dX0_remove_20 : decode cX0_remove 20 = .ok (.isub, 1) := by decide +kernel
theorem dX0_remove_21 : decode cX0_remove 21 = .ok (.putfield 24, 3) := by decide +kernel
theorem dX0_remove_24 : decode cX0_remove 24 = .ok (.aload_n 0, 1) := by decide +kernel
theorem dX0_remove_25 : decode cX0_remove 25 = .ok (.aload_n 0, 1) := by decide +kernel
theorem dX0_remove_26 : decode cX0_remove 26 = .ok (.getfield 9, 3) := by decide +kernel
theorem dX0_remove_29 : decode cX0_remove 29 = .ok (.iload_n 1, 1) := by decide +kernel
theorem dX0_remove_30 : decode cX0_remove 30 = .ok (.invokevirtual 28, 3) := by decide +kernel
theorem dX0_remove_33 : decode cX0_remove 33 = .ok (.aload_n 0, 1) := by decide +kernel
theorem dX0_remove_34 : decode cX0_remove 34 = .ok (.aload_n 0, 1) := by decide +kernel
theorem dX0_remove_35 : decode cX0_remove 35 = .ok (.getfield 15, 3) := by decide +kernel
theorem dX0_remove_38 : decode cX0_remove 38 = .ok (.iload_n 1, 1) := by decide +kernel
theorem dX0_remove_39 : decode cX0_remove 39 = .ok (.invokevirtual 28, 3) := by decide +kernel
theorem dX0_remove_42 : decode cX0_remove 42 = .ok (.aload_n 0, 1) := by decide +kernel
theorem dX0_remove_43 : decode cX0_remove 43 = .ok (.aload_n 0, 1) := by decide +kernel
theorem dX0_remove_44 : decode cX0_remove 44 = .ok (.getfield 18, 3) := by decide +kernel
theorem dX0_remove_47 : decode cX0_remove 47 = .ok (.iload_n 1, 1) := by decide +kernel
theorem dX0_remove_48 : decode cX0_remove 48 = .ok (.invokevirtual 28, 3) := by decide +kernel
theorem dX0_remove_51 : decode cX0_remove 51 = .ok (.aload_n 0, 1) := by decide +kernel
theorem dX0_remove_52 : decode cX0_remove 52 = .ok (.aload_n 0, 1) := by decide +kernel
theorem dX0_remove_53 : decode cX0_remove 53 = .ok (.getfield 21, 3) := by decide +kernel
theorem dX0_remove_56 : decode cX0_remove 56 = .ok (.iload_n 1, 1) := by decide +kernel
theorem dX0_remove_57 : decode cX0_remove 57 = .ok (.invokevirtual 28, 3) := by decide +kernel
theorem dX0_remove_60 : decode cX0_remove 60 = .ok (.aload_n 0, 1) := by decide +kernel
theorem dX0_remove_61 : decode cX0_remove 61 = .ok (.getfield 24, 3) := by decide +kernel
theorem dX0_remove_64 : decode cX0_remove 64 = .ok (.ireturn, 1) := by decide +kernel
theorem dX0_closeGap_0 : decode cX0_closeGap 0 = .ok (.aload_n 1, 1) := by decide +kernel
theorem dX0_closeGap_1 : decode cX0_closeGap 1 = .ok (.iload_n 2, 1) := by decide +kernel
theorem dX0_closeGap_2 : decode cX0_closeGap 2 = .ok (.iconst 1, 1) := by decide +kernel
theorem dX0_closeGap_3 : decode cX0_closeGap 3 = .ok (.iadd, 1) := by decide +kernel
theorem dX0_closeGap_4 : decode cX0_closeGap 4 = .ok (.aload_n 1, 1) := by decide +kernel
theorem dX0_closeGap_5 : decode cX0_closeGap 5 = .ok (.iload_n 2, 1) := by decide +kernel
theorem dX0_closeGap_6 : decode cX0_closeGap 6 = .ok (.aload_n 0, 1) := by decide +kernel
theorem dX0_closeGap_7 : decode cX0_closeGap 7 = .ok (.getfield 24, 3) := by decide +kernel
theorem dX0_closeGap_10 : decode cX0_closeGap 10 = .ok (.iload_n 2, 1) := by decide +kernel
theorem dX0_closeGap_11 : decode cX0_closeGap 11 = .ok (.isub, 1) := by decide +kernel
theorem dX0_closeGap_12 : decode cX0_closeGap 12 = .ok (.invokestatic 32, 3) := by decide +kernel
theorem dX0_closeGap_15 : decode cX0_closeGap 15 = .ok (.return_, 1) := by decide +kernel
theorem dX1_init_0 : decode cX1_init 0 = .ok (.aload_n 0, 1) := by decide +kernel
theorem dX1_init_1 : decode cX1_init 1 = .ok (.invokespecial 3, 3) := by decide +kernel
theorem dX1_init_4 : decode cX1_init 4 = .ok (.aload_n 0, 1) := by decide +kernel
theorem dX1_init_5 : decode cX1_init 5 = .ok (.sipush 168, 3) := by decide +kernel
theorem dX1_init_8 : decode cX1_init 8 = .ok (.newarray .int, 2) := by decide +kernel
theorem dX1_init_10 : decode cX1_init 10 = .ok (.putfield 9, 3) := by decide +kernel
theorem dX1_init_13 : decode cX1_init 13 = .ok (.aload_n 0, 1) := by decide +kernel
theorem dX1_init_14 : decode cX1_init 14 = .ok (.sipush 168, 3) := by decide +kernel
theorem dX1_init_17 : decode cX1_init 17 = .ok (.newarray .int, 2) := by decide +kernel
theorem dX1_init_19 : decode cX1_init 19 = .ok (.putfield 15, 3) := by decide +kernel
theorem dX1_init_22 : decode cX1_init 22 = .ok (.aload_n 0, 1) := by decide +kernel
theorem dX1_init_23 : decode cX1_init 23 = .ok (.sipush 4032, 3) := by decide +kernel
theorem dX1_init_26 : decode cX1_init 26 = .ok (.newarray .long, 2) := by decide +kernel
theorem dX1_init_28 : decode cX1_init 28 = .ok (.putfield 18, 3) := by decide +kernel
theorem dX1_init_31 : decode cX1_init 31 = .ok (.aload_n 0, 1) := by decide +kernel
theorem dX1_init_32 : decode cX1_init 32 = .ok (.sipush 4032, 3) := by decide +kernel
theorem dX1_init_35 : decode cX1_init 35 = .ok (.newarray .int, 2) := by decide +kernel
theorem dX1_init_37 : decode cX1_init 37 = .ok (.putfield 22, 3) := by decide +kernel
theorem dX1_init_40 : decode cX1_init 40 = .ok (.aload_n 0, 1) := by decide +kernel
theorem dX1_init_41 : decode cX1_init 41 = .ok (.iconst 0, 1) := by decide +kernel
theorem dX1_init_42 : decode cX1_init 42 = .ok (.putfield 25, 3) := by decide +kernel
theorem dX1_init_45 : decode cX1_init 45 = .ok (.aload_n 0, 1) := by decide +kernel
theorem dX1_init_46 : decode cX1_init 46 = .ok (.iconst 0, 1) := by decide +kernel
theorem dX1_init_47 : decode cX1_init 47 = .ok (.putfield 29, 3) := by decide +kernel
theorem dX1_init_50 : decode cX1_init 50 = .ok (.aload_n 0, 1) := by decide +kernel
theorem dX1_init_51 : decode cX1_init 51 = .ok (.iconst 0, 1) := by decide +kernel
theorem dX1_init_52 : decode cX1_init 52 = .ok (.putfield 32, 3) := by decide +kernel
theorem dX1_init_55 : decode cX1_init 55 = .ok (.aload_n 0, 1) := by decide +kernel
theorem dX1_init_56 : decode cX1_init 56 = .ok (.iconst 0, 1) := by decide +kernel
theorem dX1_init_57 : decode cX1_init 57 = .ok (.putfield 35, 3) := by decide +kernel
theorem dX1_init_60 : decode cX1_init 60 = .ok (.return_, 1) := by decide +kernel
set_option maxRecDepth 20000 in
theorem ggX1_fill_X1_clear : GoodIn wsX1_fill wsX1_clear := goodIn_r _ [12, 3, 2, 13, 14, 15, 16, 17, 1, 18, 19, 20, 21, 22, 23, 24, 77, 78, 79, 80, 81, 82, 83, 84] (by decide +kernel) (by decide +kernel)
set_option maxRecDepth 20000 in
theorem gX1_fill_X1_clear : GoodIn wsX1_fill (wsV RX1 38 RX1 yX1_clear wsX1_clear) := goodIn_app (goodIn_of _ (by decide +kernel)) ggX1_fill_X1_clear
set_option maxRecDepth 20000 in
theorem ggX1_fill_X1_giveAtFirst : GoodIn wsX1_fill wsX1_giveAtFirst := goodIn_r _ [28, 15, 29, 30, 31, 11, 32, 2, 1, 13, 17, 33, 34, 35, 36, 37, 38, 39, 40, 41, 42, 43, 77, 78, 79, 80, 81, 82, 83, 84, 85, 86, 87, 88, 89] (by decide +kernel) (by decide +kernel)
set_option maxRecDepth 20000 in
theorem gX1_fill_X1_giveAtFirst : GoodIn wsX1_fill (wsV RX1 42 RX1 yX1_giveAtFirst wsX1_giveAtFirst) := goodIn_app (goodIn_of _ (by decide +kernel)) ggX1_fill_X1_giveAtFirst
set_option maxRecDepth 20000 in
theorem ggX1_fill_X1_endRound : GoodIn wsX1_fill wsX1_endRound := goodIn_r _ [47, 1, 17, 48, 49, 50, 11, 51, 15, 33, 34, 35, 52, 53, 54, 55, 2, 3, 16, 56, 36, 37, 77, 78, 79, 80, 81, 82, 83, 84] (by decide +kernel) (by decide +kernel)
set_option maxRecDepth 20000 in
theorem gX1_fill_X1_endRound : GoodIn wsX1_fill (wsV RX1 46 RX1 yX1_endRound wsX1_endRound) := goodIn_app (goodIn_of _ (by decide +kernel)) ggX1_fill_X1_endRound
set_option maxRecDepth 20000 in
theorem ggX1_fill_X1_giveByAxiom : GoodIn wsX1_fill wsX1_giveByAxiom := goodIn_r _ [60, 3, 29, 30, 31, 11, 32, 2, 1, 15, 13, 17, 33, 34, 35, 36, 37, 61, 62, 63, 64, 42, 43, 65, 66, 67, 68, 69, 70, 71, 72, 73, 74, 75, 76, 85, 86, 87, 88, 89, 77, 78, 79, 80, 81, 82, 83, 84] (by decide +kernel) (by decide +kernel)
set_option maxRecDepth 20000 in
theorem gX1_fill_X1_giveByAxiom : GoodIn wsX1_fill (wsV RX1 60 RX1 yX1_giveByAxiom wsX1_giveByAxiom) := goodIn_app (goodIn_of _ (by decide +kernel)) ggX1_fill_X1_giveByAxiom
set_option maxRecDepth 20000 in
theorem ggX1_fill_X1_giveToWhatHas : GoodIn wsX1_fill wsX1_giveToWhatHas := goodIn_r _ [68, 3, 15, 33, 34, 35, 42, 43, 36, 37, 29, 30, 31, 11, 32, 2, 1, 13, 17, 77, 78, 79, 80, 81, 82, 83, 84] (by decide +kernel) (by decide +kernel)
set_option maxRecDepth 20000 in
theorem gX1_fill_X1_giveToWhatHas : GoodIn wsX1_fill (wsV RX1 64 RX1 yX1_giveToWhatHas wsX1_giveToWhatHas) := goodIn_app (goodIn_of _ (by decide +kernel)) ggX1_fill_X1_giveToWhatHas
theorem dX1_fill_0 : decode cX1_fill 0 = .ok (.aload_n 0, 1) := by decide +kernel
theorem dX1_fill_1 : decode cX1_fill 1 = .ok (.iload_n 2, 1) := by decide +kernel
theorem dX1_fill_2 : decode cX1_fill 2 = .ok (.invokevirtual 38, 3) := by decide +kernel
theorem dX1_fill_5 : decode cX1_fill 5 = .ok (.aload_n 0, 1) := by decide +kernel
theorem dX1_fill_6 : decode cX1_fill 6 = .ok (.aload_n 1, 1) := by decide +kernel
theorem dX1_fill_7 : decode cX1_fill 7 = .ok (.invokevirtual 42, 3) := by decide +kernel
theorem dX1_fill_10 : decode cX1_fill 10 = .ok (.aload_n 0, 1) := by decide +kernel
theorem dX1_fill_11 : decode cX1_fill 11 = .ok (.invokevirtual 46, 3) := by decide +kernel
theorem dX1_fill_14 : decode cX1_fill 14 = .ok (.iconst 1, 1) := by decide +kernel
theorem dX1_fill_15 : decode cX1_fill 15 = .ok (.istore_n 3, 1) := by decide +kernel
theorem dX1_fill_16 : decode cX1_fill 16 = .ok (.iload_n 3, 1) := by decide +kernel
theorem dX1_fill_17 : decode cX1_fill 17 = .ok (.sipush 4032, 3) := by decide +kernel
theorem dX1_fill_20 : decode cX1_fill 20 = .ok (.if_icmp .ge 92, 3) := by decide +kernel
theorem dX1_fill_23 : decode cX1_fill 23 = .ok (.aload_n 0, 1) := by decide +kernel
theorem dX1_fill_24 : decode cX1_fill 24 = .ok (.getfield 35, 3) := by decide +kernel
theorem dX1_fill_27 : decode cX1_fill 27 = .ok (.ifCond .eq 85, 3) := by decide +kernel
theorem dX1_fill_30 : decode cX1_fill 30 = .ok (.aload_n 0, 1) := by decide +kernel
theorem dX1_fill_31 : decode cX1_fill 31 = .ok (.getfield 15, 3) := by decide +kernel
theorem dX1_fill_34 : decode cX1_fill 34 = .ok (.iconst 0, 1) := by decide +kernel
theorem dX1_fill_35 : decode cX1_fill 35 = .ok (.aload_n 0, 1) := by decide +kernel
theorem dX1_fill_36 : decode cX1_fill 36 = .ok (.getfield 9, 3) := by decide +kernel
theorem dX1_fill_39 : decode cX1_fill 39 = .ok (.iconst 0, 1) := by decide +kernel
theorem dX1_fill_40 : decode cX1_fill 40 = .ok (.sipush 168, 3) := by decide +kernel
theorem dX1_fill_43 : decode cX1_fill 43 = .ok (.invokestatic 49, 3) := by decide +kernel
theorem dX1_fill_46 : decode cX1_fill 46 = .ok (.aload_n 0, 1) := by decide +kernel
theorem dX1_fill_47 : decode cX1_fill 47 = .ok (.iconst 0, 1) := by decide +kernel
theorem dX1_fill_48 : decode cX1_fill 48 = .ok (.putfield 35, 3) := by decide +kernel
theorem dX1_fill_51 : decode cX1_fill 51 = .ok (.iconst 0, 1) := by decide +kernel
theorem dX1_fill_52 : decode cX1_fill 52 = .ok (.istore 4, 2) := by decide +kernel
theorem dX1_fill_54 : decode cX1_fill 54 = .ok (.iload 4, 2) := by decide +kernel
theorem dX1_fill_56 : decode cX1_fill 56 = .ok (.aload_n 1, 1) := by decide +kernel
theorem dX1_fill_57 : decode cX1_fill 57 = .ok (.getfield 55, 3) := by decide +kernel
theorem dX1_fill_60 : decode cX1_fill 60 = .ok (.if_icmp .ge 16, 3) := by decide +kernel
theorem dX1_fill_63 : decode cX1_fill 63 = .ok (.aload_n 0, 1) := by decide +kernel
theorem dX1_fill_64 : decode cX1_fill 64 = .ok (.aload_n 1, 1) := by decide +kernel
theorem dX1_fill_65 : decode cX1_fill 65 = .ok (.iload 4, 2) := by decide +kernel
theorem dX1_fill_67 : decode cX1_fill 67 = .ok (.invokevirtual 60, 3) := by decide +kernel
theorem dX1_fill_70 : decode cX1_fill 70 = .ok (.iinc 4 1, 3) := by decide +kernel
theorem dX1_fill_73 : decode cX1_fill 73 = .ok (.goto (-19), 3) := by decide +kernel
theorem dX1_fill_76 : decode cX1_fill 76 = .ok (.iconst 0, 1) := by decide +kernel
theorem dX1_fill_77 : decode cX1_fill 77 = .ok (.istore 4, 2) := by decide +kernel
theorem dX1_fill_79 : decode cX1_fill 79 = .ok (.iload 4, 2) := by decide +kernel
theorem dX1_fill_81 : decode cX1_fill 81 = .ok (.bipush 6, 2) := by decide +kernel
theorem dX1_fill_83 : decode cX1_fill 83 = .ok (.if_icmp .ge 19, 3) := by decide +kernel
theorem dX1_fill_86 : decode cX1_fill 86 = .ok (.aload_n 0, 1) := by decide +kernel
theorem dX1_fill_87 : decode cX1_fill 87 = .ok (.bipush 100, 2) := by decide +kernel
theorem dX1_fill_89 : decode cX1_fill 89 = .ok (.iload 4, 2) := by decide +kernel
theorem dX1_fill_91 : decode cX1_fill 91 = .ok (.iconst 1, 1) := by decide +kernel
theorem dX1_fill_92 : decode cX1_fill 92 = .ok (.iconst 1, 1) := by decide +kernel
theorem dX1_fill_93 : decode cX1_fill 93 = .ok (.invokevirtual 64, 3) := by decide +kernel
theorem dX1_fill_96 : decode cX1_fill 96 = .ok (.iinc 4 1, 3) := by decide +kernel
theorem dX1_fill_99 : decode cX1_fill 99 = .ok (.goto (-20), 3) := by decide +kernel
theorem dX1_fill_102 : decode cX1_fill 102 = .ok (.aload_n 0, 1) := by decide +kernel
theorem dX1_fill_103 : decode cX1_fill 103 = .ok (.invokevirtual 46, 3) := by decide +kernel
theorem dX1_fill_106 : decode cX1_fill 106 = .ok (.iinc 3 1, 3) := by decide +kernel
theorem dX1_fill_109 : decode cX1_fill 109 = .ok (.goto (-93), 3) := by decide +kernel
theorem dX1_fill_112 : decode cX1_fill 112 = .ok (.return_, 1) := by decide +kernel
set_option maxRecDepth 20000 in
theorem ggX1_clear_J7_fill_53178 : GoodIn wsX1_clear wsJ7_fill_53178 := goodIn_r _ [12] (by decide +kernel) (by decide +kernel)
set_option maxRecDepth 20000 in
theorem gX1_clear_J7_fill_53178 : GoodIn wsX1_clear (va_wsS RX1 68 yJ7_fill_53178 wsJ7_fill_53178) := goodIn_app (goodIn_of _ (by decide +kernel)) ggX1_clear_J7_fill_53178
set_option maxRecDepth 20000 in
theorem ggX1_clear_J7_fill_d0a16 : GoodIn wsX1_clear wsJ7_fill_d0a16 := goodIn_r _ [15] (by decide +kernel) (by decide +kernel)
set_option maxRecDepth 20000 in
theorem gX1_clear_J7_fill_d0a16 : GoodIn wsX1_clear (va_wsS RX1 76 yJ7_fill_d0a16 wsJ7_fill_d0a16) := goodIn_app (goodIn_of _ (by decide +kernel)) ggX1_clear_J7_fill_d0a16
theorem dX1_clear_0 : decode cX1_clear 0 = .ok (.aload_n 0, 1) := by decide +kernel
theorem dX1_clear_1 : decode cX1_clear 1 = .ok (.getfield 9, 3) := by decide +kernel
theorem dX1_clear_4 : decode cX1_clear 4 = .ok (.iconst 0, 1) := by decide +kernel
theorem dX1_clear_5 : decode cX1_clear 5 = .ok (.invokestatic 68, 3) := by decide +kernel
theorem dX1_clear_8 : decode cX1_clear 8 = .ok (.aload_n 0, 1) := by decide +kernel
theorem dX1_clear_9 : decode cX1_clear 9 = .ok (.getfield 15, 3) := by decide +kernel
theorem dX1_clear_12 : decode cX1_clear 12 = .ok (.iconst 0, 1) := by decide +kernel
theorem dX1_clear_13 : decode cX1_clear 13 = .ok (.invokestatic 68, 3) := by decide +kernel
theorem dX1_clear_16 : decode cX1_clear 16 = .ok (.aload_n 0, 1) := by decide +kernel
theorem dX1_clear_17 : decode cX1_clear 17 = .ok (.getfield 18, 3) := by decide +kernel
theorem dX1_clear_20 : decode cX1_clear 20 = .ok (.ldc2_w 74, 3) := by decide +kernel
theorem dX1_clear_23 : decode cX1_clear 23 = .ok (.invokestatic 76, 3) := by decide +kernel
theorem dX1_clear_26 : decode cX1_clear 26 = .ok (.aload_n 0, 1) := by decide +kernel
theorem dX1_clear_27 : decode cX1_clear 27 = .ok (.iload_n 1, 1) := by decide +kernel
theorem dX1_clear_28 : decode cX1_clear 28 = .ok (.putfield 25, 3) := by decide +kernel
theorem dX1_clear_31 : decode cX1_clear 31 = .ok (.aload_n 0, 1) := by decide +kernel
theorem dX1_clear_32 : decode cX1_clear 32 = .ok (.iconst 0, 1) := by decide +kernel
theorem dX1_clear_33 : decode cX1_clear 33 = .ok (.putfield 29, 3) := by decide +kernel
theorem dX1_clear_36 : decode cX1_clear 36 = .ok (.aload_n 0, 1) := by decide +kernel
theorem dX1_clear_37 : decode cX1_clear 37 = .ok (.iconst 0, 1) := by decide +kernel
theorem dX1_clear_38 : decode cX1_clear 38 = .ok (.putfield 32, 3) := by decide +kernel
theorem dX1_clear_41 : decode cX1_clear 41 = .ok (.aload_n 0, 1) := by decide +kernel
theorem dX1_clear_42 : decode cX1_clear 42 = .ok (.iconst 0, 1) := by decide +kernel
theorem dX1_clear_43 : decode cX1_clear 43 = .ok (.putfield 35, 3) := by decide +kernel
theorem dX1_clear_46 : decode cX1_clear 46 = .ok (.return_, 1) := by decide +kernel
set_option maxRecDepth 20000 in
theorem ggX1_giveAtFirst_X1_give : GoodIn wsX1_giveAtFirst wsX1_give := goodIn_r _ [6, 7, 8, 1, 9, 10, 11, 12, 13, 14, 15, 22, 23, 24, 25, 26, 27, 28, 29] (by decide +kernel) (by decide +kernel)
set_option maxRecDepth 20000 in
theorem gX1_giveAtFirst_X1_give : GoodIn wsX1_giveAtFirst (wsV RX1 79 RX1 yX1_give wsX1_give) := goodIn_app (goodIn_of _ (by decide +kernel)) ggX1_giveAtFirst_X1_give
set_option maxRecDepth 20000 in
theorem ggX1_giveAtFirst_X1_giveOfItself : GoodIn wsX1_giveAtFirst wsX1_giveOfItself := goodIn_r _ [19, 1, 20, 12, 21, 2, 3, 4, 5, 6, 7, 8, 9, 10, 11, 13, 14, 15, 22, 23, 24, 25, 26, 27, 28, 29] (by decide +kernel) (by decide +kernel)
set_option maxRecDepth 20000 in
theorem gX1_giveAtFirst_X1_giveOfItself : GoodIn wsX1_giveAtFirst (wsV RX1 89 RX1 yX1_giveOfItself wsX1_giveOfItself) := goodIn_app (goodIn_of _ (by decide +kernel)) ggX1_giveAtFirst_X1_giveOfItself
theorem dX1_giveAtFirst_0 : decode cX1_giveAtFirst 0 = .ok (.iconst 0, 1) := by decide +kernel
theorem dX1_giveAtFirst_1 : decode cX1_giveAtFirst 1 = .ok (.istore_n 2, 1) := by decide +kernel
theorem dX1_giveAtFirst_2 : decode cX1_giveAtFirst 2 = .ok (.iload_n 2, 1) := by decide +kernel
theorem dX1_giveAtFirst_3 : decode cX1_giveAtFirst 3 = .ok (.aload_n 0, 1) := by decide +kernel
theorem dX1_giveAtFirst_4 : decode cX1_giveAtFirst 4 = .ok (.getfield 25, 3) := by decide +kernel
theorem dX1_giveAtFirst_7 : decode cX1_giveAtFirst 7 = .ok (.if_icmp .ge 43, 3) := by decide +kernel
theorem dX1_giveAtFirst_10 : decode cX1_giveAtFirst 10 = .ok (.aload_n 0, 1) := by decide +kernel
theorem dX1_giveAtFirst_11 : decode cX1_giveAtFirst 11 = .ok (.iconst 1, 1) := by decide +kernel
theorem dX1_giveAtFirst_12 : decode cX1_giveAtFirst 12 = .ok (.iload_n 2, 1) := by decide +kernel
theorem dX1_giveAtFirst_13 : decode cX1_giveAtFirst 13 = .ok (.ishl, 1) := by decide +kernel
theorem dX1_giveAtFirst_14 : decode cX1_giveAtFirst 14 = .ok (.iload_n 2, 1) := by decide +kernel
theorem dX1_giveAtFirst_15 : decode cX1_giveAtFirst 15 = .ok (.sipush 255, 3) := by decide +kernel
theorem dX1_giveAtFirst_18 : decode cX1_giveAtFirst 18 = .ok (.sipush 4095, 3) := by decide +kernel
theorem dX1_giveAtFirst_21 : decode cX1_giveAtFirst 21 = .ok (.sipush 4095, 3) := by decide +kernel
theorem dX1_giveAtFirst_24 : decode cX1_giveAtFirst 24 = .ok (.invokevirtual 79, 3) := by decide +kernel
theorem dX1_giveAtFirst_27 : decode cX1_giveAtFirst 27 = .ok (.aload_n 0, 1) := by decide +kernel
theorem dX1_giveAtFirst_28 : decode cX1_giveAtFirst 28 = .ok (.iconst 1, 1) := by decide +kernel
theorem dX1_giveAtFirst_29 : decode cX1_giveAtFirst 29 = .ok (.iload_n 2, 1) := by decide +kernel
theorem dX1_giveAtFirst_30 : decode cX1_giveAtFirst 30 = .ok (.ishl, 1) := by decide +kernel
theorem dX1_giveAtFirst_31 : decode cX1_giveAtFirst 31 = .ok (.iconst 0, 1) := by decide +kernel
theorem dX1_giveAtFirst_32 : decode cX1_giveAtFirst 32 = .ok (.sipush 255, 3) := by decide +kernel
theorem dX1_giveAtFirst_35 : decode cX1_giveAtFirst 35 = .ok (.sipush 4095, 3) := by decide +kernel
theorem dX1_giveAtFirst_38 : decode cX1_giveAtFirst 38 = .ok (.sipush 4095, 3) := by decide +kernel
theorem dX1_giveAtFirst_41 : decode cX1_giveAtFirst 41 = .ok (.invokevirtual 79, 3) := by decide +kernel
theorem dX1_giveAtFirst_44 : decode cX1_giveAtFirst 44 = .ok (.iinc 2 1, 3) := by decide +kernel
theorem dX1_giveAtFirst_47 : decode cX1_giveAtFirst 47 = .ok (.goto (-45), 3) := by decide +kernel
theorem dX1_giveAtFirst_50 : decode cX1_giveAtFirst 50 = .ok (.iconst 0, 1) := by decide +kernel
theorem dX1_giveAtFirst_51 : decode cX1_giveAtFirst 51 = .ok (.istore_n 2, 1) := by decide +kernel
theorem dX1_giveAtFirst_52 : decode cX1_giveAtFirst 52 = .ok (.iload_n 2, 1) := by decide +kernel
theorem dX1_giveAtFirst_53 : decode cX1_giveAtFirst 53 = .ok (.aload_n 1, 1) := by decide +kernel
theorem dX1_giveAtFirst_54 : decode cX1_giveAtFirst 54 = .ok (.getfield 55, 3) := by decide +kernel
theorem dX1_giveAtFirst_57 : decode cX1_giveAtFirst 57 = .ok (.if_icmp .ge 30, 3) := by decide +kernel
theorem dX1_giveAtFirst_60 : decode cX1_giveAtFirst 60 = .ok (.aload_n 1, 1) := by decide +kernel
theorem dX1_giveAtFirst_61 : decode cX1_giveAtFirst 61 = .ok (.getfield 83, 3) := by decide +kernel
theorem dX1_giveAtFirst_64 : decode cX1_giveAtFirst 64 = .ok (.iload_n 2, 1) := by decide +kernel
theorem dX1_giveAtFirst_65 : decode cX1_giveAtFirst 65 = .ok (.iaload, 1) := by decide +kernel
theorem dX1_giveAtFirst_66 : decode cX1_giveAtFirst 66 = .ok (.bipush 7, 2) := by decide +kernel
theorem dX1_giveAtFirst_68 : decode cX1_giveAtFirst 68 = .ok (.if_icmp .ne 13, 3) := by decide +kernel
theorem dX1_giveAtFirst_71 : decode cX1_giveAtFirst 71 = .ok (.aload_n 0, 1) := by decide +kernel
theorem dX1_giveAtFirst_72 : decode cX1_giveAtFirst 72 = .ok (.aload_n 1, 1) := by decide +kernel
theorem dX1_giveAtFirst_73 : decode cX1_giveAtFirst 73 = .ok (.getfield 86, 3) := by decide +kernel
theorem dX1_giveAtFirst_76 : decode cX1_giveAtFirst 76 = .ok (.iload_n 2, 1) := by decide +kernel
theorem dX1_giveAtFirst_77 : decode cX1_giveAtFirst 77 = .ok (.iaload, 1) := by decide +kernel
theorem dX1_giveAtFirst_78 : decode cX1_giveAtFirst 78 = .ok (.invokevirtual 89, 3) := by decide +kernel
theorem dX1_giveAtFirst_81 : decode cX1_giveAtFirst 81 = .ok (.iinc 2 1, 3) := by decide +kernel
theorem dX1_giveAtFirst_84 : decode cX1_giveAtFirst 84 = .ok (.goto (-32), 3) := by decide +kernel
theorem dX1_giveAtFirst_87 : decode cX1_giveAtFirst 87 = .ok (.return_, 1) := by decide +kernel
set_option maxRecDepth 20000 in
theorem ggX1_giveOfItself_X3_linkColumn : GoodIn wsX1_giveOfItself wsX3_linkColumn := goodIn_r _ [4] (by decide +kernel) (by decide +kernel)
set_option maxRecDepth 20000 in
theorem gX1_giveOfItself_X3_linkColumn_n92 : GoodIn wsX1_giveOfItself (wsX3_linkColumn) := ggX1_giveOfItself_X3_linkColumn
set_option maxRecDepth 20000 in
theorem ggX1_giveOfItself_X1_give : GoodIn wsX1_giveOfItself wsX1_give := goodIn_r _ [9, 10, 11, 1, 12, 13, 14, 3, 15, 16, 17, 18, 19, 20, 21, 22, 23, 24, 25] (by decide +kernel) (by decide +kernel)
set_option maxRecDepth 20000 in
theorem gX1_giveOfItself_X1_give : GoodIn wsX1_giveOfItself (wsV RX1 79 RX1 yX1_give wsX1_give) := goodIn_app (goodIn_of _ (by decide +kernel)) ggX1_giveOfItself_X1_give
theorem dX1_giveOfItself_0 : decode cX1_giveOfItself 0 = .ok (.iconst 0, 1) := by decide +kernel
theorem dX1_giveOfItself_1 : decode cX1_giveOfItself 1 = .ok (.istore_n 2, 1) := by decide +kernel
theorem dX1_giveOfItself_2 : decode cX1_giveOfItself 2 = .ok (.iload_n 2, 1) := by decide +kernel
theorem dX1_giveOfItself_3 : decode cX1_giveOfItself 3 = .ok (.aload_n 0, 1) := by decide +kernel
theorem dX1_giveOfItself_4 : decode cX1_giveOfItself 4 = .ok (.getfield 25, 3) := by decide +kernel
theorem dX1_giveOfItself_7 : decode cX1_giveOfItself 7 = .ok (.if_icmp .ge 30, 3) := by decide +kernel
theorem dX1_giveOfItself_10 : decode cX1_giveOfItself 10 = .ok (.aload_n 0, 1) := by decide +kernel
theorem dX1_giveOfItself_11 : decode cX1_giveOfItself 11 = .ok (.iconst 1, 1) := by decide +kernel
theorem dX1_giveOfItself_12 : decode cX1_giveOfItself 12 = .ok (.iload_n 2, 1) := by decide +kernel
theorem dX1_giveOfItself_13 : decode cX1_giveOfItself 13 = .ok (.ishl, 1) := by decide +kernel
theorem dX1_giveOfItself_14 : decode cX1_giveOfItself 14 = .ok (.iload_n 1, 1) := by decide +kernel
theorem dX1_giveOfItself_15 : decode cX1_giveOfItself 15 = .ok (.iload_n 2, 1) := by decide +kernel
theorem dX1_giveOfItself_16 : decode cX1_giveOfItself 16 = .ok (.invokestatic 92, 3) := by decide +kernel
theorem dX1_giveOfItself_19 : decode cX1_giveOfItself 19 = .ok (.sipush 255, 3) := by decide +kernel
theorem dX1_giveOfItself_22 : decode cX1_giveOfItself 22 = .ok (.sipush 4095, 3) := by decide +kernel
theorem dX1_giveOfItself_25 : decode cX1_giveOfItself 25 = .ok (.sipush 4095, 3) := by decide +kernel
theorem dX1_giveOfItself_28 : decode cX1_giveOfItself 28 = .ok (.invokevirtual 79, 3) := by decide +kernel
theorem dX1_giveOfItself_31 : decode cX1_giveOfItself 31 = .ok (.iinc 2 1, 3) := by decide +kernel
theorem dX1_giveOfItself_34 : decode cX1_giveOfItself 34 = .ok (.goto (-32), 3) := by decide +kernel
theorem dX1_giveOfItself_37 : decode cX1_giveOfItself 37 = .ok (.return_, 1) := by decide +kernel
set_option maxRecDepth 20000 in
theorem ggX1_giveByAxiom_X1_give : GoodIn wsX1_giveByAxiom wsX1_give := goodIn_r _ [6, 7, 8, 9, 10, 11, 12, 13, 14, 15, 16, 40, 41, 42, 43, 44, 45, 46, 47] (by decide +kernel) (by decide +kernel)
set_option maxRecDepth 20000 in
theorem gX1_giveByAxiom_X1_give : GoodIn wsX1_giveByAxiom (wsV RX1 79 RX1 yX1_give wsX1_give) := goodIn_app (goodIn_of _ (by decide +kernel)) ggX1_giveByAxiom_X1_give
set_option maxRecDepth 20000 in
theorem ggX1_giveByAxiom_X1_giveToBoth : GoodIn wsX1_giveByAxiom wsX1_giveToBoth := goodIn_r _ [20, 1, 7, 9, 12, 13, 14, 15, 16, 2, 3, 4, 5, 6, 8, 10, 11, 40, 41, 42, 43, 44, 45, 46, 47] (by decide +kernel) (by decide +kernel)
set_option maxRecDepth 20000 in
theorem gX1_giveByAxiom_X1_giveToBoth : GoodIn wsX1_giveByAxiom (wsV RX1 102 RX1 yX1_giveToBoth wsX1_giveToBoth) := goodIn_app (goodIn_of _ (by decide +kernel)) ggX1_giveByAxiom_X1_giveToBoth
set_option maxRecDepth 20000 in
theorem ggX1_giveByAxiom_X3_linkColumn : GoodIn wsX1_giveByAxiom wsX3_linkColumn := goodIn_r _ [22] (by decide +kernel) (by decide +kernel)
set_option maxRecDepth 20000 in
theorem gX1_giveByAxiom_X3_linkColumn_n92 : GoodIn wsX1_giveByAxiom (wsX3_linkColumn) := ggX1_giveByAxiom_X3_linkColumn
set_option maxRecDepth 20000 in
theorem ggX1_giveByAxiom_X1_giveToWhatHas : GoodIn wsX1_giveByAxiom wsX1_giveToWhatHas := goodIn_r _ [26, 1, 9, 12, 13, 14, 21, 22, 15, 16, 2, 3, 4, 5, 6, 7, 8, 10, 11, 40, 41, 42, 43, 44, 45, 46, 47] (by decide +kernel) (by decide +kernel)
set_option maxRecDepth 20000 in
theorem gX1_giveByAxiom_X1_giveToWhatHas : GoodIn wsX1_giveByAxiom (wsV RX1 64 RX1 yX1_giveToWhatHas wsX1_giveToWhatHas) := goodIn_app (goodIn_of _ (by decide +kernel)) ggX1_giveByAxiom_X1_giveToWhatHas
set_option maxRecDepth 20000 in
theorem ggX1_giveByAxiom_X1_giveRole : GoodIn wsX1_giveByAxiom wsX1_giveRole := goodIn_r _ [30, 9, 1, 21, 13, 22, 2, 3, 4, 5, 6, 7, 8, 10, 11, 12, 14, 15, 16, 40, 41, 42, 43, 44, 45, 46, 47] (by decide +kernel) (by decide +kernel)
set_option maxRecDepth 20000 in
theorem gX1_giveByAxiom_X1_giveRole : GoodIn wsX1_giveByAxiom (wsV RX1 105 RX1 yX1_giveRole wsX1_giveRole) := goodIn_app (goodIn_of _ (by decide +kernel)) ggX1_giveByAxiom_X1_giveRole
set_option maxRecDepth 20000 in
theorem ggX1_giveByAxiom_X1_giveChain : GoodIn wsX1_giveByAxiom wsX1_giveChain := goodIn_r _ [34, 9, 1, 21, 13, 22, 12, 14, 15, 16, 2, 3, 4, 5, 6, 7, 8, 10, 11, 40, 41, 42, 43, 44, 45, 46, 47] (by decide +kernel) (by decide +kernel)
set_option maxRecDepth 20000 in
theorem gX1_giveByAxiom_X1_giveChain : GoodIn wsX1_giveByAxiom (wsV RX1 109 RX1 yX1_giveChain wsX1_giveChain) := goodIn_app (goodIn_of _ (by decide +kernel)) ggX1_giveByAxiom_X1_giveChain
theorem dX1_giveByAxiom_0 : decode cX1_giveByAxiom 0 = .ok (.aload_n 1, 1) := by decide +kernel
theorem dX1_giveByAxiom_1 : decode cX1_giveByAxiom 1 = .ok (.getfield 86, 3) := by decide +kernel
theorem dX1_giveByAxiom_4 : decode cX1_giveByAxiom 4 = .ok (.iload_n 2, 1) := by decide +kernel
theorem dX1_giveByAxiom_5 : decode cX1_giveByAxiom 5 = .ok (.iaload, 1) := by decide +kernel
theorem dX1_giveByAxiom_6 : decode cX1_giveByAxiom 6 = .ok (.istore_n 3, 1) := by decide +kernel
theorem dX1_giveByAxiom_7 : decode cX1_giveByAxiom 7 = .ok (.aload_n 1, 1) := by decide +kernel
theorem dX1_giveByAxiom_8 : decode cX1_giveByAxiom 8 = .ok (.getfield 96, 3) := by decide +kernel
theorem dX1_giveByAxiom_11 : decode cX1_giveByAxiom 11 = .ok (.iload_n 2, 1) := by decide +kernel
theorem dX1_giveByAxiom_12 : decode cX1_giveByAxiom 12 = .ok (.iaload, 1) := by decide +kernel
theorem dX1_giveByAxiom_13 : decode cX1_giveByAxiom 13 = .ok (.istore 4, 2) := by decide +kernel
theorem dX1_giveByAxiom_15 : decode cX1_giveByAxiom 15 = .ok (.aload_n 1, 1) := by decide +kernel
theorem dX1_giveByAxiom_16 : decode cX1_giveByAxiom 16 = .ok (.getfield 99, 3) := by decide +kernel
theorem dX1_giveByAxiom_19 : decode cX1_giveByAxiom 19 = .ok (.iload_n 2, 1) := by decide +kernel
theorem dX1_giveByAxiom_20 : decode cX1_giveByAxiom 20 = .ok (.iaload, 1) := by decide +kernel
theorem dX1_giveByAxiom_21 : decode cX1_giveByAxiom 21 = .ok (.istore 5, 2) := by decide +kernel
theorem dX1_giveByAxiom_23 : decode cX1_giveByAxiom 23 = .ok (.aload_n 1, 1) := by decide +kernel
theorem dX1_giveByAxiom_24 : decode cX1_giveByAxiom 24 = .ok (.getfield 83, 3) := by decide +kernel
theorem dX1_giveByAxiom_27 : decode cX1_giveByAxiom 27 = .ok (.iload_n 2, 1) := by decide +kernel
theorem dX1_giveByAxiom_28 : decode cX1_giveByAxiom 28 = .ok (.iaload, 1) := by decide +kernel
theorem dX1_giveByAxiom_29 : decode cX1_giveByAxiom 29 = .ok (.tableswitch 134 1 6 #[39, 59, 72, 97, 110, 121], 39) := by decide +kernel
theorem dX1_giveByAxiom_68 : decode cX1_giveByAxiom 68 = .ok (.aload_n 0, 1) := by decide +kernel
theorem dX1_giveByAxiom_69 : decode cX1_giveByAxiom 69 = .ok (.aload_n 0, 1) := by decide +kernel
theorem dX1_giveByAxiom_70 : decode cX1_giveByAxiom 70 = .ok (.getfield 9, 3) := by decide +kernel
theorem dX1_giveByAxiom_73 : decode cX1_giveByAxiom 73 = .ok (.iload_n 3, 1) := by decide +kernel
theorem dX1_giveByAxiom_74 : decode cX1_giveByAxiom 74 = .ok (.iaload, 1) := by decide +kernel
theorem dX1_giveByAxiom_75 : decode cX1_giveByAxiom 75 = .ok (.iload 4, 2) := by decide +kernel
theorem dX1_giveByAxiom_77 : decode cX1_giveByAxiom 77 = .ok (.iload_n 2, 1) := by decide +kernel
theorem dX1_giveByAxiom_78 : decode cX1_giveByAxiom 78 = .ok (.iload_n 3, 1) := by decide +kernel
theorem dX1_giveByAxiom_79 : decode cX1_giveByAxiom 79 = .ok (.sipush 4095, 3) := by decide +kernel
theorem dX1_giveByAxiom_82 : decode cX1_giveByAxiom 82 = .ok (.invokevirtual 79, 3) := by decide +kernel
theorem dX1_giveByAxiom_85 : decode cX1_giveByAxiom 85 = .ok (.goto 78, 3) := by decide +kernel
theorem dX1_giveByAxiom_88 : decode cX1_giveByAxiom 88 = .ok (.aload_n 0, 1) := by decide +kernel
theorem dX1_giveByAxiom_89 : decode cX1_giveByAxiom 89 = .ok (.iload_n 2, 1) := by decide +kernel
theorem dX1_giveByAxiom_90 : decode cX1_giveByAxiom 90 = .ok (.iload_n 3, 1) := by decide +kernel
theorem dX1_giveByAxiom_91 : decode cX1_giveByAxiom 91 = .ok (.iload 4, 2) := by decide +kernel
theorem dX1_giveByAxiom_93 : decode cX1_giveByAxiom 93 = .ok (.iload 5, 2) := by decide +kernel
theorem dX1_giveByAxiom_95 : decode cX1_giveByAxiom 95 = .ok (.invokevirtual 102, 3) := by decide +kernel
theorem dX1_giveByAxiom_98 : decode cX1_giveByAxiom 98 = .ok (.goto 65, 3) := by decide +kernel
theorem dX1_giveByAxiom_101 : decode cX1_giveByAxiom 101 = .ok (.aload_n 0, 1) := by decide +kernel
theorem dX1_giveByAxiom_102 : decode cX1_giveByAxiom 102 = .ok (.aload_n 0, 1) := by decide +kernel
theorem dX1_giveByAxiom_103 : decode cX1_giveByAxiom 103 = .ok (.getfield 9, 3) := by decide +kernel
theorem dX1_giveByAxiom_106 : decode cX1_giveByAxiom 106 = .ok (.iload_n 3, 1) := by decide +kernel
theorem dX1_giveByAxiom_107 : decode cX1_giveByAxiom 107 = .ok (.iaload, 1) := by decide +kernel
theorem dX1_giveByAxiom_108 : decode cX1_giveByAxiom 108 = .ok (.iload 4, 2) := by decide +kernel
theorem dX1_giveByAxiom_110 : decode cX1_giveByAxiom 110 = .ok (.iload 5, 2) := by decide +kernel
theorem dX1_giveByAxiom_112 : decode cX1_giveByAxiom 112 = .ok (.invokestatic 92, 3) := by decide +kernel
theorem dX1_giveByAxiom_115 : decode cX1_giveByAxiom 115 = .ok (.iload_n 2, 1) := by decide +kernel
theorem dX1_giveByAxiom_116 : decode cX1_giveByAxiom 116 = .ok (.iload_n 3, 1) := by decide +kernel
theorem dX1_giveByAxiom_117 : decode cX1_giveByAxiom 117 = .ok (.sipush 4095, 3) := by decide +kernel
theorem dX1_giveByAxiom_120 : decode cX1_giveByAxiom 120 = .ok (.invokevirtual 79, 3) := by decide +kernel
theorem dX1_giveByAxiom_123 : decode cX1_giveByAxiom 123 = .ok (.goto 40, 3) := by decide +kernel
theorem dX1_giveByAxiom_126 : decode cX1_giveByAxiom 126 = .ok (.aload_n 0, 1) := by decide +kernel
theorem dX1_giveByAxiom_127 : decode cX1_giveByAxiom 127 = .ok (.iload_n 2, 1) := by decide +kernel
theorem dX1_giveByAxiom_128 : decode cX1_giveByAxiom 128 = .ok (.iload_n 3, 1) := by decide +kernel
theorem dX1_giveByAxiom_129 : decode cX1_giveByAxiom 129 = .ok (.iload 4, 2) := by decide +kernel
theorem dX1_giveByAxiom_131 : decode cX1_giveByAxiom 131 = .ok (.iload 5, 2) := by decide +kernel
theorem dX1_giveByAxiom_133 : decode cX1_giveByAxiom 133 = .ok (.invokevirtual 64, 3) := by decide +kernel
theorem dX1_giveByAxiom_136 : decode cX1_giveByAxiom 136 = .ok (.goto 27, 3) := by decide +kernel
theorem dX1_giveByAxiom_139 : decode cX1_giveByAxiom 139 = .ok (.aload_n 0, 1) := by decide +kernel
theorem dX1_giveByAxiom_140 : decode cX1_giveByAxiom 140 = .ok (.iload_n 2, 1) := by decide +kernel
theorem dX1_giveByAxiom_141 : decode cX1_giveByAxiom 141 = .ok (.iload_n 3, 1) := by decide +kernel
theorem dX1_giveByAxiom_142 : decode cX1_giveByAxiom 142 = .ok (.iload 4, 2) := by decide +kernel
theorem dX1_giveByAxiom_144 : decode cX1_giveByAxiom 144 = .ok (.invokevirtual 105, 3) := by decide +kernel
theorem dX1_giveByAxiom_147 : decode cX1_giveByAxiom 147 = .ok (.goto 16, 3) := by decide +kernel
theorem dX1_giveByAxiom_150 : decode cX1_giveByAxiom 150 = .ok (.aload_n 0, 1) := by decide +kernel
theorem dX1_giveByAxiom_151 : decode cX1_giveByAxiom 151 = .ok (.iload_n 2, 1) := by decide +kernel
theorem dX1_giveByAxiom_152 : decode cX1_giveByAxiom 152 = .ok (.iload_n 3, 1) := by decide +kernel
theorem dX1_giveByAxiom_153 : decode cX1_giveByAxiom 153 = .ok (.iload 4, 2) := by decide +kernel
theorem dX1_giveByAxiom_155 : decode cX1_giveByAxiom 155 = .ok (.iload 5, 2) := by decide +kernel
theorem dX1_giveByAxiom_157 : decode cX1_giveByAxiom 157 = .ok (.invokevirtual 109, 3) := by decide +kernel
theorem dX1_giveByAxiom_160 : decode cX1_giveByAxiom 160 = .ok (.goto 3, 3) := by decide +kernel
theorem dX1_giveByAxiom_163 : decode cX1_giveByAxiom 163 = .ok (.return_, 1) := by decide +kernel
set_option maxRecDepth 20000 in
theorem ggX1_giveToBoth_X3_isIn : GoodIn wsX1_giveToBoth wsX3_isIn := goodIn_r _ [6] (by decide +kernel) (by decide +kernel)
set_option maxRecDepth 20000 in
theorem gX1_giveToBoth_X3_isIn_n112 : GoodIn wsX1_giveToBoth (wsX3_isIn) := ggX1_giveToBoth_X3_isIn
set_option maxRecDepth 20000 in
theorem ggX1_giveToBoth_X3_codeOf : GoodIn wsX1_giveToBoth wsX3_codeOf := goodIn_r _ [8] (by decide +kernel) (by decide +kernel)
set_option maxRecDepth 20000 in
theorem gX1_giveToBoth_X3_codeOf_n116 : GoodIn wsX1_giveToBoth (wsX3_codeOf) := ggX1_giveToBoth_X3_codeOf
set_option maxRecDepth 20000 in
theorem ggX1_giveToBoth_X1_give : GoodIn wsX1_giveToBoth wsX1_give := goodIn_r _ [13, 2, 14, 3, 15, 16, 4, 5, 6, 7, 8, 17, 18, 19, 20, 21, 22, 23, 24] (by decide +kernel) (by decide +kernel)
set_option maxRecDepth 20000 in
theorem gX1_giveToBoth_X1_give : GoodIn wsX1_giveToBoth (wsV RX1 79 RX1 yX1_give wsX1_give) := goodIn_app (goodIn_of _ (by decide +kernel)) ggX1_giveToBoth_X1_give
theorem dX1_giveToBoth_0 : decode cX1_giveToBoth 0 = .ok (.aload_n 0, 1) := by decide +kernel
theorem dX1_giveToBoth_1 : decode cX1_giveToBoth 1 = .ok (.getfield 9, 3) := by decide +kernel
theorem dX1_giveToBoth_4 : decode cX1_giveToBoth 4 = .ok (.iload_n 2, 1) := by decide +kernel
theorem dX1_giveToBoth_5 : decode cX1_giveToBoth 5 = .ok (.iaload, 1) := by decide +kernel
theorem dX1_giveToBoth_6 : decode cX1_giveToBoth 6 = .ok (.aload_n 0, 1) := by decide +kernel
theorem dX1_giveToBoth_7 : decode cX1_giveToBoth 7 = .ok (.getfield 9, 3) := by decide +kernel
theorem dX1_giveToBoth_10 : decode cX1_giveToBoth 10 = .ok (.iload_n 3, 1) := by decide +kernel
theorem dX1_giveToBoth_11 : decode cX1_giveToBoth 11 = .ok (.iaload, 1) := by decide +kernel
theorem dX1_giveToBoth_12 : decode cX1_giveToBoth 12 = .ok (.iand, 1) := by decide +kernel
theorem dX1_giveToBoth_13 : decode cX1_giveToBoth 13 = .ok (.aload_n 0, 1) := by decide +kernel
theorem dX1_giveToBoth_14 : decode cX1_giveToBoth 14 = .ok (.getfield 15, 3) := by decide +kernel
theorem dX1_giveToBoth_17 : decode cX1_giveToBoth 17 = .ok (.iload 4, 2) := by decide +kernel
theorem dX1_giveToBoth_19 : decode cX1_giveToBoth 19 = .ok (.iaload, 1) := by decide +kernel
theorem dX1_giveToBoth_20 : decode cX1_giveToBoth 20 = .ok (.iconst (-1), 1) := by decide +kernel
theorem dX1_giveToBoth_21 : decode cX1_giveToBoth 21 = .ok (.ixor, 1) := by decide +kernel
theorem dX1_giveToBoth_22 : decode cX1_giveToBoth 22 = .ok (.iand, 1) := by decide +kernel
theorem dX1_giveToBoth_23 : decode cX1_giveToBoth 23 = .ok (.istore 5, 2) := by decide +kernel
theorem dX1_giveToBoth_25 : decode cX1_giveToBoth 25 = .ok (.iconst 0, 1) := by decide +kernel
theorem dX1_giveToBoth_26 : decode cX1_giveToBoth 26 = .ok (.istore 6, 2) := by decide +kernel
theorem dX1_giveToBoth_28 : decode cX1_giveToBoth 28 = .ok (.iload 6, 2) := by decide +kernel
theorem dX1_giveToBoth_30 : decode cX1_giveToBoth 30 = .ok (.aload_n 0, 1) := by decide +kernel
theorem dX1_giveToBoth_31 : decode cX1_giveToBoth 31 = .ok (.getfield 25, 3) := by decide +kernel
theorem dX1_giveToBoth_34 : decode cX1_giveToBoth 34 = .ok (.if_icmp .ge 42, 3) := by decide +kernel
theorem dX1_giveToBoth_37 : decode cX1_giveToBoth 37 = .ok (.iload 5, 2) := by decide +kernel
theorem dX1_giveToBoth_39 : decode cX1_giveToBoth 39 = .ok (.ifCond .eq 37, 3) := by decide +kernel
theorem dX1_giveToBoth_42 : decode cX1_giveToBoth 42 = .ok (.iload 6, 2) := by decide +kernel
theorem dX1_giveToBoth_44 : decode cX1_giveToBoth 44 = .ok (.iload 5, 2) := by decide +kernel
theorem dX1_giveToBoth_46 : decode cX1_giveToBoth 46 = .ok (.invokestatic 112, 3) := by decide +kernel
theorem dX1_giveToBoth_49 : decode cX1_giveToBoth 49 = .ok (.ifCond .eq 21, 3) := by decide +kernel
theorem dX1_giveToBoth_52 : decode cX1_giveToBoth 52 = .ok (.aload_n 0, 1) := by decide +kernel
theorem dX1_giveToBoth_53 : decode cX1_giveToBoth 53 = .ok (.iconst 1, 1) := by decide +kernel
theorem dX1_giveToBoth_54 : decode cX1_giveToBoth 54 = .ok (.iload 6, 2) := by decide +kernel
theorem dX1_giveToBoth_56 : decode cX1_giveToBoth 56 = .ok (.ishl, 1) := by decide +kernel
theorem dX1_giveToBoth_57 : decode cX1_giveToBoth 57 = .ok (.iload 4, 2) := by decide +kernel
theorem dX1_giveToBoth_59 : decode cX1_giveToBoth 59 = .ok (.iload_n 1, 1) := by decide +kernel
theorem dX1_giveToBoth_60 : decode cX1_giveToBoth 60 = .ok (.iload_n 2, 1) := by decide +kernel
theorem dX1_giveToBoth_61 : decode cX1_giveToBoth 61 = .ok (.iload 6, 2) := by decide +kernel
theorem dX1_giveToBoth_63 : decode cX1_giveToBoth 63 = .ok (.iload_n 3, 1) := by decide +kernel
theorem dX1_giveToBoth_64 : decode cX1_giveToBoth 64 = .ok (.invokestatic 116, 3) := by decide +kernel
theorem dX1_giveToBoth_67 : decode cX1_giveToBoth 67 = .ok (.invokevirtual 79, 3) := by decide +kernel
theorem dX1_giveToBoth_70 : decode cX1_giveToBoth 70 = .ok (.iinc 6 1, 3) := by decide +kernel
theorem dX1_giveToBoth_73 : decode cX1_giveToBoth 73 = .ok (.goto (-45), 3) := by decide +kernel
theorem dX1_giveToBoth_76 : decode cX1_giveToBoth 76 = .ok (.return_, 1) := by decide +kernel
set_option maxRecDepth 20000 in
theorem ggX1_giveToWhatHas_X3_isIn : GoodIn wsX1_giveToWhatHas wsX3_isIn := goodIn_r _ [5] (by decide +kernel) (by decide +kernel)
set_option maxRecDepth 20000 in
theorem gX1_giveToWhatHas_X3_isIn_n112 : GoodIn wsX1_giveToWhatHas (wsX3_isIn) := ggX1_giveToWhatHas_X3_isIn
set_option maxRecDepth 20000 in
theorem ggX1_giveToWhatHas_X3_linkColumn : GoodIn wsX1_giveToWhatHas wsX3_linkColumn := goodIn_r _ [7] (by decide +kernel) (by decide +kernel)
set_option maxRecDepth 20000 in
theorem gX1_giveToWhatHas_X3_linkColumn_n92 : GoodIn wsX1_giveToWhatHas (wsX3_linkColumn) := ggX1_giveToWhatHas_X3_linkColumn
set_option maxRecDepth 20000 in
theorem ggX1_giveToWhatHas_X3_codeOf : GoodIn wsX1_giveToWhatHas wsX3_codeOf := goodIn_r _ [9] (by decide +kernel) (by decide +kernel)
set_option maxRecDepth 20000 in
theorem gX1_giveToWhatHas_X3_codeOf_n116 : GoodIn wsX1_giveToWhatHas (wsX3_codeOf) := ggX1_giveToWhatHas_X3_codeOf
set_option maxRecDepth 20000 in
theorem ggX1_giveToWhatHas_X1_give : GoodIn wsX1_giveToWhatHas wsX1_give := goodIn_r _ [14, 15, 16, 2, 17, 18, 3, 4, 5, 8, 9, 19, 20, 21, 22, 23, 24, 25, 26] (by decide +kernel) (by decide +kernel)
set_option maxRecDepth 20000 in
theorem gX1_giveToWhatHas_X1_give : GoodIn wsX1_giveToWhatHas (wsV RX1 79 RX1 yX1_give wsX1_give) := goodIn_app (goodIn_of _ (by decide +kernel)) ggX1_giveToWhatHas_X1_give
theorem dX1_giveToWhatHas_0 : decode cX1_giveToWhatHas 0 = .ok (.aload_n 0, 1) := by decide +kernel
theorem dX1_giveToWhatHas_1 : decode cX1_giveToWhatHas 1 = .ok (.getfield 9, 3) := by decide +kernel
theorem dX1_giveToWhatHas_4 : decode cX1_giveToWhatHas 4 = .ok (.iload_n 3, 1) := by decide +kernel
theorem dX1_giveToWhatHas_5 : decode cX1_giveToWhatHas 5 = .ok (.iaload, 1) := by decide +kernel
theorem dX1_giveToWhatHas_6 : decode cX1_giveToWhatHas 6 = .ok (.istore 5, 2) := by decide +kernel
theorem dX1_giveToWhatHas_8 : decode cX1_giveToWhatHas 8 = .ok (.iconst 0, 1) := by decide +kernel
theorem dX1_giveToWhatHas_9 : decode cX1_giveToWhatHas 9 = .ok (.istore 6, 2) := by decide +kernel
theorem dX1_giveToWhatHas_11 : decode cX1_giveToWhatHas 11 = .ok (.iload 6, 2) := by decide +kernel
theorem dX1_giveToWhatHas_13 : decode cX1_giveToWhatHas 13 = .ok (.aload_n 0, 1) := by decide +kernel
theorem dX1_giveToWhatHas_14 : decode cX1_giveToWhatHas 14 = .ok (.getfield 25, 3) := by decide +kernel
theorem dX1_giveToWhatHas_17 : decode cX1_giveToWhatHas 17 = .ok (.if_icmp .ge 49, 3) := by decide +kernel
theorem dX1_giveToWhatHas_20 : decode cX1_giveToWhatHas 20 = .ok (.iload 6, 2) := by decide +kernel
theorem dX1_giveToWhatHas_22 : decode cX1_giveToWhatHas 22 = .ok (.iload 5, 2) := by decide +kernel
theorem dX1_giveToWhatHas_24 : decode cX1_giveToWhatHas 24 = .ok (.invokestatic 112, 3) := by decide +kernel
theorem dX1_giveToWhatHas_27 : decode cX1_giveToWhatHas 27 = .ok (.ifCond .eq 33, 3) := by decide +kernel
theorem dX1_giveToWhatHas_30 : decode cX1_giveToWhatHas 30 = .ok (.iload_n 2, 1) := by decide +kernel
theorem dX1_giveToWhatHas_31 : decode cX1_giveToWhatHas 31 = .ok (.iload 6, 2) := by decide +kernel
theorem dX1_giveToWhatHas_33 : decode cX1_giveToWhatHas 33 = .ok (.invokestatic 92, 3) := by decide +kernel
theorem dX1_giveToWhatHas_36 : decode cX1_giveToWhatHas 36 = .ok (.istore 7, 2) := by decide +kernel
theorem dX1_giveToWhatHas_38 : decode cX1_giveToWhatHas 38 = .ok (.aload_n 0, 1) := by decide +kernel
theorem dX1_giveToWhatHas_39 : decode cX1_giveToWhatHas 39 = .ok (.aload_n 0, 1) := by decide +kernel
theorem dX1_giveToWhatHas_40 : decode cX1_giveToWhatHas 40 = .ok (.getfield 9, 3) := by decide +kernel
theorem dX1_giveToWhatHas_43 : decode cX1_giveToWhatHas 43 = .ok (.iload 7, 2) := by decide +kernel
theorem dX1_giveToWhatHas_45 : decode cX1_giveToWhatHas 45 = .ok (.iaload, 1) := by decide +kernel
theorem dX1_giveToWhatHas_46 : decode cX1_giveToWhatHas 46 = .ok (.iload 4, 2) := by decide +kernel
theorem dX1_giveToWhatHas_48 : decode cX1_giveToWhatHas 48 = .ok (.iload_n 1, 1) := by decide +kernel
theorem dX1_giveToWhatHas_49 : decode cX1_giveToWhatHas 49 = .ok (.iload 7, 2) := by decide +kernel
theorem dX1_giveToWhatHas_51 : decode cX1_giveToWhatHas 51 = .ok (.iload 6, 2) := by decide +kernel
theorem dX1_giveToWhatHas_53 : decode cX1_giveToWhatHas 53 = .ok (.iload_n 3, 1) := by decide +kernel
theorem dX1_giveToWhatHas_54 : decode cX1_giveToWhatHas 54 = .ok (.invokestatic 116, 3) := by decide +kernel
theorem dX1_giveToWhatHas_57 : decode cX1_giveToWhatHas 57 = .ok (.invokevirtual 79, 3) := by decide +kernel
theorem dX1_giveToWhatHas_60 : decode cX1_giveToWhatHas 60 = .ok (.iinc 6 1, 3) := by decide +kernel
theorem dX1_giveToWhatHas_63 : decode cX1_giveToWhatHas 63 = .ok (.goto (-52), 3) := by decide +kernel
theorem dX1_giveToWhatHas_66 : decode cX1_giveToWhatHas 66 = .ok (.return_, 1) := by decide +kernel
set_option maxRecDepth 20000 in
theorem ggX1_giveRole_X3_linkColumn : GoodIn wsX1_giveRole wsX3_linkColumn := goodIn_r _ [5] (by decide +kernel) (by decide +kernel)
set_option maxRecDepth 20000 in
theorem gX1_giveRole_X3_linkColumn_n92 : GoodIn wsX1_giveRole (wsX3_linkColumn) := ggX1_giveRole_X3_linkColumn
set_option maxRecDepth 20000 in
theorem ggX1_giveRole_X1_give : GoodIn wsX1_giveRole wsX1_give := goodIn_r _ [10, 11, 12, 1, 13, 14, 15, 4, 16, 17, 18, 19, 20, 21, 22, 23, 24, 25, 26] (by decide +kernel) (by decide +kernel)
set_option maxRecDepth 20000 in
theorem gX1_giveRole_X1_give : GoodIn wsX1_giveRole (wsV RX1 79 RX1 yX1_give wsX1_give) := goodIn_app (goodIn_of _ (by decide +kernel)) ggX1_giveRole_X1_give
theorem dX1_giveRole_0 : decode cX1_giveRole 0 = .ok (.iconst 0, 1) := by decide +kernel
theorem dX1_giveRole_1 : decode cX1_giveRole 1 = .ok (.istore 4, 2) := by decide +kernel
theorem dX1_giveRole_3 : decode cX1_giveRole 3 = .ok (.iload 4, 2) := by decide +kernel
theorem dX1_giveRole_5 : decode cX1_giveRole 5 = .ok (.aload_n 0, 1) := by decide +kernel
theorem dX1_giveRole_6 : decode cX1_giveRole 6 = .ok (.getfield 25, 3) := by decide +kernel
theorem dX1_giveRole_9 : decode cX1_giveRole 9 = .ok (.if_icmp .ge 40, 3) := by decide +kernel
theorem dX1_giveRole_12 : decode cX1_giveRole 12 = .ok (.iload_n 2, 1) := by decide +kernel
theorem dX1_giveRole_13 : decode cX1_giveRole 13 = .ok (.iload 4, 2) := by decide +kernel
theorem dX1_giveRole_15 : decode cX1_giveRole 15 = .ok (.invokestatic 92, 3) := by decide +kernel
theorem dX1_giveRole_18 : decode cX1_giveRole 18 = .ok (.istore 5, 2) := by decide +kernel
theorem dX1_giveRole_20 : decode cX1_giveRole 20 = .ok (.aload_n 0, 1) := by decide +kernel
theorem dX1_giveRole_21 : decode cX1_giveRole 21 = .ok (.aload_n 0, 1) := by decide +kernel
theorem dX1_giveRole_22 : decode cX1_giveRole 22 = .ok (.getfield 9, 3) := by decide +kernel
theorem dX1_giveRole_25 : decode cX1_giveRole 25 = .ok (.iload 5, 2) := by decide +kernel
theorem dX1_giveRole_27 : decode cX1_giveRole 27 = .ok (.iaload, 1) := by decide +kernel
theorem dX1_giveRole_28 : decode cX1_giveRole 28 = .ok (.iload_n 3, 1) := by decide +kernel
theorem dX1_giveRole_29 : decode cX1_giveRole 29 = .ok (.iload 4, 2) := by decide +kernel
theorem dX1_giveRole_31 : decode cX1_giveRole 31 = .ok (.invokestatic 92, 3) := by decide +kernel
theorem dX1_giveRole_34 : decode cX1_giveRole 34 = .ok (.iload_n 1, 1) := by decide +kernel
theorem dX1_giveRole_35 : decode cX1_giveRole 35 = .ok (.iload 5, 2) := by decide +kernel
theorem dX1_giveRole_37 : decode cX1_giveRole 37 = .ok (.sipush 4095, 3) := by decide +kernel
theorem dX1_giveRole_40 : decode cX1_giveRole 40 = .ok (.invokevirtual 79, 3) := by decide +kernel
theorem dX1_giveRole_43 : decode cX1_giveRole 43 = .ok (.iinc 4 1, 3) := by decide +kernel
theorem dX1_giveRole_46 : decode cX1_giveRole 46 = .ok (.goto (-43), 3) := by decide +kernel
theorem dX1_giveRole_49 : decode cX1_giveRole 49 = .ok (.return_, 1) := by decide +kernel
set_option maxRecDepth 20000 in
theorem ggX1_giveChain_X3_linkColumn : GoodIn wsX1_giveChain wsX3_linkColumn := goodIn_r _ [5] (by decide +kernel) (by decide +kernel)
set_option maxRecDepth 20000 in
theorem gX1_giveChain_X3_linkColumn_n92 : GoodIn wsX1_giveChain (wsX3_linkColumn) := ggX1_giveChain_X3_linkColumn
set_option maxRecDepth 20000 in
theorem ggX1_giveChain_X3_isIn : GoodIn wsX1_giveChain wsX3_isIn := goodIn_r _ [7] (by decide +kernel) (by decide +kernel)
set_option maxRecDepth 20000 in
theorem gX1_giveChain_X3_isIn_n112 : GoodIn wsX1_giveChain (wsX3_isIn) := ggX1_giveChain_X3_isIn
set_option maxRecDepth 20000 in
theorem ggX1_giveChain_X3_codeOf : GoodIn wsX1_giveChain wsX3_codeOf := goodIn_r _ [9] (by decide +kernel) (by decide +kernel)
set_option maxRecDepth 20000 in
theorem gX1_giveChain_X3_codeOf_n116 : GoodIn wsX1_giveChain (wsX3_codeOf) := ggX1_giveChain_X3_codeOf
set_option maxRecDepth 20000 in
theorem ggX1_giveChain_X1_give : GoodIn wsX1_giveChain wsX1_give := goodIn_r _ [14, 15, 16, 1, 17, 18, 6, 4, 7, 8, 9, 19, 20, 21, 22, 23, 24, 25, 26] (by decide +kernel) (by decide +kernel)
set_option maxRecDepth 20000 in
theorem gX1_giveChain_X1_give : GoodIn wsX1_giveChain (wsV RX1 79 RX1 yX1_give wsX1_give) := goodIn_app (goodIn_of _ (by decide +kernel)) ggX1_giveChain_X1_give
theorem dX1_giveChain_0 : decode cX1_giveChain 0 = .ok (.iconst 0, 1) := by decide +kernel
theorem dX1_giveChain_1 : decode cX1_giveChain 1 = .ok (.istore 5, 2) := by decide +kernel
theorem dX1_giveChain_3 : decode cX1_giveChain 3 = .ok (.iload 5, 2) := by decide +kernel
theorem dX1_giveChain_5 : decode cX1_giveChain 5 = .ok (.aload_n 0, 1) := by decide +kernel
theorem dX1_giveChain_6 : decode cX1_giveChain 6 = .ok (.getfield 25, 3) := by decide +kernel
theorem dX1_giveChain_9 : decode cX1_giveChain 9 = .ok (.if_icmp .ge 95, 3) := by decide +kernel
theorem dX1_giveChain_12 : decode cX1_giveChain 12 = .ok (.iload_n 3, 1) := by decide +kernel
theorem dX1_giveChain_13 : decode cX1_giveChain 13 = .ok (.iload 5, 2) := by decide +kernel
theorem dX1_giveChain_15 : decode cX1_giveChain 15 = .ok (.invokestatic 92, 3) := by decide +kernel
theorem dX1_giveChain_18 : decode cX1_giveChain 18 = .ok (.istore 6, 2) := by decide +kernel
theorem dX1_giveChain_20 : decode cX1_giveChain 20 = .ok (.aload_n 0, 1) := by decide +kernel
theorem dX1_giveChain_21 : decode cX1_giveChain 21 = .ok (.getfield 9, 3) := by decide +kernel
theorem dX1_giveChain_24 : decode cX1_giveChain 24 = .ok (.iload 6, 2) := by decide +kernel
theorem dX1_giveChain_26 : decode cX1_giveChain 26 = .ok (.iaload, 1) := by decide +kernel
theorem dX1_giveChain_27 : decode cX1_giveChain 27 = .ok (.istore 7, 2) := by decide +kernel
theorem dX1_giveChain_29 : decode cX1_giveChain 29 = .ok (.iconst 0, 1) := by decide +kernel
theorem dX1_giveChain_30 : decode cX1_giveChain 30 = .ok (.istore 8, 2) := by decide +kernel
theorem dX1_giveChain_32 : decode cX1_giveChain 32 = .ok (.iload 8, 2) := by decide +kernel
theorem dX1_giveChain_34 : decode cX1_giveChain 34 = .ok (.aload_n 0, 1) := by decide +kernel
theorem dX1_giveChain_35 : decode cX1_giveChain 35 = .ok (.getfield 25, 3) := by decide +kernel
theorem dX1_giveChain_38 : decode cX1_giveChain 38 = .ok (.if_icmp .ge 60, 3) := by decide +kernel
theorem dX1_giveChain_41 : decode cX1_giveChain 41 = .ok (.iload 7, 2) := by decide +kernel
theorem dX1_giveChain_43 : decode cX1_giveChain 43 = .ok (.ifCond .eq 55, 3) := by decide +kernel
theorem dX1_giveChain_46 : decode cX1_giveChain 46 = .ok (.iload 8, 2) := by decide +kernel
theorem dX1_giveChain_48 : decode cX1_giveChain 48 = .ok (.iload 7, 2) := by decide +kernel
theorem dX1_giveChain_50 : decode cX1_giveChain 50 = .ok (.invokestatic 112, 3) := by decide +kernel
theorem dX1_giveChain_53 : decode cX1_giveChain 53 = .ok (.ifCond .eq 39, 3) := by decide +kernel
theorem dX1_giveChain_56 : decode cX1_giveChain 56 = .ok (.iload_n 2, 1) := by decide +kernel
theorem dX1_giveChain_57 : decode cX1_giveChain 57 = .ok (.iload 8, 2) := by decide +kernel
theorem dX1_giveChain_59 : decode cX1_giveChain 59 = .ok (.invokestatic 92, 3) := by decide +kernel
theorem dX1_giveChain_62 : decode cX1_giveChain 62 = .ok (.istore 9, 2) := by decide +kernel
theorem dX1_giveChain_64 : decode cX1_giveChain 64 = .ok (.aload_n 0, 1) := by decide +kernel
theorem dX1_giveChain_65 : decode cX1_giveChain 65 = .ok (.aload_n 0, 1) := by decide +kernel
theorem dX1_giveChain_66 : decode cX1_giveChain 66 = .ok (.getfield 9, 3) := by decide +kernel
theorem dX1_giveChain_69 : decode cX1_giveChain 69 = .ok (.iload 9, 2) := by decide +kernel
theorem dX1_giveChain_71 : decode cX1_giveChain 71 = .ok (.iaload, 1) := by decide +kernel
theorem dX1_giveChain_72 : decode cX1_giveChain 72 = .ok (.iload 4, 2) := by decide +kernel
theorem dX1_giveChain_74 : decode cX1_giveChain 74 = .ok (.iload 5, 2) := by decide +kernel
theorem dX1_giveChain_76 : decode cX1_giveChain 76 = .ok (.invokestatic 92, 3) := by decide +kernel
theorem dX1_giveChain_79 : decode cX1_giveChain 79 = .ok (.iload_n 1, 1) := by decide +kernel
theorem dX1_giveChain_80 : decode cX1_giveChain 80 = .ok (.iload 9, 2) := by decide +kernel
theorem dX1_giveChain_82 : decode cX1_giveChain 82 = .ok (.iload 8, 2) := by decide +kernel
theorem dX1_giveChain_84 : decode cX1_giveChain 84 = .ok (.iload 6, 2) := by decide +kernel
theorem dX1_giveChain_86 : decode cX1_giveChain 86 = .ok (.invokestatic 116, 3) := by decide +kernel
theorem dX1_giveChain_89 : decode cX1_giveChain 89 = .ok (.invokevirtual 79, 3) := by decide +kernel
theorem dX1_giveChain_92 : decode cX1_giveChain 92 = .ok (.iinc 8 1, 3) := by decide +kernel
theorem dX1_giveChain_95 : decode cX1_giveChain 95 = .ok (.goto (-63), 3) := by decide +kernel
theorem dX1_giveChain_98 : decode cX1_giveChain 98 = .ok (.iinc 5 1, 3) := by decide +kernel
theorem dX1_giveChain_101 : decode cX1_giveChain 101 = .ok (.goto (-98), 3) := by decide +kernel
theorem dX1_giveChain_104 : decode cX1_giveChain 104 = .ok (.return_, 1) := by decide +kernel
set_option maxRecDepth 20000 in
theorem ggX1_give_X3_isIn : GoodIn wsX1_give wsX3_isIn := goodIn_r _ [8] (by decide +kernel) (by decide +kernel)
set_option maxRecDepth 20000 in
theorem gX1_give_X3_isIn_n112 : GoodIn wsX1_give (wsX3_isIn) := ggX1_give_X3_isIn
set_option maxRecDepth 20000 in
theorem ggX1_give_X3_codeOf : GoodIn wsX1_give wsX3_codeOf := goodIn_r _ [10] (by decide +kernel) (by decide +kernel)
set_option maxRecDepth 20000 in
theorem gX1_give_X3_codeOf_n116 : GoodIn wsX1_give (wsX3_codeOf) := ggX1_give_X3_codeOf
theorem dX1_give_0 : decode cX1_give 0 = .ok (.iload_n 1, 1) := by decide +kernel
theorem dX1_give_1 : decode cX1_give 1 = .ok (.aload_n 0, 1) := by decide +kernel
theorem dX1_give_2 : decode cX1_give 2 = .ok (.getfield 15, 3) := by decide +kernel
theorem dX1_give_5 : decode cX1_give 5 = .ok (.iload_n 2, 1) := by decide +kernel
theorem dX1_give_6 : decode cX1_give 6 = .ok (.iaload, 1) := by decide +kernel
theorem dX1_give_7 : decode cX1_give 7 = .ok (.iconst (-1), 1) := by decide +kernel
theorem dX1_give_8 : decode cX1_give 8 = .ok (.ixor, 1) := by decide +kernel
theorem dX1_give_9 : decode cX1_give 9 = .ok (.iand, 1) := by decide +kernel
theorem dX1_give_10 : decode cX1_give 10 = .ok (.istore 6, 2) := by decide +kernel
theorem dX1_give_12 : decode cX1_give 12 = .ok (.iload 6, 2) := by decide +kernel
theorem dX1_give_14 : decode cX1_give 14 = .ok (.ifCond .ne 4, 3) := by decide +kernel
theorem dX1_give_17 : decode cX1_give 17 = .ok (.return_, 1) := by decide +kernel
theorem dX1_give_18 : decode cX1_give 18 = .ok (.aload_n 0, 1) := by decide +kernel
theorem dX1_give_19 : decode cX1_give 19 = .ok (.getfield 15, 3) := by decide +kernel
theorem dX1_give_22 : decode cX1_give 22 = .ok (.iload_n 2, 1) := by decide +kernel
theorem dX1_give_23 : decode cX1_give 23 = .ok (.dup2, 1) := by decide +kernel
theorem dX1_give_24 : decode cX1_give 24 = .ok (.iaload, 1) := by decide +kernel
theorem dX1_give_25 : decode cX1_give 25 = .ok (.iload 6, 2) := by decide +kernel
theorem dX1_give_27 : decode cX1_give 27 = .ok (.ior, 1) := by decide +kernel
theorem dX1_give_28 : decode cX1_give 28 = .ok (.iastore, 1) := by decide +kernel
theorem dX1_give_29 : decode cX1_give 29 = .ok (.aload_n 0, 1) := by decide +kernel
theorem dX1_give_30 : decode cX1_give 30 = .ok (.dup, 1) := by decide +kernel
theorem dX1_give_31 : decode cX1_give 31 = .ok (.getfield 35, 3) := by decide +kernel
theorem dX1_give_34 : decode cX1_give 34 = .ok (.iload 6, 2) := by decide +kernel
theorem dX1_give_36 : decode cX1_give 36 = .ok (.ior, 1) := by decide +kernel
theorem dX1_give_37 : decode cX1_give 37 = .ok (.putfield 35, 3) := by decide +kernel
theorem dX1_give_40 : decode cX1_give 40 = .ok (.iconst 0, 1) := by decide +kernel
theorem dX1_give_41 : decode cX1_give 41 = .ok (.istore 7, 2) := by decide +kernel
theorem dX1_give_43 : decode cX1_give 43 = .ok (.iload 7, 2) := by decide +kernel
theorem dX1_give_45 : decode cX1_give 45 = .ok (.aload_n 0, 1) := by decide +kernel
theorem dX1_give_46 : decode cX1_give 46 = .ok (.getfield 25, 3) := by decide +kernel
theorem dX1_give_49 : decode cX1_give 49 = .ok (.if_icmp .ge 78, 3) := by decide +kernel
theorem dX1_give_52 : decode cX1_give 52 = .ok (.iload 7, 2) := by decide +kernel
theorem dX1_give_54 : decode cX1_give 54 = .ok (.iload 6, 2) := by decide +kernel
theorem dX1_give_56 : decode cX1_give 56 = .ok (.invokestatic 112, 3) := by decide +kernel
theorem dX1_give_59 : decode cX1_give 59 = .ok (.ifCond .eq 62, 3) := by decide +kernel
theorem dX1_give_62 : decode cX1_give 62 = .ok (.iload 4, 2) := by decide +kernel
theorem dX1_give_64 : decode cX1_give 64 = .ok (.sipush 4095, 3) := by decide +kernel
theorem dX1_give_67 : decode cX1_give 67 = .ok (.if_icmp .ne 9, 3) := by decide +kernel
theorem dX1_give_70 : decode cX1_give 70 = .ok (.sipush 4095, 3) := by decide +kernel
theorem dX1_give_73 : decode cX1_give 73 = .ok (.goto 10, 3) := by decide +kernel
theorem dX1_give_76 : decode cX1_give 76 = .ok (.iload 7, 2) := by decide +kernel
theorem dX1_give_78 : decode cX1_give 78 = .ok (.iload 4, 2) := by decide +kernel
theorem dX1_give_80 : decode cX1_give 80 = .ok (.invokestatic 116, 3) := by decide +kernel
theorem dX1_give_83 : decode cX1_give 83 = .ok (.istore 8, 2) := by decide +kernel
theorem dX1_give_85 : decode cX1_give 85 = .ok (.aload_n 0, 1) := by decide +kernel
theorem dX1_give_86 : decode cX1_give 86 = .ok (.getfield 18, 3) := by decide +kernel
theorem dX1_give_89 : decode cX1_give 89 = .ok (.iload 7, 2) := by decide +kernel
theorem dX1_give_91 : decode cX1_give 91 = .ok (.iload_n 2, 1) := by decide +kernel
theorem dX1_give_92 : decode cX1_give 92 = .ok (.invokestatic 116, 3) := by decide +kernel
theorem dX1_give_95 : decode cX1_give 95 = .ok (.aload_n 0, 1) := by decide +kernel
theorem dX1_give_96 : decode cX1_give 96 = .ok (.getfield 32, 3) := by decide +kernel
theorem dX1_give_99 : decode cX1_give 99 = .ok (.i2l, 1) := by decide +kernel
theorem dX1_give_100 : decode cX1_give 100 = .ok (.bipush 32, 2) := by decide +kernel
theorem dX1_give_102 : decode cX1_give 102 = .ok (.lshl, 1) := by decide +kernel
theorem dX1_give_103 : decode cX1_give 103 = .ok (.iload_n 3, 1) := by decide +kernel
theorem dX1_give_104 : decode cX1_give 104 = .ok (.i2l, 1) := by decide +kernel
theorem dX1_give_105 : decode cX1_give 105 = .ok (.bipush 24, 2) := by decide +kernel
theorem dX1_give_107 : decode cX1_give 107 = .ok (.lshl, 1) := by decide +kernel
theorem dX1_give_108 : decode cX1_give 108 = .ok (.lor, 1) := by decide +kernel
theorem dX1_give_109 : decode cX1_give 109 = .ok (.iload 8, 2) := by decide +kernel
theorem dX1_give_111 : decode cX1_give 111 = .ok (.i2l, 1) := by decide +kernel
theorem dX1_give_112 : decode cX1_give 112 = .ok (.bipush 12, 2) := by decide +kernel
theorem dX1_give_114 : decode cX1_give 114 = .ok (.lshl, 1) := by decide +kernel
theorem dX1_give_115 : decode cX1_give 115 = .ok (.lor, 1) := by decide +kernel
theorem dX1_give_116 : decode cX1_give 116 = .ok (.iload 5, 2) := by decide +kernel
theorem dX1_give_118 : decode cX1_give 118 = .ok (.i2l, 1) := by decide +kernel
theorem dX1_give_119 : decode cX1_give 119 = .ok (.lor, 1) := by decide +kernel
theorem dX1_give_120 : decode cX1_give 120 = .ok (.lastore, 1) := by decide +kernel
theorem dX1_give_121 : decode cX1_give 121 = .ok (.iinc 7 1, 3) := by decide +kernel
theorem dX1_give_124 : decode cX1_give 124 = .ok (.goto (-81), 3) := by decide +kernel
theorem dX1_give_127 : decode cX1_give 127 = .ok (.return_, 1) := by decide +kernel
set_option maxRecDepth 20000 in
theorem ggX1_endRound_X1_listColumns : GoodIn wsX1_endRound wsX1_listColumns := goodIn_r _ [7, 8, 1, 9, 10, 11, 12, 13, 14, 6, 15, 16, 17, 18, 19, 20, 21, 22, 23, 24, 25, 26, 27, 28, 29] (by decide +kernel) (by decide +kernel)
set_option maxRecDepth 20000 in
theorem gX1_endRound_X1_listColumns : GoodIn wsX1_endRound (wsV RX1 119 RX1 yX1_listColumns wsX1_listColumns) := goodIn_app (goodIn_of _ (by decide +kernel)) ggX1_endRound_X1_listColumns
theorem dX1_endRound_0 : decode cX1_endRound 0 = .ok (.aload_n 0, 1) := by decide +kernel
theorem dX1_endRound_1 : decode cX1_endRound 1 = .ok (.getfield 35, 3) := by decide +kernel
theorem dX1_endRound_4 : decode cX1_endRound 4 = .ok (.ifCond .ne 4, 3) := by decide +kernel
theorem dX1_endRound_7 : decode cX1_endRound 7 = .ok (.return_, 1) := by decide +kernel
theorem dX1_endRound_8 : decode cX1_endRound 8 = .ok (.aload_n 0, 1) := by decide +kernel
theorem dX1_endRound_9 : decode cX1_endRound 9 = .ok (.iconst 0, 1) := by decide +kernel
theorem dX1_endRound_10 : decode cX1_endRound 10 = .ok (.bipush 24, 2) := by decide +kernel
theorem dX1_endRound_12 : decode cX1_endRound 12 = .ok (.invokevirtual 119, 3) := by decide +kernel
theorem dX1_endRound_15 : decode cX1_endRound 15 = .ok (.aload_n 0, 1) := by decide +kernel
theorem dX1_endRound_16 : decode cX1_endRound 16 = .ok (.bipush 24, 2) := by decide +kernel
theorem dX1_endRound_18 : decode cX1_endRound 18 = .ok (.sipush 168, 3) := by decide +kernel
theorem dX1_endRound_21 : decode cX1_endRound 21 = .ok (.invokevirtual 119, 3) := by decide +kernel
theorem dX1_endRound_24 : decode cX1_endRound 24 = .ok (.aload_n 0, 1) := by decide +kernel
theorem dX1_endRound_25 : decode cX1_endRound 25 = .ok (.dup, 1) := by decide +kernel
theorem dX1_endRound_26 : decode cX1_endRound 26 = .ok (.getfield 32, 3) := by decide +kernel
theorem dX1_endRound_29 : decode cX1_endRound 29 = .ok (.iconst 1, 1) := by decide +kernel
theorem dX1_endRound_30 : decode cX1_endRound 30 = .ok (.iadd, 1) := by decide +kernel
theorem dX1_endRound_31 : decode cX1_endRound 31 = .ok (.putfield 32, 3) := by decide +kernel
theorem dX1_endRound_34 : decode cX1_endRound 34 = .ok (.return_, 1) := by decide +kernel
set_option maxRecDepth 20000 in
theorem ggX1_listColumns_X3_isIn : GoodIn wsX1_listColumns wsX3_isIn := goodIn_r _ [5] (by decide +kernel) (by decide +kernel)
set_option maxRecDepth 20000 in
theorem gX1_listColumns_X3_isIn_n112 : GoodIn wsX1_listColumns (wsX3_isIn) := ggX1_listColumns_X3_isIn
set_option maxRecDepth 20000 in
theorem ggX1_listColumns_X1_listFactsOf : GoodIn wsX1_listColumns wsX1_listFactsOf := goodIn_r _ [10, 11, 12, 13, 14, 3, 4, 5, 15, 16, 17, 18, 19, 20, 21, 22, 23, 24] (by decide +kernel) (by decide +kernel)
set_option maxRecDepth 20000 in
theorem gX1_listColumns_X1_listFactsOf : GoodIn wsX1_listColumns (wsV RX1 123 RX1 yX1_listFactsOf wsX1_listFactsOf) := goodIn_app (goodIn_of _ (by decide +kernel)) ggX1_listColumns_X1_listFactsOf
theorem dX1_listColumns_0 : decode cX1_listColumns 0 = .ok (.iconst 0, 1) := by decide +kernel
theorem dX1_listColumns_1 : decode cX1_listColumns 1 = .ok (.istore_n 3, 1) := by decide +kernel
theorem dX1_listColumns_2 : decode cX1_listColumns 2 = .ok (.iload_n 3, 1) := by decide +kernel
theorem dX1_listColumns_3 : decode cX1_listColumns 3 = .ok (.aload_n 0, 1) := by decide +kernel
theorem dX1_listColumns_4 : decode cX1_listColumns 4 = .ok (.getfield 25, 3) := by decide +kernel
theorem dX1_listColumns_7 : decode cX1_listColumns 7 = .ok (.if_icmp .ge 27, 3) := by decide +kernel
theorem dX1_listColumns_10 : decode cX1_listColumns 10 = .ok (.iload_n 3, 1) := by decide +kernel
theorem dX1_listColumns_11 : decode cX1_listColumns 11 = .ok (.aload_n 0, 1) := by decide +kernel
theorem dX1_listColumns_12 : decode cX1_listColumns 12 = .ok (.getfield 35, 3) := by decide +kernel
theorem dX1_listColumns_15 : decode cX1_listColumns 15 = .ok (.invokestatic 112, 3) := by decide +kernel
theorem dX1_listColumns_18 : decode cX1_listColumns 18 = .ok (.ifCond .eq 10, 3) := by decide +kernel
theorem dX1_listColumns_21 : decode cX1_listColumns 21 = .ok (.aload_n 0, 1) := by decide +kernel
theorem dX1_listColumns_22 : decode cX1_listColumns 22 = .ok (.iload_n 3, 1) := by decide +kernel
theorem dX1_listColumns_23 : decode cX1_listColumns 23 = .ok (.iload_n 1, 1) := by decide +kernel
theorem dX1_listColumns_24 : decode cX1_listColumns 24 = .ok (.iload_n 2, 1) := by decide +kernel
theorem dX1_listColumns_25 : decode cX1_listColumns 25 = .ok (.invokevirtual 123, 3) := by decide +kernel
theorem dX1_listColumns_28 : decode cX1_listColumns 28 = .ok (.iinc 3 1, 3) := by decide +kernel
theorem dX1_listColumns_31 : decode cX1_listColumns 31 = .ok (.goto (-29), 3) := by decide +kernel
theorem dX1_listColumns_34 : decode cX1_listColumns 34 = .ok (.return_, 1) := by decide +kernel
set_option maxRecDepth 20000 in
theorem ggX1_listFactsOf_X3_isIn : GoodIn wsX1_listFactsOf wsX3_isIn := goodIn_r _ [7] (by decide +kernel) (by decide +kernel)
set_option maxRecDepth 20000 in
theorem gX1_listFactsOf_X3_isIn_n112 : GoodIn wsX1_listFactsOf (wsX3_isIn) := ggX1_listFactsOf_X3_isIn
set_option maxRecDepth 20000 in
theorem ggX1_listFactsOf_X3_codeOf : GoodIn wsX1_listFactsOf wsX3_codeOf := goodIn_r _ [9] (by decide +kernel) (by decide +kernel)
set_option maxRecDepth 20000 in
theorem gX1_listFactsOf_X3_codeOf_n116 : GoodIn wsX1_listFactsOf (wsX3_codeOf) := ggX1_listFactsOf_X3_codeOf
theorem dX1_listFactsOf_0 : decode cX1_listFactsOf 0 = .ok (.iload_n 2, 1) := by decide +kernel
theorem dX1_listFactsOf_1 : decode cX1_listFactsOf 1 = .ok (.istore 4, 2) := by decide +kernel
theorem dX1_listFactsOf_3 : decode cX1_listFactsOf 3 = .ok (.iload 4, 2) := by decide +kernel
theorem dX1_listFactsOf_5 : decode cX1_listFactsOf 5 = .ok (.iload_n 3, 1) := by decide +kernel
theorem dX1_listFactsOf_6 : decode cX1_listFactsOf 6 = .ok (.if_icmp .ge 68, 3) := by decide +kernel
theorem dX1_listFactsOf_9 : decode cX1_listFactsOf 9 = .ok (.iload_n 1, 1) := by decide +kernel
theorem dX1_listFactsOf_10 : decode cX1_listFactsOf 10 = .ok (.aload_n 0, 1) := by decide +kernel
theorem dX1_listFactsOf_11 : decode cX1_listFactsOf 11 = .ok (.getfield 15, 3) := by decide +kernel
theorem dX1_listFactsOf_14 : decode cX1_listFactsOf 14 = .ok (.iload 4, 2) := by decide +kernel
theorem dX1_listFactsOf_16 : decode cX1_listFactsOf 16 = .ok (.iaload, 1) := by decide +kernel
theorem dX1_listFactsOf_17 : decode cX1_listFactsOf 17 = .ok (.aload_n 0, 1) := by decide +kernel
theorem dX1_listFactsOf_18 : decode cX1_listFactsOf 18 = .ok (.getfield 9, 3) := by decide +kernel
theorem dX1_listFactsOf_21 : decode cX1_listFactsOf 21 = .ok (.iload 4, 2) := by decide +kernel
theorem dX1_listFactsOf_23 : decode cX1_listFactsOf 23 = .ok (.iaload, 1) := by decide +kernel
theorem dX1_listFactsOf_24 : decode cX1_listFactsOf 24 = .ok (.iconst (-1), 1) := by decide +kernel
theorem dX1_listFactsOf_25 : decode cX1_listFactsOf 25 = .ok (.ixor, 1) := by decide +kernel
theorem dX1_listFactsOf_26 : decode cX1_listFactsOf 26 = .ok (.iand, 1) := by decide +kernel
theorem dX1_listFactsOf_27 : decode cX1_listFactsOf 27 = .ok (.invokestatic 112, 3) := by decide +kernel
theorem dX1_listFactsOf_30 : decode cX1_listFactsOf 30 = .ok (.ifCond .eq 38, 3) := by decide +kernel
theorem dX1_listFactsOf_33 : decode cX1_listFactsOf 33 = .ok (.aload_n 0, 1) := by decide +kernel
theorem dX1_listFactsOf_34 : decode cX1_listFactsOf 34 = .ok (.getfield 29, 3) := by decide +kernel
theorem dX1_listFactsOf_37 : decode cX1_listFactsOf 37 = .ok (.sipush 4032, 3) := by decide +kernel
theorem dX1_listFactsOf_40 : decode cX1_listFactsOf 40 = .ok (.if_icmp .ge 28, 3) := by decide +kernel
theorem dX1_listFactsOf_43 : decode cX1_listFactsOf 43 = .ok (.aload_n 0, 1) := by decide +kernel
theorem dX1_listFactsOf_44 : decode cX1_listFactsOf 44 = .ok (.getfield 22, 3) := by decide +kernel
theorem dX1_listFactsOf_47 : decode cX1_listFactsOf 47 = .ok (.aload_n 0, 1) := by decide +kernel
theorem dX1_listFactsOf_48 : decode cX1_listFactsOf 48 = .ok (.getfield 29, 3) := by decide +kernel
theorem dX1_listFactsOf_51 : decode cX1_listFactsOf 51 = .ok (.iload_n 1, 1) := by decide +kernel
theorem dX1_listFactsOf_52 : decode cX1_listFactsOf 52 = .ok (.iload 4, 2) := by decide +kernel
theorem dX1_listFactsOf_54 : decode cX1_listFactsOf 54 = .ok (.invokestatic 116, 3) := by decide +kernel
theorem dX1_listFactsOf_57 : decode cX1_listFactsOf 57 = .ok (.iastore, 1) := by decide +kernel
theorem dX1_listFactsOf_58 : decode cX1_listFactsOf 58 = .ok (.aload_n 0, 1) := by decide +kernel
theorem dX1_listFactsOf_59 : decode cX1_listFactsOf 59 = .ok (.dup, 1) := by decide +kernel
theorem dX1_listFactsOf_60 : decode cX1_listFactsOf 60 = .ok (.getfield 29, 3) := by decide +kernel
theorem dX1_listFactsOf_63 : decode cX1_listFactsOf 63 = .ok (.iconst 1, 1) := by decide +kernel
theorem dX1_listFactsOf_64 : decode cX1_listFactsOf 64 = .ok (.iadd, 1) := by decide +kernel
theorem dX1_listFactsOf_65 : decode cX1_listFactsOf 65 = .ok (.putfield 29, 3) := by decide +kernel
theorem dX1_listFactsOf_68 : decode cX1_listFactsOf 68 = .ok (.iinc 4 1, 3) := by decide +kernel
theorem dX1_listFactsOf_71 : decode cX1_listFactsOf 71 = .ok (.goto (-68), 3) := by decide +kernel
theorem dX1_listFactsOf_74 : decode cX1_listFactsOf 74 = .ok (.return_, 1) := by decide +kernel
set_option maxRecDepth 20000 in
theorem ggX1_has_X3_isIn : GoodIn wsX1_has wsX3_isIn := goodIn_r _ [4] (by decide +kernel) (by decide +kernel)
set_option maxRecDepth 20000 in
theorem gX1_has_X3_isIn_n112 : GoodIn wsX1_has (wsX3_isIn) := ggX1_has_X3_isIn
theorem dX1_has_0 : decode cX1_has 0 = .ok (.iload_n 1, 1) := by decide +kernel
theorem dX1_has_1 : decode cX1_has 1 = .ok (.aload_n 0, 1) := by decide +kernel
theorem dX1_has_2 : decode cX1_has 2 = .ok (.getfield 15, 3) := by decide +kernel
theorem dX1_has_5 : decode cX1_has 5 = .ok (.iload_n 2, 1) := by decide +kernel
theorem dX1_has_6 : decode cX1_has 6 = .ok (.iaload, 1) := by decide +kernel
theorem dX1_has_7 : decode cX1_has 7 = .ok (.invokestatic 112, 3) := by decide +kernel
theorem dX1_has_10 : decode cX1_has 10 = .ok (.ireturn, 1) := by decide +kernel
theorem dX1_follows_0 : decode cX1_follows 0 = .ok (.iload_n 1, 1) := by decide +kernel
theorem dX1_follows_1 : decode cX1_follows 1 = .ok (.ifCond .lt 25, 3) := by decide +kernel
theorem dX1_follows_4 : decode cX1_follows 4 = .ok (.iload_n 1, 1) := by decide +kernel
theorem dX1_follows_5 : decode cX1_follows 5 = .ok (.sipush 4032, 3) := by decide +kernel
theorem dX1_follows_8 : decode cX1_follows 8 = .ok (.if_icmp .ge 18, 3) := by decide +kernel
theorem dX1_follows_11 : decode cX1_follows 11 = .ok (.aload_n 0, 1) := by decide +kernel
theorem dX1_follows_12 : decode cX1_follows 12 = .ok (.getfield 18, 3) := by decide +kernel
theorem dX1_follows_15 : decode cX1_follows 15 = .ok (.iload_n 1, 1) := by decide +kernel
theorem dX1_follows_16 : decode cX1_follows 16 = .ok (.laload, 1) := by decide +kernel
theorem dX1_follows_17 : decode cX1_follows 17 = .ok (.lconst 0, 1) := by decide +kernel
theorem dX1_follows_18 : decode cX1_follows 18 = .ok (.lcmp, 1) := by decide +kernel
theorem dX1_follows_19 : decode cX1_follows 19 = .ok (.ifCond .lt 7, 3) := by decide +kernel
theorem dX1_follows_22 : decode cX1_follows 22 = .ok (.iconst 1, 1) := by decide +kernel
theorem dX1_follows_23 : decode cX1_follows 23 = .ok (.goto 4, 3) := by decide +kernel
theorem dX1_follows_26 : decode cX1_follows 26 = .ok (.iconst 0, 1) := by decide +kernel
theorem dX1_follows_27 : decode cX1_follows 27 = .ok (.ireturn, 1) := by decide +kernel
theorem dX1_roundOf_0 : decode cX1_roundOf 0 = .ok (.aload_n 0, 1) := by decide +kernel
theorem dX1_roundOf_1 : decode cX1_roundOf 1 = .ok (.getfield 18, 3) := by decide +kernel
theorem dX1_roundOf_4 : decode cX1_roundOf 4 = .ok (.iload_n 1, 1) := by decide +kernel
theorem dX1_roundOf_5 : decode cX1_roundOf 5 = .ok (.laload, 1) := by decide +kernel
theorem dX1_roundOf_6 : decode cX1_roundOf 6 = .ok (.bipush 32, 2) := by decide +kernel
theorem dX1_roundOf_8 : decode cX1_roundOf 8 = .ok (.lshr, 1) := by decide +kernel
theorem dX1_roundOf_9 : decode cX1_roundOf 9 = .ok (.l2i, 1) := by decide +kernel
theorem dX1_roundOf_10 : decode cX1_roundOf 10 = .ok (.ireturn, 1) := by decide +kernel
theorem dX1_axiomOf_0 : decode cX1_axiomOf 0 = .ok (.aload_n 0, 1) := by decide +kernel
theorem dX1_axiomOf_1 : decode cX1_axiomOf 1 = .ok (.getfield 18, 3) := by decide +kernel
theorem dX1_axiomOf_4 : decode cX1_axiomOf 4 = .ok (.iload_n 1, 1) := by decide +kernel
theorem dX1_axiomOf_5 : decode cX1_axiomOf 5 = .ok (.laload, 1) := by decide +kernel
theorem dX1_axiomOf_6 : decode cX1_axiomOf 6 = .ok (.bipush 24, 2) := by decide +kernel
theorem dX1_axiomOf_8 : decode cX1_axiomOf 8 = .ok (.lshr, 1) := by decide +kernel
theorem dX1_axiomOf_9 : decode cX1_axiomOf 9 = .ok (.l2i, 1) := by decide +kernel
theorem dX1_axiomOf_10 : decode cX1_axiomOf 10 = .ok (.sipush 255, 3) := by decide +kernel
theorem dX1_axiomOf_13 : decode cX1_axiomOf 13 = .ok (.iand, 1) := by decide +kernel
theorem dX1_axiomOf_14 : decode cX1_axiomOf 14 = .ok (.istore_n 2, 1) := by decide +kernel
theorem dX1_axiomOf_15 : decode cX1_axiomOf 15 = .ok (.iload_n 2, 1) := by decide +kernel
theorem dX1_axiomOf_16 : decode cX1_axiomOf 16 = .ok (.sipush 255, 3) := by decide +kernel
theorem dX1_axiomOf_19 : decode cX1_axiomOf 19 = .ok (.if_icmp .ne 7, 3) := by decide +kernel
theorem dX1_axiomOf_22 : decode cX1_axiomOf 22 = .ok (.iconst (-1), 1) := by decide +kernel
theorem dX1_axiomOf_23 : decode cX1_axiomOf 23 = .ok (.goto 4, 3) := by decide +kernel
theorem dX1_axiomOf_26 : decode cX1_axiomOf 26 = .ok (.iload_n 2, 1) := by decide +kernel
theorem dX1_axiomOf_27 : decode cX1_axiomOf 27 = .ok (.ireturn, 1) := by decide +kernel
theorem dX1_firstPremiseOf_0 : decode cX1_firstPremiseOf 0 = .ok (.aload_n 0, 1) := by decide +kernel
theorem dX1_firstPremiseOf_1 : decode cX1_firstPremiseOf 1 = .ok (.getfield 18, 3) := by decide +kernel
theorem dX1_firstPremiseOf_4 : decode cX1_firstPremiseOf 4 = .ok (.iload_n 1, 1) := by decide +kernel
theorem dX1_firstPremiseOf_5 : decode cX1_firstPremiseOf 5 = .ok (.laload, 1) := by decide +kernel
theorem dX1_firstPremiseOf_6 : decode cX1_firstPremiseOf 6 = .ok (.bipush 12, 2) := by decide +kernel
theorem dX1_firstPremiseOf_8 : decode cX1_firstPremiseOf 8 = .ok (.lshr, 1) := by decide +kernel
theorem dX1_firstPremiseOf_9 : decode cX1_firstPremiseOf 9 = .ok (.l2i, 1) := by decide +kernel
theorem dX1_firstPremiseOf_10 : decode cX1_firstPremiseOf 10 = .ok (.sipush 4095, 3) := by decide +kernel
theorem dX1_firstPremiseOf_13 : decode cX1_firstPremiseOf 13 = .ok (.iand, 1) := by decide +kernel
theorem dX1_firstPremiseOf_14 : decode cX1_firstPremiseOf 14 = .ok (.istore_n 2, 1) := by decide +kernel
theorem dX1_firstPremiseOf_15 : decode cX1_firstPremiseOf 15 = .ok (.iload_n 2, 1) := by decide +kernel
theorem dX1_firstPremiseOf_16 : decode cX1_firstPremiseOf 16 = .ok (.sipush 4095, 3) := by decide +kernel
theorem dX1_firstPremiseOf_19 : decode cX1_firstPremiseOf 19 = .ok (.if_icmp .ne 7, 3) := by decide +kernel
theorem dX1_firstPremiseOf_22 : decode cX1_firstPremiseOf 22 = .ok (.iconst (-1), 1) := by decide +kernel
theorem dX1_firstPremiseOf_23 : decode cX1_firstPremiseOf 23 = .ok (.goto 4, 3) := by decide +kernel
theorem dX1_firstPremiseOf_26 : decode cX1_firstPremiseOf 26 = .ok (.iload_n 2, 1) := by decide +kernel
theorem dX1_firstPremiseOf_27 : decode cX1_firstPremiseOf 27 = .ok (.ireturn, 1) := by decide +kernel
theorem dX1_secondPremiseOf_0 : decode cX1_secondPremiseOf 0 = .ok (.aload_n 0, 1) := by decide +kernel
theorem dX1_secondPremiseOf_1 : decode cX1_secondPremiseOf 1 = .ok (.getfield 18, 3) := by decide +kernel
theorem dX1_secondPremiseOf_4 : decode cX1_secondPremiseOf 4 = .ok (.iload_n 1, 1) := by decide +kernel
theorem dX1_secondPremiseOf_5 : decode cX1_secondPremiseOf 5 = .ok (.laload, 1) := by decide +kernel
theorem dX1_secondPremiseOf_6 : decode cX1_secondPremiseOf 6 = .ok (.l2i, 1) := by decide +kernel
theorem dX1_secondPremiseOf_7 : decode cX1_secondPremiseOf 7 = .ok (.sipush 4095, 3) := by decide +kernel
theorem dX1_secondPremiseOf_10 : decode cX1_secondPremiseOf 10 = .ok (.iand, 1) := by decide +kernel
theorem dX1_secondPremiseOf_11 : decode cX1_secondPremiseOf 11 = .ok (.istore_n 2, 1) := by decide +kernel
theorem dX1_secondPremiseOf_12 : decode cX1_secondPremiseOf 12 = .ok (.iload_n 2, 1) := by decide +kernel
theorem dX1_secondPremiseOf_13 : decode cX1_secondPremiseOf 13 = .ok (.sipush 4095, 3) := by decide +kernel
theorem dX1_secondPremiseOf_16 : decode cX1_secondPremiseOf 16 = .ok (.if_icmp .ne 7, 3) := by decide +kernel
theorem dX1_secondPremiseOf_19 : decode cX1_secondPremiseOf 19 = .ok (.iconst (-1), 1) := by decide +kernel
theorem dX1_secondPremiseOf_20 : decode cX1_secondPremiseOf 20 = .ok (.goto 4, 3) := by decide +kernel
theorem dX1_secondPremiseOf_23 : decode cX1_secondPremiseOf 23 = .ok (.iload_n 2, 1) := by decide +kernel
theorem dX1_secondPremiseOf_24 : decode cX1_secondPremiseOf 24 = .ok (.ireturn, 1) := by decide +kernel
set_option maxRecDepth 20000 in
theorem ggX1_areSame_X1_has : GoodIn wsX1_areSame wsX1_has := goodIn_r _ [5, 6, 7, 8, 9, 10, 11, 12, 13, 14, 15, 16, 17] (by decide +kernel) (by decide +kernel)
set_option maxRecDepth 20000 in
theorem gX1_areSame_X1_has : GoodIn wsX1_areSame (wsV RX1 126 RX1 yX1_has wsX1_has) := goodIn_app (goodIn_of _ (by decide +kernel)) ggX1_areSame_X1_has
theorem dX1_areSame_0 : decode cX1_areSame 0 = .ok (.aload_n 0, 1) := by decide +kernel
theorem dX1_areSame_1 : decode cX1_areSame 1 = .ok (.iload_n 1, 1) := by decide +kernel
theorem dX1_areSame_2 : decode cX1_areSame 2 = .ok (.iload_n 2, 1) := by decide +kernel
theorem dX1_areSame_3 : decode cX1_areSame 3 = .ok (.invokevirtual 126, 3) := by decide +kernel
theorem dX1_areSame_6 : decode cX1_areSame 6 = .ok (.ifCond .eq 16, 3) := by decide +kernel
theorem dX1_areSame_9 : decode cX1_areSame 9 = .ok (.aload_n 0, 1) := by decide +kernel
theorem dX1_areSame_10 : decode cX1_areSame 10 = .ok (.iload_n 2, 1) := by decide +kernel
theorem dX1_areSame_11 : decode cX1_areSame 11 = .ok (.iload_n 1, 1) := by decide +kernel
theorem dX1_areSame_12 : decode cX1_areSame 12 = .ok (.invokevirtual 126, 3) := by decide +kernel
theorem dX1_areSame_15 : decode cX1_areSame 15 = .ok (.ifCond .eq 7, 3) := by decide +kernel
theorem dX1_areSame_18 : decode cX1_areSame 18 = .ok (.iconst 1, 1) := by decide +kernel
theorem dX1_areSame_19 : decode cX1_areSame 19 = .ok (.goto 4, 3) := by decide +kernel
theorem dX1_areSame_22 : decode cX1_areSame 22 = .ok (.iconst 0, 1) := by decide +kernel
theorem dX1_areSame_23 : decode cX1_areSame 23 = .ok (.ireturn, 1) := by decide +kernel
set_option maxRecDepth 20000 in
theorem ggX1_leastSame_X1_areSame : GoodIn wsX1_leastSame wsX1_areSame := goodIn_r _ [5, 6, 7, 8, 4, 9, 10, 11, 12, 13, 14, 15, 16, 17, 18, 19, 20, 21] (by decide +kernel) (by decide +kernel)
set_option maxRecDepth 20000 in
theorem gX1_leastSame_X1_areSame : GoodIn wsX1_leastSame (wsV RX1 129 RX1 yX1_areSame wsX1_areSame) := goodIn_app (goodIn_of _ (by decide +kernel)) ggX1_leastSame_X1_areSame
theorem dX1_leastSame_0 : decode cX1_leastSame 0 = .ok (.iconst 0, 1) := by decide +kernel
theorem dX1_leastSame_1 : decode cX1_leastSame 1 = .ok (.istore_n 2, 1) := by decide +kernel
theorem dX1_leastSame_2 : decode cX1_leastSame 2 = .ok (.iload_n 2, 1) := by decide +kernel
theorem dX1_leastSame_3 : decode cX1_leastSame 3 = .ok (.iload_n 1, 1) := by decide +kernel
theorem dX1_leastSame_4 : decode cX1_leastSame 4 = .ok (.if_icmp .ge 20, 3) := by decide +kernel
theorem dX1_leastSame_7 : decode cX1_leastSame 7 = .ok (.aload_n 0, 1) := by decide +kernel
theorem dX1_leastSame_8 : decode cX1_leastSame 8 = .ok (.iload_n 1, 1) := by decide +kernel
theorem dX1_leastSame_9 : decode cX1_leastSame 9 = .ok (.iload_n 2, 1) := by decide +kernel
theorem dX1_leastSame_10 : decode cX1_leastSame 10 = .ok (.invokevirtual 129, 3) := by decide +kernel
theorem dX1_leastSame_13 : decode cX1_leastSame 13 = .ok (.ifCond .eq 5, 3) := by decide +kernel
theorem dX1_leastSame_16 : decode cX1_leastSame 16 = .ok (.iload_n 2, 1) := by decide +kernel
theorem dX1_leastSame_17 : decode cX1_leastSame 17 = .ok (.ireturn, 1) := by decide +kernel
theorem dX1_leastSame_18 : decode cX1_leastSame 18 = .ok (.iinc 2 1, 3) := by decide +kernel
theorem dX1_leastSame_21 : decode cX1_leastSame 21 = .ok (.goto (-19), 3) := by decide +kernel
theorem dX1_leastSame_24 : decode cX1_leastSame 24 = .ok (.iload_n 1, 1) := by decide +kernel
theorem dX1_leastSame_25 : decode cX1_leastSame 25 = .ok (.ireturn, 1) := by decide +kernel
set_option maxRecDepth 20000 in
theorem ggX1_parentOf_X1_has : GoodIn wsX1_parentOf wsX1_has := goodIn_r _ [6, 7, 8, 9, 10, 23, 24, 25, 26, 27, 28, 29, 30] (by decide +kernel) (by decide +kernel)
set_option maxRecDepth 20000 in
theorem gX1_parentOf_X1_has : GoodIn wsX1_parentOf (wsV RX1 126 RX1 yX1_has wsX1_has) := goodIn_app (goodIn_of _ (by decide +kernel)) ggX1_parentOf_X1_has
set_option maxRecDepth 20000 in
theorem ggX1_parentOf_X1_isParent : GoodIn wsX1_parentOf wsX1_isParent := goodIn_r _ [14, 1, 2, 3, 4, 5, 6, 7, 8, 9, 10, 15, 16, 17, 18, 19, 20, 21, 22, 23, 24, 25, 26, 27, 28, 29, 30] (by decide +kernel) (by decide +kernel)
set_option maxRecDepth 20000 in
theorem gX1_parentOf_X1_isParent : GoodIn wsX1_parentOf (wsV RX1 132 RX1 yX1_isParent wsX1_isParent) := goodIn_app (goodIn_of _ (by decide +kernel)) ggX1_parentOf_X1_isParent
theorem dX1_parentOf_0 : decode cX1_parentOf 0 = .ok (.aload_n 0, 1) := by decide +kernel
theorem dX1_parentOf_1 : decode cX1_parentOf 1 = .ok (.iload_n 1, 1) := by decide +kernel
theorem dX1_parentOf_2 : decode cX1_parentOf 2 = .ok (.iconst 1, 1) := by decide +kernel
theorem dX1_parentOf_3 : decode cX1_parentOf 3 = .ok (.invokevirtual 126, 3) := by decide +kernel
theorem dX1_parentOf_6 : decode cX1_parentOf 6 = .ok (.ifCond .eq 5, 3) := by decide +kernel
theorem dX1_parentOf_9 : decode cX1_parentOf 9 = .ok (.iconst (-1), 1) := by decide +kernel
theorem dX1_parentOf_10 : decode cX1_parentOf 10 = .ok (.ireturn, 1) := by decide +kernel
theorem dX1_parentOf_11 : decode cX1_parentOf 11 = .ok (.iconst 0, 1) := by decide +kernel
theorem dX1_parentOf_12 : decode cX1_parentOf 12 = .ok (.istore_n 3, 1) := by decide +kernel
theorem dX1_parentOf_13 : decode cX1_parentOf 13 = .ok (.iconst 0, 1) := by decide +kernel
theorem dX1_parentOf_14 : decode cX1_parentOf 14 = .ok (.istore 4, 2) := by decide +kernel
theorem dX1_parentOf_16 : decode cX1_parentOf 16 = .ok (.iload 4, 2) := by decide +kernel
theorem dX1_parentOf_18 : decode cX1_parentOf 18 = .ok (.aload_n 0, 1) := by decide +kernel
theorem dX1_parentOf_19 : decode cX1_parentOf 19 = .ok (.getfield 25, 3) := by decide +kernel
theorem dX1_parentOf_22 : decode cX1_parentOf 22 = .ok (.if_icmp .ge 30, 3) := by decide +kernel
theorem dX1_parentOf_25 : decode cX1_parentOf 25 = .ok (.aload_n 0, 1) := by decide +kernel
theorem dX1_parentOf_26 : decode cX1_parentOf 26 = .ok (.iload_n 1, 1) := by decide +kernel
theorem dX1_parentOf_27 : decode cX1_parentOf 27 = .ok (.iload 4, 2) := by decide +kernel
theorem dX1_parentOf_29 : decode cX1_parentOf 29 = .ok (.invokevirtual 132, 3) := by decide +kernel
theorem dX1_parentOf_32 : decode cX1_parentOf 32 = .ok (.ifCond .eq 14, 3) := by decide +kernel
theorem dX1_parentOf_35 : decode cX1_parentOf 35 = .ok (.iload_n 3, 1) := by decide +kernel
theorem dX1_parentOf_36 : decode cX1_parentOf 36 = .ok (.iload_n 2, 1) := by decide +kernel
theorem dX1_parentOf_37 : decode cX1_parentOf 37 = .ok (.if_icmp .ne 6, 3) := by decide +kernel
theorem dX1_parentOf_40 : decode cX1_parentOf 40 = .ok (.iload 4, 2) := by decide +kernel
theorem dX1_parentOf_42 : decode cX1_parentOf 42 = .ok (.ireturn, 1) := by decide +kernel
theorem dX1_parentOf_43 : decode cX1_parentOf 43 = .ok (.iinc 3 1, 3) := by decide +kernel
theorem dX1_parentOf_46 : decode cX1_parentOf 46 = .ok (.iinc 4 1, 3) := by decide +kernel
theorem dX1_parentOf_49 : decode cX1_parentOf 49 = .ok (.goto (-33), 3) := by decide +kernel
theorem dX1_parentOf_52 : decode cX1_parentOf 52 = .ok (.iconst (-1), 1) := by decide +kernel
theorem dX1_parentOf_53 : decode cX1_parentOf 53 = .ok (.ireturn, 1) := by decide +kernel
set_option maxRecDepth 20000 in
theorem ggX1_isParent_X1_has : GoodIn wsX1_isParent wsX1_has := goodIn_r _ [6, 7, 8, 9, 10, 19, 20, 21, 22, 23, 24, 25, 26] (by decide +kernel) (by decide +kernel)
set_option maxRecDepth 20000 in
theorem gX1_isParent_X1_has : GoodIn wsX1_isParent (wsV RX1 126 RX1 yX1_has wsX1_has) := goodIn_app (goodIn_of _ (by decide +kernel)) ggX1_isParent_X1_has
set_option maxRecDepth 20000 in
theorem ggX1_isParent_X1_leastSame : GoodIn wsX1_isParent wsX1_leastSame := goodIn_r _ [14, 15, 16, 17, 5, 18, 2, 3, 4, 6, 7, 8, 9, 10, 19, 20, 21, 22, 23, 24, 25, 26] (by decide +kernel) (by decide +kernel)
set_option maxRecDepth 20000 in
theorem gX1_isParent_X1_leastSame : GoodIn wsX1_isParent (wsV RX1 135 RX1 yX1_leastSame wsX1_leastSame) := goodIn_app (goodIn_of _ (by decide +kernel)) ggX1_isParent_X1_leastSame
set_option maxRecDepth 20000 in
theorem ggX1_isParent_X1_areSame : GoodIn wsX1_isParent wsX1_areSame := goodIn_r _ [18, 2, 3, 4, 5, 6, 7, 8, 9, 10, 19, 20, 21, 22, 23, 24, 25, 26] (by decide +kernel) (by decide +kernel)
set_option maxRecDepth 20000 in
theorem gX1_isParent_X1_areSame : GoodIn wsX1_isParent (wsV RX1 129 RX1 yX1_areSame wsX1_areSame) := goodIn_app (goodIn_of _ (by decide +kernel)) ggX1_isParent_X1_areSame
theorem dX1_isParent_0 : decode cX1_isParent 0 = .ok (.aload_n 0, 1) := by decide +kernel
theorem dX1_isParent_1 : decode cX1_isParent 1 = .ok (.iload_n 1, 1) := by decide +kernel
theorem dX1_isParent_2 : decode cX1_isParent 2 = .ok (.iload_n 2, 1) := by decide +kernel
theorem dX1_isParent_3 : decode cX1_isParent 3 = .ok (.invokevirtual 126, 3) := by decide +kernel
theorem dX1_isParent_6 : decode cX1_isParent 6 = .ok (.ifCond .eq 21, 3) := by decide +kernel
theorem dX1_isParent_9 : decode cX1_isParent 9 = .ok (.aload_n 0, 1) := by decide +kernel
theorem dX1_isParent_10 : decode cX1_isParent 10 = .ok (.iload_n 2, 1) := by decide +kernel
theorem dX1_isParent_11 : decode cX1_isParent 11 = .ok (.iload_n 1, 1) := by decide +kernel
theorem dX1_isParent_12 : decode cX1_isParent 12 = .ok (.invokevirtual 126, 3) := by decide +kernel
theorem dX1_isParent_15 : decode cX1_isParent 15 = .ok (.ifCond .ne 12, 3) := by decide +kernel
theorem dX1_isParent_18 : decode cX1_isParent 18 = .ok (.aload_n 0, 1) := by decide +kernel
theorem dX1_isParent_19 : decode cX1_isParent 19 = .ok (.iload_n 2, 1) := by decide +kernel
theorem dX1_isParent_20 : decode cX1_isParent 20 = .ok (.invokevirtual 135, 3) := by decide +kernel
theorem dX1_isParent_23 : decode cX1_isParent 23 = .ok (.iload_n 2, 1) := by decide +kernel
theorem dX1_isParent_24 : decode cX1_isParent 24 = .ok (.if_icmp .eq 5, 3) := by decide +kernel
theorem dX1_isParent_27 : decode cX1_isParent 27 = .ok (.iconst 0, 1) := by decide +kernel
theorem dX1_isParent_28 : decode cX1_isParent 28 = .ok (.ireturn, 1) := by decide +kernel
theorem dX1_isParent_29 : decode cX1_isParent 29 = .ok (.iconst 0, 1) := by decide +kernel
theorem dX1_isParent_30 : decode cX1_isParent 30 = .ok (.istore_n 3, 1) := by decide +kernel
theorem dX1_isParent_31 : decode cX1_isParent 31 = .ok (.iload_n 3, 1) := by decide +kernel
theorem dX1_isParent_32 : decode cX1_isParent 32 = .ok (.aload_n 0, 1) := by decide +kernel
theorem dX1_isParent_33 : decode cX1_isParent 33 = .ok (.getfield 25, 3) := by decide +kernel
theorem dX1_isParent_36 : decode cX1_isParent 36 = .ok (.if_icmp .ge 47, 3) := by decide +kernel
theorem dX1_isParent_39 : decode cX1_isParent 39 = .ok (.aload_n 0, 1) := by decide +kernel
theorem dX1_isParent_40 : decode cX1_isParent 40 = .ok (.iload_n 1, 1) := by decide +kernel
theorem dX1_isParent_41 : decode cX1_isParent 41 = .ok (.iload_n 3, 1) := by decide +kernel
theorem dX1_isParent_42 : decode cX1_isParent 42 = .ok (.invokevirtual 126, 3) := by decide +kernel
theorem dX1_isParent_45 : decode cX1_isParent 45 = .ok (.ifCond .eq 32, 3) := by decide +kernel
theorem dX1_isParent_48 : decode cX1_isParent 48 = .ok (.aload_n 0, 1) := by decide +kernel
theorem dX1_isParent_49 : decode cX1_isParent 49 = .ok (.iload_n 3, 1) := by decide +kernel
theorem dX1_isParent_50 : decode cX1_isParent 50 = .ok (.iload_n 2, 1) := by decide +kernel
theorem dX1_isParent_51 : decode cX1_isParent 51 = .ok (.invokevirtual 126, 3) := by decide +kernel
theorem dX1_isParent_54 : decode cX1_isParent 54 = .ok (.ifCond .eq 23, 3) := by decide +kernel
theorem dX1_isParent_57 : decode cX1_isParent 57 = .ok (.aload_n 0, 1) := by decide +kernel
theorem dX1_isParent_58 : decode cX1_isParent 58 = .ok (.iload_n 3, 1) := by decide +kernel
theorem dX1_isParent_59 : decode cX1_isParent 59 = .ok (.iload_n 1, 1) := by decide +kernel
theorem dX1_isParent_60 : decode cX1_isParent 60 = .ok (.invokevirtual 129, 3) := by decide +kernel
theorem dX1_isParent_63 : decode cX1_isParent 63 = .ok (.ifCond .ne 14, 3) := by decide +kernel
theorem dX1_isParent_66 : decode cX1_isParent 66 = .ok (.aload_n 0, 1) := by decide +kernel
theorem dX1_isParent_67 : decode cX1_isParent 67 = .ok (.iload_n 3, 1) := by decide +kernel
theorem dX1_isParent_68 : decode cX1_isParent 68 = .ok (.iload_n 2, 1) := by decide +kernel
theorem dX1_isParent_69 : decode cX1_isParent 69 = .ok (.invokevirtual 129, 3) := by decide +kernel
theorem dX1_isParent_72 : decode cX1_isParent 72 = .ok (.ifCond .ne 5, 3) := by decide +kernel
theorem dX1_isParent_75 : decode cX1_isParent 75 = .ok (.iconst 0, 1) := by decide +kernel
theorem dX1_isParent_76 : decode cX1_isParent 76 = .ok (.ireturn, 1) := by decide +kernel
theorem dX1_isParent_77 : decode cX1_isParent 77 = .ok (.iinc 3 1, 3) := by decide +kernel
theorem dX1_isParent_80 : decode cX1_isParent 80 = .ok (.goto (-49), 3) := by decide +kernel
theorem dX1_isParent_83 : decode cX1_isParent 83 = .ok (.iconst 1, 1) := by decide +kernel
theorem dX1_isParent_84 : decode cX1_isParent 84 = .ok (.ireturn, 1) := by decide +kernel
theorem dX2_init_0 : decode cX2_init 0 = .ok (.aload_n 0, 1) := by decide +kernel
theorem dX2_init_1 : decode cX2_init 1 = .ok (.invokespecial 3, 3) := by decide +kernel
theorem dX2_init_4 : decode cX2_init 4 = .ok (.aload_n 0, 1) := by decide +kernel
theorem dX2_init_5 : decode cX2_init 5 = .ok (.sipush 4032, 3) := by decide +kernel
theorem dX2_init_8 : decode cX2_init 8 = .ok (.newarray .int, 2) := by decide +kernel
theorem dX2_init_10 : decode cX2_init 10 = .ok (.putfield 9, 3) := by decide +kernel
theorem dX2_init_13 : decode cX2_init 13 = .ok (.aload_n 0, 1) := by decide +kernel
theorem dX2_init_14 : decode cX2_init 14 = .ok (.bipush 63, 2) := by decide +kernel
theorem dX2_init_16 : decode cX2_init 16 = .ok (.newarray .long, 2) := by decide +kernel
theorem dX2_init_18 : decode cX2_init 18 = .ok (.putfield 15, 3) := by decide +kernel
theorem dX2_init_21 : decode cX2_init 21 = .ok (.aload_n 0, 1) := by decide +kernel
theorem dX2_init_22 : decode cX2_init 22 = .ok (.iconst 0, 1) := by decide +kernel
theorem dX2_init_23 : decode cX2_init 23 = .ok (.putfield 19, 3) := by decide +kernel
theorem dX2_init_26 : decode cX2_init 26 = .ok (.return_, 1) := by decide +kernel
set_option maxRecDepth 20000 in
theorem ggX2_take_X1_follows : GoodIn wsX2_take wsX1_follows := goodIn_r _ [7, 8, 31, 32, 33, 34, 35, 36, 37, 38] (by decide +kernel) (by decide +kernel)
set_option maxRecDepth 20000 in
theorem gX2_take_X1_follows_n23 : GoodIn wsX2_take (wsX1_follows) := ggX2_take_X1_follows
set_option maxRecDepth 20000 in
theorem ggX2_take_J7_fill_d0a16 : GoodIn wsX2_take wsJ7_fill_d0a16 := goodIn_r _ [12] (by decide +kernel) (by decide +kernel)
set_option maxRecDepth 20000 in
theorem gX2_take_J7_fill_d0a16 : GoodIn wsX2_take (va_wsS RX2 29 yJ7_fill_d0a16 wsJ7_fill_d0a16) := goodIn_app (goodIn_of _ (by decide +kernel)) ggX2_take_J7_fill_d0a16
set_option maxRecDepth 20000 in
theorem ggX2_take_X2_need : GoodIn wsX2_take wsX2_need := goodIn_r _ [17, 2, 28, 29, 30] (by decide +kernel) (by decide +kernel)
set_option maxRecDepth 20000 in
theorem gX2_take_X2_need : GoodIn wsX2_take (wsV RX2 35 RX2 yX2_need wsX2_need) := goodIn_app (goodIn_of _ (by decide +kernel)) ggX2_take_X2_need
set_option maxRecDepth 20000 in
theorem ggX2_take_X2_isNeeded : GoodIn wsX2_take wsX2_isNeeded := goodIn_r _ [21, 2, 28, 29, 30] (by decide +kernel) (by decide +kernel)
set_option maxRecDepth 20000 in
theorem gX2_take_X2_isNeeded : GoodIn wsX2_take (wsV RX2 45 RX2 yX2_isNeeded wsX2_isNeeded) := goodIn_app (goodIn_of _ (by decide +kernel)) ggX2_take_X2_isNeeded
set_option maxRecDepth 20000 in
theorem ggX2_take_X1_firstPremiseOf : GoodIn wsX2_take wsX1_firstPremiseOf := goodIn_r _ [24, 8, 31, 32, 33, 34, 35, 36, 37, 38] (by decide +kernel) (by decide +kernel)
set_option maxRecDepth 20000 in
theorem gX2_take_X1_firstPremiseOf_n48 : GoodIn wsX2_take (wsX1_firstPremiseOf) := ggX2_take_X1_firstPremiseOf
set_option maxRecDepth 20000 in
theorem ggX2_take_X1_secondPremiseOf : GoodIn wsX2_take wsX1_secondPremiseOf := goodIn_r _ [27, 8, 31, 32, 33, 34, 35, 36, 37, 38] (by decide +kernel) (by decide +kernel)
set_option maxRecDepth 20000 in
theorem gX2_take_X1_secondPremiseOf_n52 : GoodIn wsX2_take (wsX1_secondPremiseOf) := ggX2_take_X1_secondPremiseOf
theorem dX2_take_0 : decode cX2_take 0 = .ok (.aload_n 0, 1) := by decide +kernel
theorem dX2_take_1 : decode cX2_take 1 = .ok (.iconst 0, 1) := by decide +kernel
theorem dX2_take_2 : decode cX2_take 2 = .ok (.putfield 19, 3) := by decide +kernel
theorem dX2_take_5 : decode cX2_take 5 = .ok (.aload_n 1, 1) := by decide +kernel
theorem dX2_take_6 : decode cX2_take 6 = .ok (.iload_n 2, 1) := by decide +kernel
theorem dX2_take_7 : decode cX2_take 7 = .ok (.invokevirtual 23, 3) := by decide +kernel
theorem dX2_take_10 : decode cX2_take 10 = .ok (.ifCond .ne 4, 3) := by decide +kernel
theorem dX2_take_13 : decode cX2_take 13 = .ok (.return_, 1) := by decide +kernel
theorem dX2_take_14 : decode cX2_take 14 = .ok (.aload_n 0, 1) := by decide +kernel
theorem dX2_take_15 : decode cX2_take 15 = .ok (.getfield 15, 3) := by decide +kernel
theorem dX2_take_18 : decode cX2_take 18 = .ok (.lconst 0, 1) := by decide +kernel
theorem dX2_take_19 : decode cX2_take 19 = .ok (.invokestatic 29, 3) := by decide +kernel
theorem dX2_take_22 : decode cX2_take 22 = .ok (.aload_n 0, 1) := by decide +kernel
theorem dX2_take_23 : decode cX2_take 23 = .ok (.iload_n 2, 1) := by decide +kernel
theorem dX2_take_24 : decode cX2_take 24 = .ok (.invokevirtual 35, 3) := by decide +kernel
theorem dX2_take_27 : decode cX2_take 27 = .ok (.aload_n 1, 1) := by decide +kernel
theorem dX2_take_28 : decode cX2_take 28 = .ok (.getfield 39, 3) := by decide +kernel
theorem dX2_take_31 : decode cX2_take 31 = .ok (.iconst 1, 1) := by decide +kernel
theorem dX2_take_32 : decode cX2_take 32 = .ok (.isub, 1) := by decide +kernel
theorem dX2_take_33 : decode cX2_take 33 = .ok (.istore_n 3, 1) := by decide +kernel
theorem dX2_take_34 : decode cX2_take 34 = .ok (.iload_n 3, 1) := by decide +kernel
theorem dX2_take_35 : decode cX2_take 35 = .ok (.ifCond .lt 50, 3) := by decide +kernel
theorem dX2_take_38 : decode cX2_take 38 = .ok (.aload_n 0, 1) := by decide +kernel
theorem dX2_take_39 : decode cX2_take 39 = .ok (.aload_n 1, 1) := by decide +kernel
theorem dX2_take_40 : decode cX2_take 40 = .ok (.getfield 42, 3) := by decide +kernel
theorem dX2_take_43 : decode cX2_take 43 = .ok (.iload_n 3, 1) := by decide +kernel
theorem dX2_take_44 : decode cX2_take 44 = .ok (.iaload, 1) := by decide +kernel
theorem dX2_take_45 : decode cX2_take 45 = .ok (.invokevirtual 45, 3) := by decide +kernel
theorem dX2_take_48 : decode cX2_take 48 = .ok (.ifCond .eq 31, 3) := by decide +kernel
theorem dX2_take_51 : decode cX2_take 51 = .ok (.aload_n 0, 1) := by decide +kernel
theorem dX2_take_52 : decode cX2_take 52 = .ok (.aload_n 1, 1) := by decide +kernel
theorem dX2_take_53 : decode cX2_take 53 = .ok (.aload_n 1, 1) := by decide +kernel
theorem dX2_take_54 : decode cX2_take 54 = .ok (.getfield 42, 3) := by decide +kernel
theorem dX2_take_57 : decode cX2_take 57 = .ok (.iload_n 3, 1) := by decide +kernel
theorem dX2_take_58 : decode cX2_take 58 = .ok (.iaload, 1) := by decide +kernel
theorem dX2_take_59 : decode cX2_take 59 = .ok (.invokevirtual 48, 3) := by decide +kernel
theorem dX2_take_62 : decode cX2_take 62 = .ok (.invokevirtual 35, 3) := by decide +kernel
theorem dX2_take_65 : decode cX2_take 65 = .ok (.aload_n 0, 1) := by decide +kernel
theorem dX2_take_66 : decode cX2_take 66 = .ok (.aload_n 1, 1) := by decide +kernel
theorem dX2_take_67 : decode cX2_take 67 = .ok (.aload_n 1, 1) := by decide +kernel
theorem dX2_take_68 : decode cX2_take 68 = .ok (.getfield 42, 3) := by decide +kernel
theorem dX2_take_71 : decode cX2_take 71 = .ok (.iload_n 3, 1) := by decide +kernel
theorem dX2_take_72 : decode cX2_take 72 = .ok (.iaload, 1) := by decide +kernel
theorem dX2_take_73 : decode cX2_take 73 = .ok (.invokevirtual 52, 3) := by decide +kernel
theorem dX2_take_76 : decode cX2_take 76 = .ok (.invokevirtual 35, 3) := by decide +kernel
theorem dX2_take_79 : decode cX2_take 79 = .ok (.iinc 3 (-1), 3) := by decide +kernel
theorem dX2_take_82 : decode cX2_take 82 = .ok (.goto (-48), 3) := by decide +kernel
theorem dX2_take_85 : decode cX2_take 85 = .ok (.iconst 0, 1) := by decide +kernel
theorem dX2_take_86 : decode cX2_take 86 = .ok (.istore_n 3, 1) := by decide +kernel
theorem dX2_take_87 : decode cX2_take 87 = .ok (.iload_n 3, 1) := by decide +kernel
theorem dX2_take_88 : decode cX2_take 88 = .ok (.aload_n 1, 1) := by decide +kernel
theorem dX2_take_89 : decode cX2_take 89 = .ok (.getfield 39, 3) := by decide +kernel
theorem dX2_take_92 : decode cX2_take 92 = .ok (.if_icmp .ge 47, 3) := by decide +kernel
theorem dX2_take_95 : decode cX2_take 95 = .ok (.aload_n 0, 1) := by decide +kernel
theorem dX2_take_96 : decode cX2_take 96 = .ok (.aload_n 1, 1) := by decide +kernel
theorem dX2_take_97 : decode cX2_take 97 = .ok (.getfield 42, 3) := by decide +kernel
theorem dX2_take_100 : decode cX2_take 100 = .ok (.iload_n 3, 1) := by decide +kernel
theorem dX2_take_101 : decode cX2_take 101 = .ok (.iaload, 1) := by decide +kernel
theorem dX2_take_102 : decode cX2_take 102 = .ok (.invokevirtual 45, 3) := by decide +kernel
theorem dX2_take_105 : decode cX2_take 105 = .ok (.ifCond .eq 28, 3) := by decide +kernel
theorem dX2_take_108 : decode cX2_take 108 = .ok (.aload_n 0, 1) := by decide +kernel
theorem dX2_take_109 : decode cX2_take 109 = .ok (.getfield 9, 3) := by decide +kernel
theorem dX2_take_112 : decode cX2_take 112 = .ok (.aload_n 0, 1) := by decide +kernel
theorem dX2_take_113 : decode cX2_take 113 = .ok (.getfield 19, 3) := by decide +kernel
theorem dX2_take_116 : decode cX2_take 116 = .ok (.aload_n 1, 1) := by decide +kernel
theorem dX2_take_117 : decode cX2_take 117 = .ok (.getfield 42, 3) := by decide +kernel
theorem dX2_take_120 : decode cX2_take 120 = .ok (.iload_n 3, 1) := by decide +kernel
theorem dX2_take_121 : decode cX2_take 121 = .ok (.iaload, 1) := by decide +kernel
theorem dX2_take_122 : decode cX2_take 122 = .ok (.iastore, 1) := by decide +kernel
theorem dX2_take_123 : decode cX2_take 123 = .ok (.aload_n 0, 1) := by decide +kernel
theorem dX2_take_124 : decode cX2_take 124 = .ok (.dup, 1) := by decide +kernel
theorem dX2_take_125 : decode cX2_take 125 = .ok (.getfield 19, 3) := by decide +kernel
theorem dX2_take_128 : decode cX2_take 128 = .ok (.iconst 1, 1) := by decide +kernel
theorem dX2_take_129 : decode cX2_take 129 = .ok (.iadd, 1) := by decide +kernel
theorem dX2_take_130 : decode cX2_take 130 = .ok (.putfield 19, 3) := by decide +kernel
theorem dX2_take_133 : decode cX2_take 133 = .ok (.iinc 3 1, 3) := by decide +kernel
theorem dX2_take_136 : decode cX2_take 136 = .ok (.goto (-49), 3) := by decide +kernel
theorem dX2_take_139 : decode cX2_take 139 = .ok (.return_, 1) := by decide +kernel
theorem dX2_need_0 : decode cX2_need 0 = .ok (.iload_n 1, 1) := by decide +kernel
theorem dX2_need_1 : decode cX2_need 1 = .ok (.ifCond .lt 28, 3) := by decide +kernel
theorem dX2_need_4 : decode cX2_need 4 = .ok (.iload_n 1, 1) := by decide +kernel
theorem dX2_need_5 : decode cX2_need 5 = .ok (.sipush 4032, 3) := by decide +kernel
theorem dX2_need_8 : decode cX2_need 8 = .ok (.if_icmp .ge 21, 3) := by decide +kernel
theorem dX2_need_11 : decode cX2_need 11 = .ok (.aload_n 0, 1) := by decide +kernel
theorem dX2_need_12 : decode cX2_need 12 = .ok (.getfield 15, 3) := by decide +kernel
theorem dX2_need_15 : decode cX2_need 15 = .ok (.iload_n 1, 1) := by decide +kernel
theorem dX2_need_16 : decode cX2_need 16 = .ok (.bipush 6, 2) := by decide +kernel
theorem dX2_need_18 : decode cX2_need 18 = .ok (.ishr, 1) := by decide +kernel
theorem dX2_need_19 : decode cX2_need 19 = .ok (.dup2, 1) := by decide +kernel
theorem dX2_need_20 : decode cX2_need 20 = .ok (.laload, 1) := by decide +kernel
theorem dX2_need_21 : decode cX2_need 21 = .ok (.lconst 1, 1) := by decide +kernel
theorem dX2_need_22 : decode cX2_need 22 = .ok (.iload_n 1, 1) := by decide +kernel
theorem dX2_need_23 : decode cX2_need 23 = .ok (.bipush 63, 2) := by decide +kernel
theorem dX2_need_25 : decode cX2_need 25 = .ok (.iand, 1) := by decide +kernel
theorem dX2_need_26 : decode cX2_need 26 = .ok (.lshl, 1) := by decide +kernel
theorem dX2_need_27 : decode cX2_need 27 = .ok (.lor, 1) := by decide +kernel
theorem dX2_need_28 : decode cX2_need 28 = .ok (.lastore, 1) := by decide +kernel
theorem dX2_need_29 : decode cX2_need 29 = .ok (.return_, 1) := by decide +kernel
theorem dX2_isNeeded_0 : decode cX2_isNeeded 0 = .ok (.aload_n 0, 1) := by decide +kernel
theorem dX2_isNeeded_1 : decode cX2_isNeeded 1 = .ok (.getfield 15, 3) := by decide +kernel
theorem dX2_isNeeded_4 : decode cX2_isNeeded 4 = .ok (.iload_n 1, 1) := by decide +kernel
theorem dX2_isNeeded_5 : decode cX2_isNeeded 5 = .ok (.bipush 6, 2) := by decide +kernel
theorem dX2_isNeeded_7 : decode cX2_isNeeded 7 = .ok (.ishr, 1) := by decide +kernel
theorem dX2_isNeeded_8 : decode cX2_isNeeded 8 = .ok (.laload, 1) := by decide +kernel
theorem dX2_isNeeded_9 : decode cX2_isNeeded 9 = .ok (.iload_n 1, 1) := by decide +kernel
theorem dX2_isNeeded_10 : decode cX2_isNeeded 10 = .ok (.bipush 63, 2) := by decide +kernel
theorem dX2_isNeeded_12 : decode cX2_isNeeded 12 = .ok (.iand, 1) := by decide +kernel
theorem dX2_isNeeded_13 : decode cX2_isNeeded 13 = .ok (.lshr, 1) := by decide +kernel
theorem dX2_isNeeded_14 : decode cX2_isNeeded 14 = .ok (.lconst 1, 1) := by decide +kernel
theorem dX2_isNeeded_15 : decode cX2_isNeeded 15 = .ok (.land, 1) := by decide +kernel
theorem dX2_isNeeded_16 : decode cX2_isNeeded 16 = .ok (.lconst 0, 1) := by decide +kernel
theorem dX2_isNeeded_17 : decode cX2_isNeeded 17 = .ok (.lcmp, 1) := by decide +kernel
theorem dX2_isNeeded_18 : decode cX2_isNeeded 18 = .ok (.ifCond .eq 7, 3) := by decide +kernel
theorem dX2_isNeeded_21 : decode cX2_isNeeded 21 = .ok (.iconst 1, 1) := by decide +kernel
theorem dX2_isNeeded_22 : decode cX2_isNeeded 22 = .ok (.goto 4, 3) := by decide +kernel
theorem dX2_isNeeded_25 : decode cX2_isNeeded 25 = .ok (.iconst 0, 1) := by decide +kernel
theorem dX2_isNeeded_26 : decode cX2_isNeeded 26 = .ok (.ireturn, 1) := by decide +kernel
set_option maxRecDepth 20000 in
theorem ggX3_init_X0_init : GoodIn wsX3_init wsX0_init := goodIn_r _ [19, 20, 2, 3, 21, 22, 23, 24, 25, 26, 45, 46, 47, 48, 49] (by decide +kernel) (by decide +kernel)
set_option maxRecDepth 20000 in
theorem gX3_init_X0_init_n11 : GoodIn wsX3_init (wsX0_init) := ggX3_init_X0_init
set_option maxRecDepth 20000 in
theorem ggX3_init_X1_init : GoodIn wsX3_init wsX1_init := goodIn_r _ [28, 29, 2, 3, 21, 30, 31, 32, 33, 34, 35, 36, 37, 38, 55, 56, 57, 58, 59, 60, 61, 62] (by decide +kernel) (by decide +kernel)
set_option maxRecDepth 20000 in
theorem gX3_init_X1_init_n18 : GoodIn wsX3_init (wsX1_init) := ggX3_init_X1_init
set_option maxRecDepth 20000 in
theorem ggX3_init_X2_init : GoodIn wsX3_init wsX2_init := goodIn_r _ [40, 41, 2, 3, 21, 42, 32, 43, 44, 63, 64, 65] (by decide +kernel) (by decide +kernel)
set_option maxRecDepth 20000 in
theorem gX3_init_X2_init_n25 : GoodIn wsX3_init (wsX2_init) := ggX3_init_X2_init
theorem dX3_init_0 : decode cX3_init 0 = .ok (.aload_n 0, 1) := by decide +kernel
theorem dX3_init_1 : decode cX3_init 1 = .ok (.invokespecial 3, 3) := by decide +kernel
theorem dX3_init_4 : decode cX3_init 4 = .ok (.aload_n 0, 1) := by decide +kernel
theorem dX3_init_5 : decode cX3_init 5 = .ok (.new 9, 3) := by decide +kernel
theorem dX3_init_8 : decode cX3_init 8 = .ok (.dup, 1) := by decide +kernel
theorem dX3_init_9 : decode cX3_init 9 = .ok (.invokespecial 11, 3) := by decide +kernel
theorem dX3_init_12 : decode cX3_init 12 = .ok (.putfield 12, 3) := by decide +kernel
theorem dX3_init_15 : decode cX3_init 15 = .ok (.aload_n 0, 1) := by decide +kernel
theorem dX3_init_16 : decode cX3_init 16 = .ok (.new 16, 3) := by decide +kernel
theorem dX3_init_19 : decode cX3_init 19 = .ok (.dup, 1) := by decide +kernel
theorem dX3_init_20 : decode cX3_init 20 = .ok (.invokespecial 18, 3) := by decide +kernel
theorem dX3_init_23 : decode cX3_init 23 = .ok (.putfield 19, 3) := by decide +kernel
theorem dX3_init_26 : decode cX3_init 26 = .ok (.aload_n 0, 1) := by decide +kernel
theorem dX3_init_27 : decode cX3_init 27 = .ok (.new 23, 3) := by decide +kernel
theorem dX3_init_30 : decode cX3_init 30 = .ok (.dup, 1) := by decide +kernel
theorem dX3_init_31 : decode cX3_init 31 = .ok (.invokespecial 25, 3) := by decide +kernel
theorem dX3_init_34 : decode cX3_init 34 = .ok (.putfield 26, 3) := by decide +kernel
theorem dX3_init_37 : decode cX3_init 37 = .ok (.aload_n 0, 1) := by decide +kernel
theorem dX3_init_38 : decode cX3_init 38 = .ok (.iconst 2, 1) := by decide +kernel
theorem dX3_init_39 : decode cX3_init 39 = .ok (.putfield 30, 3) := by decide +kernel
theorem dX3_init_42 : decode cX3_init 42 = .ok (.aload_n 0, 1) := by decide +kernel
theorem dX3_init_43 : decode cX3_init 43 = .ok (.iconst 1, 1) := by decide +kernel
theorem dX3_init_44 : decode cX3_init 44 = .ok (.putfield 34, 3) := by decide +kernel
theorem dX3_init_47 : decode cX3_init 47 = .ok (.return_, 1) := by decide +kernel
theorem dX3_grow_0 : decode cX3_grow 0 = .ok (.aload_n 0, 1) := by decide +kernel
theorem dX3_grow_1 : decode cX3_grow 1 = .ok (.getfield 30, 3) := by decide +kernel
theorem dX3_grow_4 : decode cX3_grow 4 = .ok (.bipush 24, 2) := by decide +kernel
theorem dX3_grow_6 : decode cX3_grow 6 = .ok (.if_icmp .lt 6, 3) := by decide +kernel
theorem dX3_grow_9 : decode cX3_grow 9 = .ok (.bipush (-2), 2) := by decide +kernel
theorem dX3_grow_11 : decode cX3_grow 11 = .ok (.ireturn, 1) := by decide +kernel
theorem dX3_grow_12 : decode cX3_grow 12 = .ok (.aload_n 0, 1) := by decide +kernel
theorem dX3_grow_13 : decode cX3_grow 13 = .ok (.iconst 1, 1) := by decide +kernel
theorem dX3_grow_14 : decode cX3_grow 14 = .ok (.putfield 34, 3) := by decide +kernel
theorem dX3_grow_17 : decode cX3_grow 17 = .ok (.aload_n 0, 1) := by decide +kernel
theorem dX3_grow_18 : decode cX3_grow 18 = .ok (.dup, 1) := by decide +kernel
theorem dX3_grow_19 : decode cX3_grow 19 = .ok (.getfield 30, 3) := by decide +kernel
theorem dX3_grow_22 : decode cX3_grow 22 = .ok (.iconst 1, 1) := by decide +kernel
theorem dX3_grow_23 : decode cX3_grow 23 = .ok (.iadd, 1) := by decide +kernel
theorem dX3_grow_24 : decode cX3_grow 24 = .ok (.putfield 30, 3) := by decide +kernel
theorem dX3_grow_27 : decode cX3_grow 27 = .ok (.aload_n 0, 1) := by decide +kernel
theorem dX3_grow_28 : decode cX3_grow 28 = .ok (.getfield 30, 3) := by decide +kernel
theorem dX3_grow_31 : decode cX3_grow 31 = .ok (.iconst 1, 1) := by decide +kernel
theorem dX3_grow_32 : decode cX3_grow 32 = .ok (.isub, 1) := by decide +kernel
theorem dX3_grow_33 : decode cX3_grow 33 = .ok (.ireturn, 1) := by decide +kernel
set_option maxRecDepth 20000 in
theorem ggX3_axiom_X3_isAxiom : GoodIn wsX3_axiom wsX3_isAxiom := goodIn_r _ [7, 8, 9, 10, 6, 11, 12, 13, 14, 15, 25, 26, 27, 28, 29] (by decide +kernel) (by decide +kernel)
set_option maxRecDepth 20000 in
theorem gX3_axiom_X3_isAxiom : GoodIn wsX3_axiom (wsV RX3 38 RX3 yX3_isAxiom wsX3_isAxiom) := goodIn_app (goodIn_of _ (by decide +kernel)) ggX3_axiom_X3_isAxiom
set_option maxRecDepth 20000 in
theorem ggX3_axiom_X0_append : GoodIn wsX3_axiom wsX0_append := goodIn_r _ [19, 20, 21, 22, 23, 24, 30, 31, 32, 33, 34] (by decide +kernel) (by decide +kernel)
set_option maxRecDepth 20000 in
theorem gX3_axiom_X0_append_n45 : GoodIn wsX3_axiom (wsX0_append) := ggX3_axiom_X0_append
theorem dX3_axiom_0 : decode cX3_axiom 0 = .ok (.aload_n 0, 1) := by decide +kernel
theorem dX3_axiom_1 : decode cX3_axiom 1 = .ok (.iload_n 1, 1) := by decide +kernel
theorem dX3_axiom_2 : decode cX3_axiom 2 = .ok (.iload_n 2, 1) := by decide +kernel
theorem dX3_axiom_3 : decode cX3_axiom 3 = .ok (.iload_n 3, 1) := by decide +kernel
theorem dX3_axiom_4 : decode cX3_axiom 4 = .ok (.iload 4, 2) := by decide +kernel
theorem dX3_axiom_6 : decode cX3_axiom 6 = .ok (.invokevirtual 38, 3) := by decide +kernel
theorem dX3_axiom_9 : decode cX3_axiom 9 = .ok (.ifCond .ne 5, 3) := by decide +kernel
theorem dX3_axiom_12 : decode cX3_axiom 12 = .ok (.iconst (-1), 1) := by decide +kernel
theorem dX3_axiom_13 : decode cX3_axiom 13 = .ok (.ireturn, 1) := by decide +kernel
theorem dX3_axiom_14 : decode cX3_axiom 14 = .ok (.aload_n 0, 1) := by decide +kernel
theorem dX3_axiom_15 : decode cX3_axiom 15 = .ok (.getfield 12, 3) := by decide +kernel
theorem dX3_axiom_18 : decode cX3_axiom 18 = .ok (.getfield 42, 3) := by decide +kernel
theorem dX3_axiom_21 : decode cX3_axiom 21 = .ok (.bipush 80, 2) := by decide +kernel
theorem dX3_axiom_23 : decode cX3_axiom 23 = .ok (.if_icmp .lt 6, 3) := by decide +kernel
theorem dX3_axiom_26 : decode cX3_axiom 26 = .ok (.bipush (-2), 2) := by decide +kernel
theorem dX3_axiom_28 : decode cX3_axiom 28 = .ok (.ireturn, 1) := by decide +kernel
theorem dX3_axiom_29 : decode cX3_axiom 29 = .ok (.aload_n 0, 1) := by decide +kernel
theorem dX3_axiom_30 : decode cX3_axiom 30 = .ok (.iconst 1, 1) := by decide +kernel
theorem dX3_axiom_31 : decode cX3_axiom 31 = .ok (.putfield 34, 3) := by decide +kernel
theorem dX3_axiom_34 : decode cX3_axiom 34 = .ok (.aload_n 0, 1) := by decide +kernel
theorem dX3_axiom_35 : decode cX3_axiom 35 = .ok (.getfield 12, 3) := by decide +kernel
theorem dX3_axiom_38 : decode cX3_axiom 38 = .ok (.iload_n 1, 1) := by decide +kernel
theorem dX3_axiom_39 : decode cX3_axiom 39 = .ok (.iload_n 2, 1) := by decide +kernel
theorem dX3_axiom_40 : decode cX3_axiom 40 = .ok (.iload_n 3, 1) := by decide +kernel
theorem dX3_axiom_41 : decode cX3_axiom 41 = .ok (.iload 4, 2) := by decide +kernel
theorem dX3_axiom_43 : decode cX3_axiom 43 = .ok (.invokevirtual 45, 3) := by decide +kernel
theorem dX3_axiom_46 : decode cX3_axiom 46 = .ok (.ireturn, 1) := by decide +kernel
set_option maxRecDepth 20000 in
theorem ggX3_drop_X0_remove : GoodIn wsX3_drop wsX0_remove := goodIn_r _ [6, 7, 8, 9, 10, 11, 12, 13, 14, 4, 15, 16, 17, 18, 19, 25, 26, 27, 28, 29] (by decide +kernel) (by decide +kernel)
set_option maxRecDepth 20000 in
theorem gX3_drop_X0_remove_n49 : GoodIn wsX3_drop (wsX0_remove) := ggX3_drop_X0_remove
theorem dX3_drop_0 : decode cX3_drop 0 = .ok (.iload_n 1, 1) := by decide +kernel
theorem dX3_drop_1 : decode cX3_drop 1 = .ok (.ifCond .lt 14, 3) := by decide +kernel
theorem dX3_drop_4 : decode cX3_drop 4 = .ok (.iload_n 1, 1) := by decide +kernel
theorem dX3_drop_5 : decode cX3_drop 5 = .ok (.aload_n 0, 1) := by decide +kernel
theorem dX3_drop_6 : decode cX3_drop 6 = .ok (.getfield 12, 3) := by decide +kernel
theorem dX3_drop_9 : decode cX3_drop 9 = .ok (.getfield 42, 3) := by decide +kernel
theorem dX3_drop_12 : decode cX3_drop 12 = .ok (.if_icmp .lt 5, 3) := by decide +kernel
theorem dX3_drop_15 : decode cX3_drop 15 = .ok (.iconst (-1), 1) := by decide +kernel
theorem dX3_drop_16 : decode cX3_drop 16 = .ok (.ireturn, 1) := by decide +kernel
theorem dX3_drop_17 : decode cX3_drop 17 = .ok (.aload_n 0, 1) := by decide +kernel
theorem dX3_drop_18 : decode cX3_drop 18 = .ok (.iconst 1, 1) := by decide +kernel
theorem dX3_drop_19 : decode cX3_drop 19 = .ok (.putfield 34, 3) := by decide +kernel
theorem dX3_drop_22 : decode cX3_drop 22 = .ok (.aload_n 0, 1) := by decide +kernel
theorem dX3_drop_23 : decode cX3_drop 23 = .ok (.getfield 12, 3) := by decide +kernel
theorem dX3_drop_26 : decode cX3_drop 26 = .ok (.iload_n 1, 1) := by decide +kernel
theorem dX3_drop_27 : decode cX3_drop 27 = .ok (.invokevirtual 49, 3) := by decide +kernel
theorem dX3_drop_30 : decode cX3_drop 30 = .ok (.ireturn, 1) := by decide +kernel
set_option maxRecDepth 20000 in
theorem ggX3_sub_X3_isClass : GoodIn wsX3_sub wsX3_isClass := goodIn_r _ [5, 6, 95, 96, 97, 98, 99] (by decide +kernel) (by decide +kernel)
set_option maxRecDepth 20000 in
theorem gX3_sub_X3_isClass : GoodIn wsX3_sub (wsV RX3 53 RX3 yX3_isClass wsX3_isClass) := goodIn_app (goodIn_of _ (by decide +kernel)) ggX3_sub_X3_isClass
set_option maxRecDepth 20000 in
theorem ggX3_sub_X3_closed : GoodIn wsX3_sub wsX3_closed := goodIn_r _ [10, 11, 12, 13, 6, 14, 15, 16, 17, 18, 19, 20, 21, 22, 23, 24, 25, 26, 27, 28, 29, 30, 31, 32, 33, 34, 35, 36, 37, 38, 39, 40, 41, 42, 43, 44, 45, 46, 47, 48, 49, 4, 50, 51, 52, 53, 54, 55, 56, 57, 58, 59, 60, 61, 62, 63, 64, 65, 66, 67, 68, 69, 70, 71, 72, 73, 74, 75, 76, 77, 78, 79, 80, 81, 82, 83, 84, 85, 86, 87, 88, 89, 90, 91, 95, 96, 97, 98, 99, 100, 101, 102, 103, 104, 105, 106, 107, 108, 109, 110, 111, 112] (by decide +kernel) (by decide +kernel)
set_option maxRecDepth 20000 in
theorem gX3_sub_X3_closed : GoodIn wsX3_sub (wsV RX3 57 RX3 yX3_closed wsX3_closed) := goodIn_app (goodIn_of _ (by decide +kernel)) ggX3_sub_X3_closed
set_option maxRecDepth 20000 in
theorem ggX3_sub_X1_has : GoodIn wsX3_sub wsX1_has := goodIn_r _ [94, 19, 49, 4, 50, 100, 101, 102, 103, 104, 105, 106, 107] (by decide +kernel) (by decide +kernel)
set_option maxRecDepth 20000 in
theorem gX3_sub_X1_has_n61 : GoodIn wsX3_sub (wsX1_has) := ggX3_sub_X1_has
theorem dX3_sub_0 : decode cX3_sub 0 = .ok (.aload_n 0, 1) := by decide +kernel
theorem dX3_sub_1 : decode cX3_sub 1 = .ok (.iload_n 1, 1) := by decide +kernel
theorem dX3_sub_2 : decode cX3_sub 2 = .ok (.invokevirtual 53, 3) := by decide +kernel
theorem dX3_sub_5 : decode cX3_sub 5 = .ok (.ifCond .eq 11, 3) := by decide +kernel
theorem dX3_sub_8 : decode cX3_sub 8 = .ok (.aload_n 0, 1) := by decide +kernel
theorem dX3_sub_9 : decode cX3_sub 9 = .ok (.iload_n 2, 1) := by decide +kernel
theorem dX3_sub_10 : decode cX3_sub 10 = .ok (.invokevirtual 53, 3) := by decide +kernel
theorem dX3_sub_13 : decode cX3_sub 13 = .ok (.ifCond .ne 5, 3) := by decide +kernel
theorem dX3_sub_16 : decode cX3_sub 16 = .ok (.iconst (-1), 1) := by decide +kernel
theorem dX3_sub_17 : decode cX3_sub 17 = .ok (.ireturn, 1) := by decide +kernel
theorem dX3_sub_18 : decode cX3_sub 18 = .ok (.aload_n 0, 1) := by decide +kernel
theorem dX3_sub_19 : decode cX3_sub 19 = .ok (.invokevirtual 57, 3) := by decide +kernel
theorem dX3_sub_22 : decode cX3_sub 22 = .ok (.iload_n 1, 1) := by decide +kernel
theorem dX3_sub_23 : decode cX3_sub 23 = .ok (.iload_n 2, 1) := by decide +kernel
theorem dX3_sub_24 : decode cX3_sub 24 = .ok (.invokevirtual 61, 3) := by decide +kernel
theorem dX3_sub_27 : decode cX3_sub 27 = .ok (.ifCond .eq 7, 3) := by decide +kernel
theorem dX3_sub_30 : decode cX3_sub 30 = .ok (.iconst 1, 1) := by decide +kernel
theorem dX3_sub_31 : decode cX3_sub 31 = .ok (.goto 4, 3) := by decide +kernel
theorem dX3_sub_34 : decode cX3_sub 34 = .ok (.iconst 0, 1) := by decide +kernel
theorem dX3_sub_35 : decode cX3_sub 35 = .ok (.ireturn, 1) := by decide +kernel
set_option maxRecDepth 20000 in
theorem ggX3_link_X3_isClass : GoodIn wsX3_link wsX3_isClass := goodIn_r _ [5, 6, 99, 100, 101, 102, 103] (by decide +kernel) (by decide +kernel)
set_option maxRecDepth 20000 in
theorem gX3_link_X3_isClass : GoodIn wsX3_link (wsV RX3 53 RX3 yX3_isClass wsX3_isClass) := goodIn_app (goodIn_of _ (by decide +kernel)) ggX3_link_X3_isClass
set_option maxRecDepth 20000 in
theorem ggX3_link_X3_isRole : GoodIn wsX3_link wsX3_isRole := goodIn_r _ [9] (by decide +kernel) (by decide +kernel)
set_option maxRecDepth 20000 in
theorem gX3_link_X3_isRole : GoodIn wsX3_link (va_wsS RX3 65 yX3_isRole wsX3_isRole) := goodIn_app (goodIn_of _ (by decide +kernel)) ggX3_link_X3_isRole
set_option maxRecDepth 20000 in
theorem ggX3_link_X3_closed : GoodIn wsX3_link wsX3_closed := goodIn_r _ [13, 14, 15, 16, 6, 17, 18, 19, 20, 21, 22, 23, 24, 25, 26, 27, 28, 29, 30, 31, 32, 33, 34, 35, 36, 37, 38, 39, 40, 41, 42, 43, 44, 45, 46, 47, 48, 49, 50, 51, 52, 4, 53, 54, 55, 56, 57, 58, 59, 60, 61, 62, 63, 64, 65, 66, 67, 68, 69, 70, 71, 72, 73, 74, 75, 76, 77, 78, 79, 80, 81, 82, 83, 84, 85, 86, 87, 88, 89, 90, 91, 92, 93, 94, 99, 100, 101, 102, 103, 104, 105, 106, 107, 108, 109, 110, 111, 112, 113, 114, 115, 116] (by decide +kernel) (by decide +kernel)
set_option maxRecDepth 20000 in
theorem gX3_link_X3_closed : GoodIn wsX3_link (wsV RX3 57 RX3 yX3_closed wsX3_closed) := goodIn_app (goodIn_of _ (by decide +kernel)) ggX3_link_X3_closed
set_option maxRecDepth 20000 in
theorem ggX3_link_X3_linkColumn : GoodIn wsX3_link wsX3_linkColumn := goodIn_r _ [61] (by decide +kernel) (by decide +kernel)
set_option maxRecDepth 20000 in
theorem gX3_link_X3_linkColumn : GoodIn wsX3_link (va_wsS RX3 68 yX3_linkColumn wsX3_linkColumn) := goodIn_app (goodIn_of _ (by decide +kernel)) ggX3_link_X3_linkColumn
set_option maxRecDepth 20000 in
theorem ggX3_link_X1_has : GoodIn wsX3_link wsX1_has := goodIn_r _ [98, 22, 52, 4, 53, 104, 105, 106, 107, 108, 109, 110, 111] (by decide +kernel) (by decide +kernel)
set_option maxRecDepth 20000 in
theorem gX3_link_X1_has_n61 : GoodIn wsX3_link (wsX1_has) := ggX3_link_X1_has
theorem dX3_link_0 : decode cX3_link 0 = .ok (.aload_n 0, 1) := by decide +kernel
theorem dX3_link_1 : decode cX3_link 1 = .ok (.iload_n 1, 1) := by decide +kernel
theorem dX3_link_2 : decode cX3_link 2 = .ok (.invokevirtual 53, 3) := by decide +kernel
theorem dX3_link_5 : decode cX3_link 5 = .ok (.ifCond .eq 18, 3) := by decide +kernel
theorem dX3_link_8 : decode cX3_link 8 = .ok (.iload_n 2, 1) := by decide +kernel
theorem dX3_link_9 : decode cX3_link 9 = .ok (.invokestatic 65, 3) := by decide +kernel
theorem dX3_link_12 : decode cX3_link 12 = .ok (.ifCond .eq 11, 3) := by decide +kernel
theorem dX3_link_15 : decode cX3_link 15 = .ok (.aload_n 0, 1) := by decide +kernel
theorem dX3_link_16 : decode cX3_link 16 = .ok (.iload_n 3, 1) := by decide +kernel
theorem dX3_link_17 : decode cX3_link 17 = .ok (.invokevirtual 53, 3) := by decide +kernel
theorem dX3_link_20 : decode cX3_link 20 = .ok (.ifCond .ne 5, 3) := by decide +kernel
theorem dX3_link_23 : decode cX3_link 23 = .ok (.iconst (-1), 1) := by decide +kernel
theorem dX3_link_24 : decode cX3_link 24 = .ok (.ireturn, 1) := by decide +kernel
theorem dX3_link_25 : decode cX3_link 25 = .ok (.aload_n 0, 1) := by decide +kernel
theorem dX3_link_26 : decode cX3_link 26 = .ok (.invokevirtual 57, 3) := by decide +kernel
theorem dX3_link_29 : decode cX3_link 29 = .ok (.iload_n 1, 1) := by decide +kernel
theorem dX3_link_30 : decode cX3_link 30 = .ok (.iload_n 2, 1) := by decide +kernel
theorem dX3_link_31 : decode cX3_link 31 = .ok (.iload_n 3, 1) := by decide +kernel
theorem dX3_link_32 : decode cX3_link 32 = .ok (.invokestatic 68, 3) := by decide +kernel
theorem dX3_link_35 : decode cX3_link 35 = .ok (.invokevirtual 61, 3) := by decide +kernel
theorem dX3_link_38 : decode cX3_link 38 = .ok (.ifCond .eq 7, 3) := by decide +kernel
theorem dX3_link_41 : decode cX3_link 41 = .ok (.iconst 1, 1) := by decide +kernel
theorem dX3_link_42 : decode cX3_link 42 = .ok (.goto 4, 3) := by decide +kernel
theorem dX3_link_45 : decode cX3_link 45 = .ok (.iconst 0, 1) := by decide +kernel
theorem dX3_link_46 : decode cX3_link 46 = .ok (.ireturn, 1) := by decide +kernel
set_option maxRecDepth 20000 in
theorem ggX3_rounds_X3_closed : GoodIn wsX3_rounds wsX3_closed := goodIn_r _ [5, 6, 7, 8, 9, 10, 11, 12, 13, 14, 15, 16, 17, 18, 19, 20, 21, 22, 23, 24, 25, 26, 27, 28, 29, 30, 31, 32, 33, 34, 35, 36, 37, 38, 39, 40, 41, 42, 43, 44, 45, 4, 46, 47, 48, 49, 50, 51, 52, 53, 54, 55, 56, 57, 58, 59, 60, 61, 62, 63, 64, 65, 66, 67, 68, 69, 70, 71, 72, 73, 74, 75, 76, 77, 78, 79, 80, 81, 82, 83, 84, 85, 86, 87, 96, 97, 98, 99, 100, 88, 89, 90, 91, 92, 93, 94, 95, 101, 102, 103, 104, 105] (by decide +kernel) (by decide +kernel)
set_option maxRecDepth 20000 in
theorem gX3_rounds_X3_closed : GoodIn wsX3_rounds (wsV RX3 57 RX3 yX3_closed wsX3_closed) := goodIn_app (goodIn_of _ (by decide +kernel)) ggX3_rounds_X3_closed
theorem dX3_rounds_0 : decode cX3_rounds 0 = .ok (.aload_n 0, 1) := by decide +kernel
theorem dX3_rounds_1 : decode cX3_rounds 1 = .ok (.invokevirtual 57, 3) := by decide +kernel
theorem dX3_rounds_4 : decode cX3_rounds 4 = .ok (.getfield 72, 3) := by decide +kernel
theorem dX3_rounds_7 : decode cX3_rounds 7 = .ok (.ireturn, 1) := by decide +kernel
set_option maxRecDepth 20000 in
theorem ggX3_facts_X3_closed : GoodIn wsX3_facts wsX3_closed := goodIn_r _ [5, 6, 7, 8, 9, 10, 11, 12, 13, 14, 15, 16, 17, 18, 19, 20, 21, 22, 23, 24, 25, 26, 27, 28, 29, 30, 31, 32, 33, 34, 35, 36, 37, 38, 39, 40, 41, 42, 43, 44, 45, 4, 46, 47, 48, 49, 50, 51, 52, 53, 54, 55, 56, 57, 58, 59, 60, 61, 62, 63, 64, 65, 66, 67, 68, 69, 70, 71, 72, 73, 74, 75, 76, 77, 78, 79, 80, 81, 82, 83, 84, 85, 86, 87, 96, 97, 98, 99, 100, 88, 89, 90, 91, 92, 93, 94, 95, 101, 102, 103, 104, 105] (by decide +kernel) (by decide +kernel)
set_option maxRecDepth 20000 in
theorem gX3_facts_X3_closed : GoodIn wsX3_facts (wsV RX3 57 RX3 yX3_closed wsX3_closed) := goodIn_app (goodIn_of _ (by decide +kernel)) ggX3_facts_X3_closed
theorem dX3_facts_0 : decode cX3_facts 0 = .ok (.aload_n 0, 1) := by decide +kernel
theorem dX3_facts_1 : decode cX3_facts 1 = .ok (.invokevirtual 57, 3) := by decide +kernel
theorem dX3_facts_4 : decode cX3_facts 4 = .ok (.getfield 75, 3) := by decide +kernel
theorem dX3_facts_7 : decode cX3_facts 7 = .ok (.ireturn, 1) := by decide +kernel
set_option maxRecDepth 20000 in
theorem ggX3_fact_X3_closed : GoodIn wsX3_fact wsX3_closed := goodIn_r _ [8, 9, 10, 11, 12, 13, 14, 15, 16, 17, 18, 19, 20, 21, 22, 23, 24, 25, 26, 27, 28, 29, 30, 31, 32, 33, 34, 35, 36, 37, 38, 39, 40, 41, 42, 43, 44, 45, 46, 47, 48, 7, 49, 50, 51, 52, 53, 54, 55, 56, 57, 58, 59, 60, 61, 62, 63, 64, 65, 66, 67, 68, 69, 70, 71, 72, 73, 74, 75, 76, 77, 78, 79, 80, 81, 82, 83, 84, 85, 86, 87, 88, 89, 90, 105, 106, 107, 108, 109, 91, 92, 93, 94, 95, 96, 97, 98, 110, 111, 112, 113, 114] (by decide +kernel) (by decide +kernel)
set_option maxRecDepth 20000 in
theorem gX3_fact_X3_closed : GoodIn wsX3_fact (wsV RX3 57 RX3 yX3_closed wsX3_closed) := goodIn_app (goodIn_of _ (by decide +kernel)) ggX3_fact_X3_closed
theorem dX3_fact_0 : decode cX3_fact 0 = .ok (.aload_n 0, 1) := by decide +kernel
theorem dX3_fact_1 : decode cX3_fact 1 = .ok (.invokevirtual 57, 3) := by decide +kernel
theorem dX3_fact_4 : decode cX3_fact 4 = .ok (.astore_n 2, 1) := by decide +kernel
theorem dX3_fact_5 : decode cX3_fact 5 = .ok (.iload_n 1, 1) := by decide +kernel
theorem dX3_fact_6 : decode cX3_fact 6 = .ok (.ifCond .lt 11, 3) := by decide +kernel
theorem dX3_fact_9 : decode cX3_fact 9 = .ok (.iload_n 1, 1) := by decide +kernel
theorem dX3_fact_10 : decode cX3_fact 10 = .ok (.aload_n 2, 1) := by decide +kernel
theorem dX3_fact_11 : decode cX3_fact 11 = .ok (.getfield 75, 3) := by decide +kernel
theorem dX3_fact_14 : decode cX3_fact 14 = .ok (.if_icmp .lt 13, 3) := by decide +kernel
theorem dX3_fact_17 : decode cX3_fact 17 = .ok (.new 78, 3) := by decide +kernel
theorem dX3_fact_20 : decode cX3_fact 20 = .ok (.dup, 1) := by decide +kernel
theorem dX3_fact_21 : decode cX3_fact 21 = .ok (.ldc 80, 2) := by decide +kernel
theorem dX3_fact_23 : decode cX3_fact 23 = .ok (.invokespecial 82, 3) := by decide +kernel
theorem dX3_fact_26 : decode cX3_fact 26 = .ok (.athrow, 1) := by decide +kernel
theorem dX3_fact_27 : decode cX3_fact 27 = .ok (.aload_n 2, 1) := by decide +kernel
theorem dX3_fact_28 : decode cX3_fact 28 = .ok (.getfield 85, 3) := by decide +kernel
theorem dX3_fact_31 : decode cX3_fact 31 = .ok (.iload_n 1, 1) := by decide +kernel
theorem dX3_fact_32 : decode cX3_fact 32 = .ok (.iaload, 1) := by decide +kernel
theorem dX3_fact_33 : decode cX3_fact 33 = .ok (.ireturn, 1) := by decide +kernel
set_option maxRecDepth 20000 in
theorem ggX3_told_X3_closed : GoodIn wsX3_told wsX3_closed := goodIn_r _ [5, 6, 7, 8, 9, 10, 11, 12, 13, 14, 15, 16, 17, 18, 19, 20, 21, 22, 23, 24, 25, 26, 27, 28, 29, 30, 31, 32, 33, 34, 35, 36, 37, 38, 39, 40, 41, 42, 43, 44, 45, 4, 46, 47, 48, 49, 50, 51, 52, 53, 54, 55, 56, 57, 58, 59, 60, 61, 62, 63, 64, 65, 66, 67, 68, 69, 70, 71, 72, 73, 74, 75, 76, 77, 78, 79, 80, 81, 82, 83, 84, 85, 86, 87, 103, 104, 105, 106, 107, 108, 109, 110, 111, 112, 113, 114, 115, 116, 117, 118, 119, 120] (by decide +kernel) (by decide +kernel)
set_option maxRecDepth 20000 in
theorem gX3_told_X3_closed : GoodIn wsX3_told (wsV RX3 57 RX3 yX3_closed wsX3_closed) := goodIn_app (goodIn_of _ (by decide +kernel)) ggX3_told_X3_closed
set_option maxRecDepth 20000 in
theorem ggX3_told_X1_follows : GoodIn wsX3_told wsX1_follows := goodIn_r _ [90, 25, 108, 109, 110, 111, 112, 113, 114, 115] (by decide +kernel) (by decide +kernel)
set_option maxRecDepth 20000 in
theorem gX3_told_X1_follows_n89 : GoodIn wsX3_told (wsX1_follows) := ggX3_told_X1_follows
set_option maxRecDepth 20000 in
theorem ggX3_told_X1_roundOf : GoodIn wsX3_told wsX1_roundOf := goodIn_r _ [93, 25, 108, 109, 110, 111, 112, 113, 114, 115] (by decide +kernel) (by decide +kernel)
set_option maxRecDepth 20000 in
theorem gX3_told_X1_roundOf_n92 : GoodIn wsX3_told (wsX1_roundOf) := ggX3_told_X1_roundOf
set_option maxRecDepth 20000 in
theorem ggX3_told_X1_axiomOf : GoodIn wsX3_told wsX1_axiomOf := goodIn_r _ [96, 25, 108, 109, 110, 111, 112, 113, 114, 115] (by decide +kernel) (by decide +kernel)
set_option maxRecDepth 20000 in
theorem gX3_told_X1_axiomOf_n95 : GoodIn wsX3_told (wsX1_axiomOf) := ggX3_told_X1_axiomOf
set_option maxRecDepth 20000 in
theorem ggX3_told_X1_firstPremiseOf : GoodIn wsX3_told wsX1_firstPremiseOf := goodIn_r _ [99, 25, 108, 109, 110, 111, 112, 113, 114, 115] (by decide +kernel) (by decide +kernel)
set_option maxRecDepth 20000 in
theorem gX3_told_X1_firstPremiseOf_n98 : GoodIn wsX3_told (wsX1_firstPremiseOf) := ggX3_told_X1_firstPremiseOf
set_option maxRecDepth 20000 in
theorem ggX3_told_X1_secondPremiseOf : GoodIn wsX3_told wsX1_secondPremiseOf := goodIn_r _ [102, 25, 108, 109, 110, 111, 112, 113, 114, 115] (by decide +kernel) (by decide +kernel)
set_option maxRecDepth 20000 in
theorem gX3_told_X1_secondPremiseOf_n101 : GoodIn wsX3_told (wsX1_secondPremiseOf) := ggX3_told_X1_secondPremiseOf
theorem dX3_told_0 : decode cX3_told 0 = .ok (.aload_n 0, 1) := by decide +kernel
theorem dX3_told_1 : decode cX3_told 1 = .ok (.invokevirtual 57, 3) := by decide +kernel
theorem dX3_told_4 : decode cX3_told 4 = .ok (.astore_n 3, 1) := by decide +kernel
theorem dX3_told_5 : decode cX3_told 5 = .ok (.aload_n 3, 1) := by decide +kernel
theorem dX3_told_6 : decode cX3_told 6 = .ok (.iload_n 1, 1) := by decide +kernel
theorem dX3_told_7 : decode cX3_told 7 = .ok (.invokevirtual 89, 3) := by decide +kernel
theorem dX3_told_10 : decode cX3_told 10 = .ok (.ifCond .ne 5, 3) := by decide +kernel
theorem dX3_told_13 : decode cX3_told 13 = .ok (.iconst (-1), 1) := by decide +kernel
theorem dX3_told_14 : decode cX3_told 14 = .ok (.ireturn, 1) := by decide +kernel
theorem dX3_told_15 : decode cX3_told 15 = .ok (.iload_n 2, 1) := by decide +kernel
theorem dX3_told_16 : decode cX3_told 16 = .ok (.tableswitch 56 0 3 #[32, 38, 44, 50], 32) := by decide +kernel
theorem dX3_told_48 : decode cX3_told 48 = .ok (.aload_n 3, 1) := by decide +kernel
theorem dX3_told_49 : decode cX3_told 49 = .ok (.iload_n 1, 1) := by decide +kernel
theorem dX3_told_50 : decode cX3_told 50 = .ok (.invokevirtual 92, 3) := by decide +kernel
theorem dX3_told_53 : decode cX3_told 53 = .ok (.ireturn, 1) := by decide +kernel
theorem dX3_told_54 : decode cX3_told 54 = .ok (.aload_n 3, 1) := by decide +kernel
theorem dX3_told_55 : decode cX3_told 55 = .ok (.iload_n 1, 1) := by decide +kernel
theorem dX3_told_56 : decode cX3_told 56 = .ok (.invokevirtual 95, 3) := by decide +kernel
theorem dX3_told_59 : decode cX3_told 59 = .ok (.ireturn, 1) := by decide +kernel
theorem dX3_told_60 : decode cX3_told 60 = .ok (.aload_n 3, 1) := by decide +kernel
theorem dX3_told_61 : decode cX3_told 61 = .ok (.iload_n 1, 1) := by decide +kernel
theorem dX3_told_62 : decode cX3_told 62 = .ok (.invokevirtual 98, 3) := by decide +kernel
theorem dX3_told_65 : decode cX3_told 65 = .ok (.ireturn, 1) := by decide +kernel
theorem dX3_told_66 : decode cX3_told 66 = .ok (.aload_n 3, 1) := by decide +kernel
theorem dX3_told_67 : decode cX3_told 67 = .ok (.iload_n 1, 1) := by decide +kernel
theorem dX3_told_68 : decode cX3_told 68 = .ok (.invokevirtual 101, 3) := by decide +kernel
theorem dX3_told_71 : decode cX3_told 71 = .ok (.ireturn, 1) := by decide +kernel
theorem dX3_told_72 : decode cX3_told 72 = .ok (.iconst (-1), 1) := by decide +kernel
theorem dX3_told_73 : decode cX3_told 73 = .ok (.ireturn, 1) := by decide +kernel
set_option maxRecDepth 20000 in
theorem ggX3_trace_X3_closed : GoodIn wsX3_trace wsX3_closed := goodIn_r _ [6, 7, 8, 9, 10, 11, 12, 13, 14, 15, 16, 17, 18, 19, 20, 21, 22, 23, 24, 25, 26, 27, 28, 29, 30, 31, 32, 33, 34, 35, 36, 37, 38, 39, 40, 41, 42, 43, 44, 45, 46, 5, 47, 48, 49, 50, 51, 52, 53, 54, 55, 56, 57, 58, 59, 60, 61, 62, 63, 64, 65, 66, 67, 68, 69, 70, 71, 72, 73, 74, 75, 76, 77, 78, 79, 80, 81, 82, 83, 84, 85, 86, 87, 88, 114, 115, 116, 117, 118, 122, 123, 124, 125, 126, 127, 128, 129, 130, 131, 132, 133, 134] (by decide +kernel) (by decide +kernel)
set_option maxRecDepth 20000 in
theorem gX3_trace_X3_closed : GoodIn wsX3_trace (wsV RX3 57 RX3 yX3_closed wsX3_closed) := goodIn_app (goodIn_of _ (by decide +kernel)) ggX3_trace_X3_closed
set_option maxRecDepth 20000 in
theorem ggX3_trace_X2_take : GoodIn wsX3_trace wsX2_take := goodIn_r _ [92, 93, 94, 95, 96, 12, 97, 98, 26, 99, 36, 33, 37, 100, 101, 102, 90, 103, 104, 105, 106, 107, 108, 109, 110, 111, 112, 113, 119, 120, 121, 122, 123, 124, 125, 126, 127, 128, 129] (by decide +kernel) (by decide +kernel)
set_option maxRecDepth 20000 in
theorem gX3_trace_X2_take_n104 : GoodIn wsX3_trace (wsX2_take) := ggX3_trace_X2_take
theorem dX3_trace_0 : decode cX3_trace 0 = .ok (.aload_n 0, 1) := by decide +kernel
theorem dX3_trace_1 : decode cX3_trace 1 = .ok (.getfield 26, 3) := by decide +kernel
theorem dX3_trace_4 : decode cX3_trace 4 = .ok (.aload_n 0, 1) := by decide +kernel
theorem dX3_trace_5 : decode cX3_trace 5 = .ok (.invokevirtual 57, 3) := by decide +kernel
theorem dX3_trace_8 : decode cX3_trace 8 = .ok (.iload_n 1, 1) := by decide +kernel
theorem dX3_trace_9 : decode cX3_trace 9 = .ok (.invokevirtual 104, 3) := by decide +kernel
theorem dX3_trace_12 : decode cX3_trace 12 = .ok (.aload_n 0, 1) := by decide +kernel
theorem dX3_trace_13 : decode cX3_trace 13 = .ok (.getfield 26, 3) := by decide +kernel
theorem dX3_trace_16 : decode cX3_trace 16 = .ok (.getfield 108, 3) := by decide +kernel
theorem dX3_trace_19 : decode cX3_trace 19 = .ok (.ireturn, 1) := by decide +kernel
theorem dX3_row_0 : decode cX3_row 0 = .ok (.iload_n 1, 1) := by decide +kernel
theorem dX3_row_1 : decode cX3_row 1 = .ok (.ifCond .lt 14, 3) := by decide +kernel
theorem dX3_row_4 : decode cX3_row 4 = .ok (.iload_n 1, 1) := by decide +kernel
theorem dX3_row_5 : decode cX3_row 5 = .ok (.aload_n 0, 1) := by decide +kernel
theorem dX3_row_6 : decode cX3_row 6 = .ok (.getfield 26, 3) := by decide +kernel
theorem dX3_row_9 : decode cX3_row 9 = .ok (.getfield 108, 3) := by decide +kernel
theorem dX3_row_12 : decode cX3_row 12 = .ok (.if_icmp .lt 5, 3) := by decide +kernel
theorem dX3_row_15 : decode cX3_row 15 = .ok (.iconst (-1), 1) := by decide +kernel
theorem dX3_row_16 : decode cX3_row 16 = .ok (.ireturn, 1) := by decide +kernel
theorem dX3_row_17 : decode cX3_row 17 = .ok (.aload_n 0, 1) := by decide +kernel
theorem dX3_row_18 : decode cX3_row 18 = .ok (.getfield 26, 3) := by decide +kernel
theorem dX3_row_21 : decode cX3_row 21 = .ok (.getfield 109, 3) := by decide +kernel
theorem dX3_row_24 : decode cX3_row 24 = .ok (.iload_n 1, 1) := by decide +kernel
theorem dX3_row_25 : decode cX3_row 25 = .ok (.iaload, 1) := by decide +kernel
theorem dX3_row_26 : decode cX3_row 26 = .ok (.ireturn, 1) := by decide +kernel
set_option maxRecDepth 20000 in
theorem ggX3_empty_X3_sub : GoodIn wsX3_empty wsX3_sub := goodIn_r _ [5, 6, 7, 8, 4, 9, 10, 11, 12, 13, 14, 15, 16, 17, 18, 19, 20, 21, 22, 23, 24, 25, 26, 27, 28, 29, 30, 31, 32, 33, 34, 35, 36, 37, 38, 39, 40, 41, 42, 43, 44, 45, 46, 47, 48, 49, 50, 51, 52, 53, 54, 55, 56, 57, 58, 59, 60, 61, 62, 63, 64, 65, 66, 67, 68, 69, 70, 71, 72, 73, 74, 75, 76, 77, 78, 79, 80, 81, 82, 83, 84, 85, 86, 87, 88, 89, 90, 91, 92, 93, 94, 95, 96, 97, 98, 99, 100, 101, 102, 103, 104, 105, 106, 107, 108, 109, 110, 111, 112, 113, 114, 115, 116] (by decide +kernel) (by decide +kernel)
set_option maxRecDepth 20000 in
theorem gX3_empty_X3_sub : GoodIn wsX3_empty (wsV RX3 112 RX3 yX3_sub wsX3_sub) := goodIn_app (goodIn_of _ (by decide +kernel)) ggX3_empty_X3_sub
theorem dX3_empty_0 : decode cX3_empty 0 = .ok (.aload_n 0, 1) := by decide +kernel
theorem dX3_empty_1 : decode cX3_empty 1 = .ok (.iload_n 1, 1) := by decide +kernel
theorem dX3_empty_2 : decode cX3_empty 2 = .ok (.iconst 1, 1) := by decide +kernel
theorem dX3_empty_3 : decode cX3_empty 3 = .ok (.invokevirtual 112, 3) := by decide +kernel
theorem dX3_empty_6 : decode cX3_empty 6 = .ok (.ireturn, 1) := by decide +kernel
set_option maxRecDepth 20000 in
theorem ggX3_same_X3_isClass : GoodIn wsX3_same wsX3_isClass := goodIn_r _ [5, 6, 103, 104, 105, 106, 107] (by decide +kernel) (by decide +kernel)
set_option maxRecDepth 20000 in
theorem gX3_same_X3_isClass : GoodIn wsX3_same (wsV RX3 53 RX3 yX3_isClass wsX3_isClass) := goodIn_app (goodIn_of _ (by decide +kernel)) ggX3_same_X3_isClass
set_option maxRecDepth 20000 in
theorem ggX3_same_X3_closed : GoodIn wsX3_same wsX3_closed := goodIn_r _ [10, 11, 12, 13, 6, 14, 15, 16, 17, 18, 19, 20, 21, 22, 23, 24, 25, 26, 27, 28, 29, 30, 31, 32, 33, 34, 35, 36, 37, 38, 39, 40, 41, 42, 43, 44, 45, 46, 47, 48, 49, 4, 50, 51, 52, 53, 54, 55, 56, 57, 58, 59, 60, 61, 62, 63, 64, 65, 66, 67, 68, 69, 70, 71, 72, 73, 74, 75, 76, 77, 78, 79, 80, 81, 82, 83, 84, 85, 86, 87, 88, 89, 90, 91, 103, 104, 105, 106, 107, 108, 109, 110, 111, 112, 113, 114, 115, 116, 117, 118, 119, 120] (by decide +kernel) (by decide +kernel)
set_option maxRecDepth 20000 in
theorem gX3_same_X3_closed : GoodIn wsX3_same (wsV RX3 57 RX3 yX3_closed wsX3_closed) := goodIn_app (goodIn_of _ (by decide +kernel)) ggX3_same_X3_closed
set_option maxRecDepth 20000 in
theorem ggX3_same_X1_leastSame : GoodIn wsX3_same wsX1_leastSame := goodIn_r _ [94, 95, 96, 97, 15, 98, 99, 100, 101, 102, 19, 49, 4, 50, 108, 109, 110, 111, 112, 113, 114, 115] (by decide +kernel) (by decide +kernel)
set_option maxRecDepth 20000 in
theorem gX3_same_X1_leastSame_n115 : GoodIn wsX3_same (wsX1_leastSame) := ggX3_same_X1_leastSame
theorem dX3_same_0 : decode cX3_same 0 = .ok (.aload_n 0, 1) := by decide +kernel
theorem dX3_same_1 : decode cX3_same 1 = .ok (.iload_n 1, 1) := by decide +kernel
theorem dX3_same_2 : decode cX3_same 2 = .ok (.invokevirtual 53, 3) := by decide +kernel
theorem dX3_same_5 : decode cX3_same 5 = .ok (.ifCond .ne 5, 3) := by decide +kernel
theorem dX3_same_8 : decode cX3_same 8 = .ok (.iconst (-1), 1) := by decide +kernel
theorem dX3_same_9 : decode cX3_same 9 = .ok (.ireturn, 1) := by decide +kernel
theorem dX3_same_10 : decode cX3_same 10 = .ok (.aload_n 0, 1) := by decide +kernel
theorem dX3_same_11 : decode cX3_same 11 = .ok (.invokevirtual 57, 3) := by decide +kernel
theorem dX3_same_14 : decode cX3_same 14 = .ok (.iload_n 1, 1) := by decide +kernel
theorem dX3_same_15 : decode cX3_same 15 = .ok (.invokevirtual 115, 3) := by decide +kernel
theorem dX3_same_18 : decode cX3_same 18 = .ok (.ireturn, 1) := by decide +kernel
set_option maxRecDepth 20000 in
theorem ggX3_parent_X3_isClass : GoodIn wsX3_parent wsX3_isClass := goodIn_r _ [5, 6, 111, 112, 113, 114, 115] (by decide +kernel) (by decide +kernel)
set_option maxRecDepth 20000 in
theorem gX3_parent_X3_isClass : GoodIn wsX3_parent (wsV RX3 53 RX3 yX3_isClass wsX3_isClass) := goodIn_app (goodIn_of _ (by decide +kernel)) ggX3_parent_X3_isClass
set_option maxRecDepth 20000 in
theorem ggX3_parent_X3_closed : GoodIn wsX3_parent wsX3_closed := goodIn_r _ [10, 11, 12, 13, 6, 14, 15, 16, 17, 18, 19, 20, 21, 22, 23, 24, 25, 26, 27, 28, 29, 30, 31, 32, 33, 34, 35, 36, 37, 38, 39, 40, 41, 42, 43, 44, 45, 46, 47, 48, 49, 4, 50, 51, 52, 53, 54, 55, 56, 57, 58, 59, 60, 61, 62, 63, 64, 65, 66, 67, 68, 69, 70, 71, 72, 73, 74, 75, 76, 77, 78, 79, 80, 81, 82, 83, 84, 85, 86, 87, 88, 89, 90, 91, 111, 112, 113, 114, 115, 116, 117, 118, 119, 120, 121, 122, 123, 124, 125, 126, 127, 128] (by decide +kernel) (by decide +kernel)
set_option maxRecDepth 20000 in
theorem gX3_parent_X3_closed : GoodIn wsX3_parent (wsV RX3 57 RX3 yX3_closed wsX3_closed) := goodIn_app (goodIn_of _ (by decide +kernel)) ggX3_parent_X3_closed
set_option maxRecDepth 20000 in
theorem ggX3_parent_X1_parentOf : GoodIn wsX3_parent wsX1_parentOf := goodIn_r _ [94, 31, 95, 96, 97, 15, 98, 19, 49, 4, 50, 99, 100, 101, 102, 103, 104, 105, 106, 107, 108, 109, 110, 116, 117, 118, 119, 120, 121, 122, 123] (by decide +kernel) (by decide +kernel)
set_option maxRecDepth 20000 in
theorem gX3_parent_X1_parentOf_n118 : GoodIn wsX3_parent (wsX1_parentOf) := ggX3_parent_X1_parentOf
theorem dX3_parent_0 : decode cX3_parent 0 = .ok (.aload_n 0, 1) := by decide +kernel
theorem dX3_parent_1 : decode cX3_parent 1 = .ok (.iload_n 1, 1) := by decide +kernel
theorem dX3_parent_2 : decode cX3_parent 2 = .ok (.invokevirtual 53, 3) := by decide +kernel
theorem dX3_parent_5 : decode cX3_parent 5 = .ok (.ifCond .eq 7, 3) := by decide +kernel
theorem dX3_parent_8 : decode cX3_parent 8 = .ok (.iload_n 2, 1) := by decide +kernel
theorem dX3_parent_9 : decode cX3_parent 9 = .ok (.ifCond .ge 5, 3) := by decide +kernel
theorem dX3_parent_12 : decode cX3_parent 12 = .ok (.iconst (-1), 1) := by decide +kernel
theorem dX3_parent_13 : decode cX3_parent 13 = .ok (.ireturn, 1) := by decide +kernel
theorem dX3_parent_14 : decode cX3_parent 14 = .ok (.aload_n 0, 1) := by decide +kernel
theorem dX3_parent_15 : decode cX3_parent 15 = .ok (.invokevirtual 57, 3) := by decide +kernel
theorem dX3_parent_18 : decode cX3_parent 18 = .ok (.iload_n 1, 1) := by decide +kernel
theorem dX3_parent_19 : decode cX3_parent 19 = .ok (.iload_n 2, 1) := by decide +kernel
theorem dX3_parent_20 : decode cX3_parent 20 = .ok (.invokevirtual 118, 3) := by decide +kernel
theorem dX3_parent_23 : decode cX3_parent 23 = .ok (.ireturn, 1) := by decide +kernel
theorem dX3_isClass_0 : decode cX3_isClass 0 = .ok (.iload_n 1, 1) := by decide +kernel
theorem dX3_isClass_1 : decode cX3_isClass 1 = .ok (.ifCond .lt 15, 3) := by decide +kernel
theorem dX3_isClass_4 : decode cX3_isClass 4 = .ok (.iload_n 1, 1) := by decide +kernel
theorem dX3_isClass_5 : decode cX3_isClass 5 = .ok (.aload_n 0, 1) := by decide +kernel
theorem dX3_isClass_6 : decode cX3_isClass 6 = .ok (.getfield 30, 3) := by decide +kernel
theorem dX3_isClass_9 : decode cX3_isClass 9 = .ok (.if_icmp .ge 7, 3) := by decide +kernel
theorem dX3_isClass_12 : decode cX3_isClass 12 = .ok (.iconst 1, 1) := by decide +kernel
theorem dX3_isClass_13 : decode cX3_isClass 13 = .ok (.goto 4, 3) := by decide +kernel
theorem dX3_isClass_16 : decode cX3_isClass 16 = .ok (.iconst 0, 1) := by decide +kernel
theorem dX3_isClass_17 : decode cX3_isClass 17 = .ok (.ireturn, 1) := by decide +kernel
theorem dX3_isRole_0 : decode cX3_isRole 0 = .ok (.iload_n 0, 1) := by decide +kernel
theorem dX3_isRole_1 : decode cX3_isRole 1 = .ok (.ifCond .lt 13, 3) := by decide +kernel
theorem dX3_isRole_4 : decode cX3_isRole 4 = .ok (.iload_n 0, 1) := by decide +kernel
theorem dX3_isRole_5 : decode cX3_isRole 5 = .ok (.bipush 6, 2) := by decide +kernel
theorem dX3_isRole_7 : decode cX3_isRole 7 = .ok (.if_icmp .ge 7, 3) := by decide +kernel
theorem dX3_isRole_10 : decode cX3_isRole 10 = .ok (.iconst 1, 1) := by decide +kernel
theorem dX3_isRole_11 : decode cX3_isRole 11 = .ok (.goto 4, 3) := by decide +kernel
theorem dX3_isRole_14 : decode cX3_isRole 14 = .ok (.iconst 0, 1) := by decide +kernel
theorem dX3_isRole_15 : decode cX3_isRole 15 = .ok (.ireturn, 1) := by decide +kernel
set_option maxRecDepth 20000 in
theorem ggX3_isAxiom_X3_isClass : GoodIn wsX3_isAxiom wsX3_isClass := goodIn_r _ [5, 6, 10, 11, 12, 13, 14] (by decide +kernel) (by decide +kernel)
set_option maxRecDepth 20000 in
theorem gX3_isAxiom_X3_isClass : GoodIn wsX3_isAxiom (wsV RX3 53 RX3 yX3_isClass wsX3_isClass) := goodIn_app (goodIn_of _ (by decide +kernel)) ggX3_isAxiom_X3_isClass
set_option maxRecDepth 20000 in
theorem ggX3_isAxiom_X3_isRole : GoodIn wsX3_isAxiom wsX3_isRole := goodIn_r _ [9] (by decide +kernel) (by decide +kernel)
set_option maxRecDepth 20000 in
theorem gX3_isAxiom_X3_isRole : GoodIn wsX3_isAxiom (va_wsS RX3 65 yX3_isRole wsX3_isRole) := goodIn_app (goodIn_of _ (by decide +kernel)) ggX3_isAxiom_X3_isRole
theorem dX3_isAxiom_0 : decode cX3_isAxiom 0 = .ok (.iload_n 1, 1) := by decide +kernel
theorem dX3_isAxiom_1 : decode cX3_isAxiom 1 = .ok (.tableswitch 209 1 7 #[43, 65, 96, 126, 156, 176, 204], 43) := by decide +kernel
theorem dX3_isAxiom_44 : decode cX3_isAxiom 44 = .ok (.aload_n 0, 1) := by decide +kernel
theorem dX3_isAxiom_45 : decode cX3_isAxiom 45 = .ok (.iload_n 2, 1) := by decide +kernel
theorem dX3_isAxiom_46 : decode cX3_isAxiom 46 = .ok (.invokevirtual 53, 3) := by decide +kernel
theorem dX3_isAxiom_49 : decode cX3_isAxiom 49 = .ok (.ifCond .eq 15, 3) := by decide +kernel
theorem dX3_isAxiom_52 : decode cX3_isAxiom 52 = .ok (.aload_n 0, 1) := by decide +kernel
theorem dX3_isAxiom_53 : decode cX3_isAxiom 53 = .ok (.iload_n 3, 1) := by decide +kernel
theorem dX3_isAxiom_54 : decode cX3_isAxiom 54 = .ok (.invokevirtual 53, 3) := by decide +kernel
theorem dX3_isAxiom_57 : decode cX3_isAxiom 57 = .ok (.ifCond .eq 7, 3) := by decide +kernel
theorem dX3_isAxiom_60 : decode cX3_isAxiom 60 = .ok (.iconst 1, 1) := by decide +kernel
theorem dX3_isAxiom_61 : decode cX3_isAxiom 61 = .ok (.goto 4, 3) := by decide +kernel
theorem dX3_isAxiom_64 : decode cX3_isAxiom 64 = .ok (.iconst 0, 1) := by decide +kernel
theorem dX3_isAxiom_65 : decode cX3_isAxiom 65 = .ok (.ireturn, 1) := by decide +kernel
theorem dX3_isAxiom_66 : decode cX3_isAxiom 66 = .ok (.aload_n 0, 1) := by decide +kernel
theorem dX3_isAxiom_67 : decode cX3_isAxiom 67 = .ok (.iload_n 2, 1) := by decide +kernel
theorem dX3_isAxiom_68 : decode cX3_isAxiom 68 = .ok (.invokevirtual 53, 3) := by decide +kernel
theorem dX3_isAxiom_71 : decode cX3_isAxiom 71 = .ok (.ifCond .eq 24, 3) := by decide +kernel
theorem dX3_isAxiom_74 : decode cX3_isAxiom 74 = .ok (.aload_n 0, 1) := by decide +kernel
theorem dX3_isAxiom_75 : decode cX3_isAxiom 75 = .ok (.iload_n 3, 1) := by decide +kernel
theorem dX3_isAxiom_76 : decode cX3_isAxiom 76 = .ok (.invokevirtual 53, 3) := by decide +kernel
theorem dX3_isAxiom_79 : decode cX3_isAxiom 79 = .ok (.ifCond .eq 16, 3) := by decide +kernel
theorem dX3_isAxiom_82 : decode cX3_isAxiom 82 = .ok (.aload_n 0, 1) := by decide +kernel
theorem dX3_isAxiom_83 : decode cX3_isAxiom 83 = .ok (.iload 4, 2) := by decide +kernel
theorem dX3_isAxiom_85 : decode cX3_isAxiom 85 = .ok (.invokevirtual 53, 3) := by decide +kernel
theorem dX3_isAxiom_88 : decode cX3_isAxiom 88 = .ok (.ifCond .eq 7, 3) := by decide +kernel
theorem dX3_isAxiom_91 : decode cX3_isAxiom 91 = .ok (.iconst 1, 1) := by decide +kernel
theorem dX3_isAxiom_92 : decode cX3_isAxiom 92 = .ok (.goto 4, 3) := by decide +kernel
theorem dX3_isAxiom_95 : decode cX3_isAxiom 95 = .ok (.iconst 0, 1) := by decide +kernel
theorem dX3_isAxiom_96 : decode cX3_isAxiom 96 = .ok (.ireturn, 1) := by decide +kernel
theorem dX3_isAxiom_97 : decode cX3_isAxiom 97 = .ok (.aload_n 0, 1) := by decide +kernel
theorem dX3_isAxiom_98 : decode cX3_isAxiom 98 = .ok (.iload_n 2, 1) := by decide +kernel
theorem dX3_isAxiom_99 : decode cX3_isAxiom 99 = .ok (.invokevirtual 53, 3) := by decide +kernel
theorem dX3_isAxiom_102 : decode cX3_isAxiom 102 = .ok (.ifCond .eq 23, 3) := by decide +kernel
theorem dX3_isAxiom_105 : decode cX3_isAxiom 105 = .ok (.iload_n 3, 1) := by decide +kernel
theorem dX3_isAxiom_106 : decode cX3_isAxiom 106 = .ok (.invokestatic 65, 3) := by decide +kernel
theorem dX3_isAxiom_109 : decode cX3_isAxiom 109 = .ok (.ifCond .eq 16, 3) := by decide +kernel
theorem dX3_isAxiom_112 : decode cX3_isAxiom 112 = .ok (.aload_n 0, 1) := by decide +kernel
theorem dX3_isAxiom_113 : decode cX3_isAxiom 113 = .ok (.iload 4, 2) := by decide +kernel
theorem dX3_isAxiom_115 : decode cX3_isAxiom 115 = .ok (.invokevirtual 53, 3) := by decide +kernel
theorem dX3_isAxiom_118 : decode cX3_isAxiom 118 = .ok (.ifCond .eq 7, 3) := by decide +kernel
theorem dX3_isAxiom_121 : decode cX3_isAxiom 121 = .ok (.iconst 1, 1) := by decide +kernel
theorem dX3_isAxiom_122 : decode cX3_isAxiom 122 = .ok (.goto 4, 3) := by decide +kernel
theorem dX3_isAxiom_125 : decode cX3_isAxiom 125 = .ok (.iconst 0, 1) := by decide +kernel
theorem dX3_isAxiom_126 : decode cX3_isAxiom 126 = .ok (.ireturn, 1) := by decide +kernel
theorem dX3_isAxiom_127 : decode cX3_isAxiom 127 = .ok (.iload_n 2, 1) := by decide +kernel
theorem dX3_isAxiom_128 : decode cX3_isAxiom 128 = .ok (.invokestatic 65, 3) := by decide +kernel
theorem dX3_isAxiom_131 : decode cX3_isAxiom 131 = .ok (.ifCond .eq 24, 3) := by decide +kernel
theorem dX3_isAxiom_134 : decode cX3_isAxiom 134 = .ok (.aload_n 0, 1) := by decide +kernel
theorem dX3_isAxiom_135 : decode cX3_isAxiom 135 = .ok (.iload_n 3, 1) := by decide +kernel
theorem dX3_isAxiom_136 : decode cX3_isAxiom 136 = .ok (.invokevirtual 53, 3) := by decide +kernel
theorem dX3_isAxiom_139 : decode cX3_isAxiom 139 = .ok (.ifCond .eq 16, 3) := by decide +kernel
theorem dX3_isAxiom_142 : decode cX3_isAxiom 142 = .ok (.aload_n 0, 1) := by decide +kernel
theorem dX3_isAxiom_143 : decode cX3_isAxiom 143 = .ok (.iload 4, 2) := by decide +kernel
theorem dX3_isAxiom_145 : decode cX3_isAxiom 145 = .ok (.invokevirtual 53, 3) := by decide +kernel
theorem dX3_isAxiom_148 : decode cX3_isAxiom 148 = .ok (.ifCond .eq 7, 3) := by decide +kernel
theorem dX3_isAxiom_151 : decode cX3_isAxiom 151 = .ok (.iconst 1, 1) := by decide +kernel
theorem dX3_isAxiom_152 : decode cX3_isAxiom 152 = .ok (.goto 4, 3) := by decide +kernel
theorem dX3_isAxiom_155 : decode cX3_isAxiom 155 = .ok (.iconst 0, 1) := by decide +kernel
theorem dX3_isAxiom_156 : decode cX3_isAxiom 156 = .ok (.ireturn, 1) := by decide +kernel
theorem dX3_isAxiom_157 : decode cX3_isAxiom 157 = .ok (.iload_n 2, 1) := by decide +kernel
theorem dX3_isAxiom_158 : decode cX3_isAxiom 158 = .ok (.invokestatic 65, 3) := by decide +kernel
theorem dX3_isAxiom_161 : decode cX3_isAxiom 161 = .ok (.ifCond .eq 14, 3) := by decide +kernel
theorem dX3_isAxiom_164 : decode cX3_isAxiom 164 = .ok (.iload_n 3, 1) := by decide +kernel
theorem dX3_isAxiom_165 : decode cX3_isAxiom 165 = .ok (.invokestatic 65, 3) := by decide +kernel
theorem dX3_isAxiom_168 : decode cX3_isAxiom 168 = .ok (.ifCond .eq 7, 3) := by decide +kernel
theorem dX3_isAxiom_171 : decode cX3_isAxiom 171 = .ok (.iconst 1, 1) := by decide +kernel
theorem dX3_isAxiom_172 : decode cX3_isAxiom 172 = .ok (.goto 4, 3) := by decide +kernel
theorem dX3_isAxiom_175 : decode cX3_isAxiom 175 = .ok (.iconst 0, 1) := by decide +kernel
theorem dX3_isAxiom_176 : decode cX3_isAxiom 176 = .ok (.ireturn, 1) := by decide +kernel
theorem dX3_isAxiom_177 : decode cX3_isAxiom 177 = .ok (.iload_n 2, 1) := by decide +kernel
theorem dX3_isAxiom_178 : decode cX3_isAxiom 178 = .ok (.invokestatic 65, 3) := by decide +kernel
theorem dX3_isAxiom_181 : decode cX3_isAxiom 181 = .ok (.ifCond .eq 22, 3) := by decide +kernel
theorem dX3_isAxiom_184 : decode cX3_isAxiom 184 = .ok (.iload_n 3, 1) := by decide +kernel
theorem dX3_isAxiom_185 : decode cX3_isAxiom 185 = .ok (.invokestatic 65, 3) := by decide +kernel
theorem dX3_isAxiom_188 : decode cX3_isAxiom 188 = .ok (.ifCond .eq 15, 3) := by decide +kernel
theorem dX3_isAxiom_191 : decode cX3_isAxiom 191 = .ok (.iload 4, 2) := by decide +kernel
theorem dX3_isAxiom_193 : decode cX3_isAxiom 193 = .ok (.invokestatic 65, 3) := by decide +kernel
theorem dX3_isAxiom_196 : decode cX3_isAxiom 196 = .ok (.ifCond .eq 7, 3) := by decide +kernel
theorem dX3_isAxiom_199 : decode cX3_isAxiom 199 = .ok (.iconst 1, 1) := by decide +kernel
theorem dX3_isAxiom_200 : decode cX3_isAxiom 200 = .ok (.goto 4, 3) := by decide +kernel
theorem dX3_isAxiom_203 : decode cX3_isAxiom 203 = .ok (.iconst 0, 1) := by decide +kernel
theorem dX3_isAxiom_204 : decode cX3_isAxiom 204 = .ok (.ireturn, 1) := by decide +kernel
theorem dX3_isAxiom_205 : decode cX3_isAxiom 205 = .ok (.iload_n 2, 1) := by decide +kernel
theorem dX3_isAxiom_206 : decode cX3_isAxiom 206 = .ok (.invokestatic 65, 3) := by decide +kernel
theorem dX3_isAxiom_209 : decode cX3_isAxiom 209 = .ok (.ireturn, 1) := by decide +kernel
theorem dX3_isAxiom_210 : decode cX3_isAxiom 210 = .ok (.iconst 0, 1) := by decide +kernel
theorem dX3_isAxiom_211 : decode cX3_isAxiom 211 = .ok (.ireturn, 1) := by decide +kernel
set_option maxRecDepth 20000 in
theorem ggX3_closed_X1_fill : GoodIn wsX3_closed wsX1_fill := goodIn_r _ [8, 9, 10, 11, 12, 13, 14, 15, 16, 17, 18, 6, 19, 20, 21, 22, 23, 24, 25, 26, 27, 28, 29, 30, 31, 32, 33, 34, 35, 36, 37, 38, 39, 40, 41, 42, 43, 44, 45, 46, 47, 48, 49, 50, 51, 52, 53, 54, 55, 56, 57, 58, 59, 60, 61, 62, 63, 64, 65, 66, 67, 68, 69, 70, 71, 72, 73, 74, 75, 76, 77, 78, 79, 80, 81, 82, 83, 89, 90, 91, 92, 93, 94, 95, 96, 97, 98, 99, 100, 101] (by decide +kernel) (by decide +kernel)
set_option maxRecDepth 20000 in
theorem gX3_closed_X1_fill_n121 : GoodIn wsX3_closed (wsX1_fill) := ggX3_closed_X1_fill
theorem dX3_closed_0 : decode cX3_closed 0 = .ok (.aload_n 0, 1) := by decide +kernel
theorem dX3_closed_1 : decode cX3_closed 1 = .ok (.getfield 34, 3) := by decide +kernel
theorem dX3_closed_4 : decode cX3_closed 4 = .ok (.ifCond .eq 23, 3) := by decide +kernel
theorem dX3_closed_7 : decode cX3_closed 7 = .ok (.aload_n 0, 1) := by decide +kernel
theorem dX3_closed_8 : decode cX3_closed 8 = .ok (.getfield 19, 3) := by decide +kernel
theorem dX3_closed_11 : decode cX3_closed 11 = .ok (.aload_n 0, 1) := by decide +kernel
theorem dX3_closed_12 : decode cX3_closed 12 = .ok (.getfield 12, 3) := by decide +kernel
theorem dX3_closed_15 : decode cX3_closed 15 = .ok (.aload_n 0, 1) := by decide +kernel
theorem dX3_closed_16 : decode cX3_closed 16 = .ok (.getfield 30, 3) := by decide +kernel
theorem dX3_closed_19 : decode cX3_closed 19 = .ok (.invokevirtual 121, 3) := by decide +kernel
theorem dX3_closed_22 : decode cX3_closed 22 = .ok (.aload_n 0, 1) := by decide +kernel
theorem dX3_closed_23 : decode cX3_closed 23 = .ok (.iconst 0, 1) := by decide +kernel
theorem dX3_closed_24 : decode cX3_closed 24 = .ok (.putfield 34, 3) := by decide +kernel
theorem dX3_closed_27 : decode cX3_closed 27 = .ok (.aload_n 0, 1) := by decide +kernel
theorem dX3_closed_28 : decode cX3_closed 28 = .ok (.getfield 19, 3) := by decide +kernel
theorem dX3_closed_31 : decode cX3_closed 31 = .ok (.areturn, 1) := by decide +kernel
theorem dX3_linkColumn_0 : decode cX3_linkColumn 0 = .ok (.bipush 24, 2) := by decide +kernel
theorem dX3_linkColumn_2 : decode cX3_linkColumn 2 = .ok (.bipush 24, 2) := by decide +kernel
theorem dX3_linkColumn_4 : decode cX3_linkColumn 4 = .ok (.iload_n 0, 1) := by decide +kernel
theorem dX3_linkColumn_5 : decode cX3_linkColumn 5 = .ok (.imul, 1) := by decide +kernel
theorem dX3_linkColumn_6 : decode cX3_linkColumn 6 = .ok (.iadd, 1) := by decide +kernel
theorem dX3_linkColumn_7 : decode cX3_linkColumn 7 = .ok (.iload_n 1, 1) := by decide +kernel
theorem dX3_linkColumn_8 : decode cX3_linkColumn 8 = .ok (.iadd, 1) := by decide +kernel
theorem dX3_linkColumn_9 : decode cX3_linkColumn 9 = .ok (.ireturn, 1) := by decide +kernel
theorem dX3_codeOf_0 : decode cX3_codeOf 0 = .ok (.iload_n 1, 1) := by decide +kernel
theorem dX3_codeOf_1 : decode cX3_codeOf 1 = .ok (.bipush 24, 2) := by decide +kernel
theorem dX3_codeOf_3 : decode cX3_codeOf 3 = .ok (.if_icmp .ge 10, 3) := by decide +kernel
theorem dX3_codeOf_6 : decode cX3_codeOf 6 = .ok (.bipush 24, 2) := by decide +kernel
theorem dX3_codeOf_8 : decode cX3_codeOf 8 = .ok (.iload_n 0, 1) := by decide +kernel
theorem dX3_codeOf_9 : decode cX3_codeOf 9 = .ok (.imul, 1) := by decide +kernel
theorem dX3_codeOf_10 : decode cX3_codeOf 10 = .ok (.iload_n 1, 1) := by decide +kernel
theorem dX3_codeOf_11 : decode cX3_codeOf 11 = .ok (.iadd, 1) := by decide +kernel
theorem dX3_codeOf_12 : decode cX3_codeOf 12 = .ok (.ireturn, 1) := by decide +kernel
theorem dX3_codeOf_13 : decode cX3_codeOf 13 = .ok (.sipush 576, 3) := by decide +kernel
theorem dX3_codeOf_16 : decode cX3_codeOf 16 = .ok (.sipush 144, 3) := by decide +kernel
theorem dX3_codeOf_19 : decode cX3_codeOf 19 = .ok (.iload_n 0, 1) := by decide +kernel
theorem dX3_codeOf_20 : decode cX3_codeOf 20 = .ok (.imul, 1) := by decide +kernel
theorem dX3_codeOf_21 : decode cX3_codeOf 21 = .ok (.iadd, 1) := by decide +kernel
theorem dX3_codeOf_22 : decode cX3_codeOf 22 = .ok (.iload_n 1, 1) := by decide +kernel
theorem dX3_codeOf_23 : decode cX3_codeOf 23 = .ok (.iadd, 1) := by decide +kernel
theorem dX3_codeOf_24 : decode cX3_codeOf 24 = .ok (.bipush 24, 2) := by decide +kernel
theorem dX3_codeOf_26 : decode cX3_codeOf 26 = .ok (.isub, 1) := by decide +kernel
theorem dX3_codeOf_27 : decode cX3_codeOf 27 = .ok (.ireturn, 1) := by decide +kernel
theorem dX3_isIn_0 : decode cX3_isIn 0 = .ok (.iload_n 1, 1) := by decide +kernel
theorem dX3_isIn_1 : decode cX3_isIn 1 = .ok (.iload_n 0, 1) := by decide +kernel
theorem dX3_isIn_2 : decode cX3_isIn 2 = .ok (.ishr, 1) := by decide +kernel
theorem dX3_isIn_3 : decode cX3_isIn 3 = .ok (.iconst 1, 1) := by decide +kernel
theorem dX3_isIn_4 : decode cX3_isIn 4 = .ok (.iand, 1) := by decide +kernel
theorem dX3_isIn_5 : decode cX3_isIn 5 = .ok (.ifCond .eq 7, 3) := by decide +kernel
theorem dX3_isIn_8 : decode cX3_isIn 8 = .ok (.iconst 1, 1) := by decide +kernel
theorem dX3_isIn_9 : decode cX3_isIn 9 = .ok (.goto 4, 3) := by decide +kernel
theorem dX3_isIn_12 : decode cX3_isIn 12 = .ok (.iconst 0, 1) := by decide +kernel
theorem dX3_isIn_13 : decode cX3_isIn 13 = .ok (.ireturn, 1) := by decide +kernel
end
section
theorem dJ7_fill_d0a16_0 : decode cJ7_fill_d0a16 0 = .ok (.iconst 0, 1) := by decide +kernel
theorem dJ7_fill_d0a16_1 : decode cJ7_fill_d0a16 1 = .ok (.istore_n 3, 1) := by decide +kernel
theorem dJ7_fill_d0a16_2 : decode cJ7_fill_d0a16 2 = .ok (.aload_n 0, 1) := by decide +kernel
theorem dJ7_fill_d0a16_3 : decode cJ7_fill_d0a16 3 = .ok (.arraylength, 1) := by decide +kernel
theorem dJ7_fill_d0a16_4 : decode cJ7_fill_d0a16 4 = .ok (.istore 4, 2) := by decide +kernel
theorem dJ7_fill_d0a16_6 : decode cJ7_fill_d0a16 6 = .ok (.iload_n 3, 1) := by decide +kernel
theorem dJ7_fill_d0a16_7 : decode cJ7_fill_d0a16 7 = .ok (.iload 4, 2) := by decide +kernel
theorem dJ7_fill_d0a16_9 : decode cJ7_fill_d0a16 9 = .ok (.if_icmp .ge 13, 3) := by decide +kernel
theorem dJ7_fill_d0a16_12 : decode cJ7_fill_d0a16 12 = .ok (.aload_n 0, 1) := by decide +kernel
theorem dJ7_fill_d0a16_13 : decode cJ7_fill_d0a16 13 = .ok (.iload_n 3, 1) := by decide +kernel
theorem dJ7_fill_d0a16_14 : decode cJ7_fill_d0a16 14 = .ok (.lload_n 1, 1) := by decide +kernel
theorem dJ7_fill_d0a16_15 : decode cJ7_fill_d0a16 15 = .ok (.lastore, 1) := by decide +kernel
theorem dJ7_fill_d0a16_16 : decode cJ7_fill_d0a16 16 = .ok (.iinc 3 1, 3) := by decide +kernel
theorem dJ7_fill_d0a16_19 : decode cJ7_fill_d0a16 19 = .ok (.goto (-13), 3) := by decide +kernel
theorem dJ7_fill_d0a16_22 : decode cJ7_fill_d0a16 22 = .ok (.return_, 1) := by decide +kernel
theorem dJ7_fill_53178_0 : decode cJ7_fill_53178 0 = .ok (.iconst 0, 1) := by decide +kernel
theorem dJ7_fill_53178_1 : decode cJ7_fill_53178 1 = .ok (.istore_n 2, 1) := by decide +kernel
theorem dJ7_fill_53178_2 : decode cJ7_fill_53178 2 = .ok (.aload_n 0, 1) := by decide +kernel
theorem dJ7_fill_53178_3 : decode cJ7_fill_53178 3 = .ok (.arraylength, 1) := by decide +kernel
theorem dJ7_fill_53178_4 : decode cJ7_fill_53178 4 = .ok (.istore_n 3, 1) := by decide +kernel
theorem dJ7_fill_53178_5 : decode cJ7_fill_53178 5 = .ok (.iload_n 2, 1) := by decide +kernel
theorem dJ7_fill_53178_6 : decode cJ7_fill_53178 6 = .ok (.iload_n 3, 1) := by decide +kernel
theorem dJ7_fill_53178_7 : decode cJ7_fill_53178 7 = .ok (.if_icmp .ge 13, 3) := by decide +kernel
theorem dJ7_fill_53178_10 : decode cJ7_fill_53178 10 = .ok (.aload_n 0, 1) := by decide +kernel
theorem dJ7_fill_53178_11 : decode cJ7_fill_53178 11 = .ok (.iload_n 2, 1) := by decide +kernel
theorem dJ7_fill_53178_12 : decode cJ7_fill_53178 12 = .ok (.iload_n 1, 1) := by decide +kernel
theorem dJ7_fill_53178_13 : decode cJ7_fill_53178 13 = .ok (.iastore, 1) := by decide +kernel
theorem dJ7_fill_53178_14 : decode cJ7_fill_53178 14 = .ok (.iinc 2 1, 3) := by decide +kernel
theorem dJ7_fill_53178_17 : decode cJ7_fill_53178 17 = .ok (.goto (-12), 3) := by decide +kernel
theorem dJ7_fill_53178_20 : decode cJ7_fill_53178 20 = .ok (.return_, 1) := by decide +kernel
end
section
/-! our own judgement over the kit: Z K n k ws lv pc st: with the cells ws and the locals lv, at pc with the stack st, the method comes to its end -/
def nwF : List (String × Nat × String × String × String) := [(RX3, 108, "ElCompletion$Proof", "count", "I"), (RX3, 109, "ElCompletion$Proof", "rows", "[I"), (RX3, 42, "ElCompletion$Axioms", "count", "I"), (RX3, 72, "ElCompletion$Closure", "roundCount", "I"), (RX3, 75, "ElCompletion$Closure", "factCount", "I"), (RX3, 85, "ElCompletion$Closure", "order", "[I"), (RX1, 55, "ElCompletion$Axioms", "count", "I"), (RX1, 83, "ElCompletion$Axioms", "kind", "[I"), (RX1, 86, "ElCompletion$Axioms", "a", "[I"), (RX1, 96, "ElCompletion$Axioms", "b", "[I"), (RX1, 99, "ElCompletion$Axioms", "c", "[I"), (RX2, 39, "ElCompletion$Closure", "factCount", "I"), (RX2, 42, "ElCompletion$Closure", "order", "[I")]
def nwM : List (String × Nat × MethodName) := [(RX3, 101, yX1_secondPremiseOf), (RX3, 104, yX2_take), (RX3, 11, yX0_init), (RX3, 115, yX1_leastSame), (RX3, 118, yX1_parentOf), (RX3, 121, yX1_fill), (RX3, 18, yX1_init), (RX3, 25, yX2_init), (RX3, 45, yX0_append), (RX3, 49, yX0_remove), (RX3, 61, yX1_has), (RX3, 89, yX1_follows), (RX3, 92, yX1_roundOf), (RX3, 95, yX1_axiomOf), (RX3, 98, yX1_firstPremiseOf), (RX1, 112, yX3_isIn), (RX1, 116, yX3_codeOf), (RX1, 92, yX3_linkColumn), (RX2, 23, yX1_follows), (RX2, 48, yX1_firstPremiseOf), (RX2, 52, yX1_secondPremiseOf)]
def NW (U : State) : Prop := (∀ q ∈ nwF, va_Nw (.fieldLinkNest q.1 q.2.1 q.2.2.1 q.2.2.2.1 q.2.2.2.2 RX3) U) ∧ ∀ q ∈ nwM, va_Nw (.methodLinkNest q.1 q.2.1 q.2.2 RX3) U
theorem NW.moved {s U : State} (hW : s.WarmedH U.vm) (h : NW s) : NW U := ⟨fun q hq => va_Nw.warmF hW (h.1 q hq), fun q hq => va_Nw.warmM hW (h.2 q hq)⟩
theorem NW.same {s U : State} (e : s.vm = U.vm) (h : NW s) : NW U := ⟨fun q hq => va_Nw.same rfl e (h.1 q hq), fun q hq => va_Nw.same rfl e (h.2 q hq)⟩
theorem NW.f {s : State} {args : Array Value} (h : NW s) {a : String} {i : Nat} {b nm d : String} (hm : (a, i, b, nm, d) ∈ nwF) : (Cond.fieldLinkNest a i b nm d RX3).before args s = true := va_Nw.use rfl (h.1 _ hm)
theorem NW.m {s : State} (h : NW s) {a : String} {i : Nat} {y : MethodName} (hm : (a, i, y) ∈ nwM) : va_Nw (.methodLinkNest a i y RX3) s := h.2 _ hm
abbrev KT : Type := Program × Launch × Env × Room × State × MethodId × Array Value × List Frame × Method × Code × Nat × va_G × (Nat → Prop) × (State → Prop)
def Z (K : KT) (n k : Nat) (ws : va_W) (lv : List (Nat × Value)) (pc : Nat) (st : List Value) : Prop := match K with
  | (p, l, e, R, s, m, args, below, meth, c, nL, D, A, Q) => ∀ (H : Heap) (locs : List Loc) (ls : Array Slot), va_P D vwCl ws H → va_D A ws → va_S A s.heap H locs → lv_has ls nL lv → W p l e R s m args below meth c H locs n k Q (F0 m pc ls st)
def Cx (K : KT) (cc : ByteArray) (own : String) (Ts : List Cond) (tys : List (ClassId × FieldType)) : Prop := match K with
  | (p, _, _, _, s, m, args, _, meth, c, nL, D, A, _) => p.tables.exec = Jvm.exec ∧ c.code = cc ∧ c.maxLocals = nL ∧ s.vm.findClass own = some m.cls ∧ (∀ w ∈ Ts, w.before args s = true) ∧ va_K D vwCl tys s ∧ (∀ q : Nat, s.heap.size ≤ q → A q) ∧ NW s ∧ meth.locks = false
/-- the room of the method -/
def Rm (K : KT) (rm : Room) : Prop := match K with
  | (_, _, _, R, _, _, _, _, _, _, _, _, _, _) => R = rm
def NLis (K : KT) (N : Nat) : Prop := match K with
  | (_, _, _, _, _, _, _, _, _, _, nL, _, _, _) => nL = N
def Dis (K : KT) (D0 : va_G) : Prop := match K with
  | (_, _, _, _, _, _, _, _, _, _, _, D, _, _) => D = D0
def Lis (K : KT) (l0 : Launch) : Prop := match K with
  | (_, l, _, _, _, _, _, _, _, _, _, _, _, _) => l = l0
/-- a method's world before and behind it -/
def Pw (D : va_G) (tys : List (ClassId × FieldType)) (ws : va_W) (sz : Nat) (U : State) : Prop := U.heap.size = sz ∧ va_P D vwCl ws U.heap ∧ va_K D vwCl tys U ∧ va_D (fun _ => True) ws ∧ NW U
def Bw (D : va_G) (tys : List (ClassId × FieldType)) (A : Nat → Prop) (ws : va_W) (_ : Unit) (t : State) : Prop := va_P D vwCl ws t.heap ∧ va_K D vwCl tys t ∧ va_D A ws
theorem Pw.blind {D : va_G} {tys : List (ClassId × FieldType)} {ws : va_W} {sz : Nat} {av : List Value} : FrameBlind (va_Pc av (Pw D tys ws sz)) := fun a U g mk q => by
  obtain ⟨q0, q1, qP, qK, qD, qN⟩ := q
  exact ⟨q0, q1, qP, va_K.moved (u := U) (U := U.calling g mk a) (Vm.Alike.refl U.vm) qK, qD, NW.same (s := U) rfl qN⟩
/-- contracts: from the world w to the world w2, answer r (int, none, long) -/
def MI (l : Launch) (y : MethodName) (wy : List Cond) (rm : Room) (D : va_G) (tys : List (ClassId × FieldType)) (av : List Value) (w w2 : va_W) (r : Int32) : Prop := ∀ sz : Nat, Met l y wy rm (va_Pc av (Pw D tys w sz)) (va_Qi (fun (x : Int32) (_ : Unit) => x = r) (Bw D tys (va_A w sz) w2) (va_A w sz)) rm.cells rm.slots (va_A w sz)
def MV (l : Launch) (y : MethodName) (wy : List Cond) (rm : Room) (D : va_G) (tys : List (ClassId × FieldType)) (av : List Value) (w w2 : va_W) : Prop := ∀ sz : Nat, Met l y wy rm (va_Pc av (Pw D tys w sz)) (va_Qv (fun (_ : Unit) => True) (Bw D tys (va_A w sz) w2) (va_A w sz)) rm.cells rm.slots (va_A w sz)
def MA (l : Launch) (y : MethodName) (wy : List Cond) (rm : Room) (D : va_G) (tys : List (ClassId × FieldType)) (av : List Value) (w w2 : va_W) (r : Nat) : Prop := ∀ sz : Nat, Met l y wy rm (va_Pc av (Pw D tys w sz)) (va_Qr (fun (_ : Unit) => True) (fun (u : Unit) (a : Nat) (t : State) => a = r ∧ Bw D tys (va_A w sz) w2 u t) (va_A w sz)) rm.cells rm.slots (va_A w sz)
/-- what a method must come to -/
def RI (K : KT) (n k : Nat) (tys : List (ClassId × FieldType)) (w2 : va_W) (r : Int32) : Prop := match K with
  | (_, _, _, _, s, _, args, below, _, _, _, D, A, Q) => Q = MQ below (va_Qi (fun (x : Int32) (_ : Unit) => x = r) (Bw D tys A w2) A) args s n k A
def RV (K : KT) (n k : Nat) (tys : List (ClassId × FieldType)) (w2 : va_W) : Prop := match K with
  | (_, _, _, _, s, _, args, below, _, _, _, D, A, Q) => Q = MQ below (va_Qv (fun (_ : Unit) => True) (Bw D tys A w2) A) args s n k A
def RA (K : KT) (n k : Nat) (tys : List (ClassId × FieldType)) (w2 : va_W) (r : Nat) : Prop := match K with
  | (_, _, _, _, s, _, args, below, _, _, _, D, A, Q) => Q = MQ below (va_Qr (fun (_ : Unit) => True) (fun (u : Unit) (a : Nat) (t : State) => a = r ∧ Bw D tys A w2 u t) A) args s n k A
def RetT (K : KT) (ty : Option FieldType) : Prop := match K with
  | (_, _, _, _, _, _, _, _, meth, _, _, _, _, _) => meth.sig.returnType = ty
def IsInit (K : KT) : Prop := match K with
  | (_, _, _, _, _, _, _, _, meth, _, _, _, _, _) => meth.name = "<init>"

theorem metI_of {l : Launch} {y : MethodName} {wy wy' : List Cond} {rm : Room} {D : va_G} {tys : List (ClassId × FieldType)} {av : List Value} {w w2 : va_W} {r : Int32} {cc : ByteArray} {maxL : Nat} {ret : Option FieldType} (hy : plainName y.cls = true) (hw : wy = Cond.code y cc maxL ret :: wy') (hm : (lg_sl av).length ≤ maxL)
    (body : ∀ K : KT, Cx K cc y.cls wy tys → Rm K rm → NLis K maxL → Dis K D → Lis K l → RetT K ret → (y.name = "<init>" → IsInit K) → RI K rm.cells rm.slots tys w2 r → Z K 0 0 w (lv_args 0 av) 0 []) : MI l y wy rm D tys av w w2 r := by
  intro sz
  refine Met.ofW (cc := cc) (maxL := maxL) (ret := ret) hy hw ?_
  intro p e s m args below meth c s₁ B hml hv
  obtain ⟨rfl, hsz, hP, hK, hD0, hN⟩ := hv
  have hts := atoms_spec (ws := wy) B.pre
  have hown : s.vm.findClass y.cls = some m.cls := findClass_of_methodNamed B.named
  subst hsz
  have hD := hD0.self (sz := s.heap.size)
  have hA : ∀ q : Nat, s.heap.size ≤ q → va_A w s.heap.size q := fun q h => Or.inr h
  have hl := lv_entry av (n := maxL) hm
  rw [lg_entry_eq]
  exact body (p, l, e, (headSpec wy rm).room, s, m, av.toArray, below, meth, c, maxL, D, va_A w s.heap.size, _) ⟨B.exec, B.bytes, hml, hown, hts, hK, hA, hN, B.notSynchronized⟩ rfl rfl rfl rfl B.returns (fun h => (name_of_methodNamed B.named B.method).1.trans h) rfl s.heap [] _ hP hD va_S.rf hl
theorem metV_of {l : Launch} {y : MethodName} {wy wy' : List Cond} {rm : Room} {D : va_G} {tys : List (ClassId × FieldType)} {av : List Value} {w w2 : va_W} {cc : ByteArray} {maxL : Nat} {ret : Option FieldType} (hy : plainName y.cls = true) (hw : wy = Cond.code y cc maxL ret :: wy') (hm : (lg_sl av).length ≤ maxL)
    (body : ∀ K : KT, Cx K cc y.cls wy tys → Rm K rm → NLis K maxL → Dis K D → Lis K l → RetT K ret → (y.name = "<init>" → IsInit K) → RV K rm.cells rm.slots tys w2 → Z K 0 0 w (lv_args 0 av) 0 []) : MV l y wy rm D tys av w w2 := by
  intro sz
  refine Met.ofW (cc := cc) (maxL := maxL) (ret := ret) hy hw ?_
  intro p e s m args below meth c s₁ B hml hv
  obtain ⟨rfl, hsz, hP, hK, hD0, hN⟩ := hv
  have hts := atoms_spec (ws := wy) B.pre
  have hown : s.vm.findClass y.cls = some m.cls := findClass_of_methodNamed B.named
  subst hsz
  have hD := hD0.self (sz := s.heap.size)
  have hA : ∀ q : Nat, s.heap.size ≤ q → va_A w s.heap.size q := fun q h => Or.inr h
  have hl := lv_entry av (n := maxL) hm
  rw [lg_entry_eq]
  exact body (p, l, e, (headSpec wy rm).room, s, m, av.toArray, below, meth, c, maxL, D, va_A w s.heap.size, _) ⟨B.exec, B.bytes, hml, hown, hts, hK, hA, hN, B.notSynchronized⟩ rfl rfl rfl rfl B.returns (fun h => (name_of_methodNamed B.named B.method).1.trans h) rfl s.heap [] _ hP hD va_S.rf hl
theorem metA_of {l : Launch} {y : MethodName} {wy wy' : List Cond} {rm : Room} {D : va_G} {tys : List (ClassId × FieldType)} {av : List Value} {w w2 : va_W} {r : Nat} {cc : ByteArray} {maxL : Nat} {ret : Option FieldType} (hy : plainName y.cls = true) (hw : wy = Cond.code y cc maxL ret :: wy') (hm : (lg_sl av).length ≤ maxL)
    (body : ∀ K : KT, Cx K cc y.cls wy tys → Rm K rm → NLis K maxL → Dis K D → Lis K l → RetT K ret → (y.name = "<init>" → IsInit K) → RA K rm.cells rm.slots tys w2 r → Z K 0 0 w (lv_args 0 av) 0 []) : MA l y wy rm D tys av w w2 r := by
  intro sz
  refine Met.ofW (cc := cc) (maxL := maxL) (ret := ret) hy hw ?_
  intro p e s m args below meth c s₁ B hml hv
  obtain ⟨rfl, hsz, hP, hK, hD0, hN⟩ := hv
  have hts := atoms_spec (ws := wy) B.pre
  have hown : s.vm.findClass y.cls = some m.cls := findClass_of_methodNamed B.named
  subst hsz
  have hD := hD0.self (sz := s.heap.size)
  have hA : ∀ q : Nat, s.heap.size ≤ q → va_A w s.heap.size q := fun q h => Or.inr h
  have hl := lv_entry av (n := maxL) hm
  rw [lg_entry_eq]
  exact body (p, l, e, (headSpec wy rm).room, s, m, av.toArray, below, meth, c, maxL, D, va_A w s.heap.size, _) ⟨B.exec, B.bytes, hml, hown, hts, hK, hA, hN, B.notSynchronized⟩ rfl rfl rfl rfl B.returns (fun h => (name_of_methodNamed B.named B.method).1.trans h) rfl s.heap [] _ hP hD va_S.rf hl
section ZR
variable {K : KT} {cc : ByteArray} {own : String} {Ts : List Cond} {tys : List (ClassId × FieldType)} {n k : Nat} {ws : va_W} {lv : List (Nat × Value)} {pc : Nat} {rest : List Value}
theorem z_iconst (hC : Cx K cc own Ts tys) {i : Int} {v : Int32} (hd : decode cc pc = .ok (.iconst i, 1)) (hv : Int32.ofInt i = v) (kk : Z K n k ws lv (pc + 1) (.int v :: rest)) : Z K n k ws lv (pc) (rest) := by
  obtain ⟨p, l, e, R, s, m, args, below, meth, c, nL, D, A, Q⟩ := K
  obtain ⟨hx, hb, hml, hown, hts, hK, hA, hN, hlk⟩ := hC
  intro H locs ls hP hD hS hl
  exact lv_iconst hx hb hd hv (kk H locs ls hP hD hS hl)
theorem z_bipush (hC : Cx K cc own Ts tys) {i : Int} {v : Int32} (hd : decode cc pc = .ok (.bipush i, 2)) (hv : (Int8.ofInt i).toInt32 = v) (kk : Z K n k ws lv (pc + 2) (.int v :: rest)) : Z K n k ws lv (pc) (rest) := by
  obtain ⟨p, l, e, R, s, m, args, below, meth, c, nL, D, A, Q⟩ := K
  obtain ⟨hx, hb, hml, hown, hts, hK, hA, hN, hlk⟩ := hC
  intro H locs ls hP hD hS hl
  exact lv_bipush hx hb hd hv (kk H locs ls hP hD hS hl)
theorem z_sipush (hC : Cx K cc own Ts tys) {i : Int} {v : Int32} (hd : decode cc pc = .ok (.sipush i, 3)) (hv : (Int16.ofInt i).toInt32 = v) (kk : Z K n k ws lv (pc + 3) (.int v :: rest)) : Z K n k ws lv (pc) (rest) := by
  obtain ⟨p, l, e, R, s, m, args, below, meth, c, nL, D, A, Q⟩ := K
  obtain ⟨hx, hb, hml, hown, hts, hK, hA, hN, hlk⟩ := hC
  intro H locs ls hP hD hS hl
  exact lv_sipush hx hb hd hv (kk H locs ls hP hD hS hl)
theorem z_lconst (hC : Cx K cc own Ts tys) {i : Fin 2} {v : Int64} (hd : decode cc pc = .ok (.lconst i, 1)) (hv : Int64.ofNat (i : Nat) = v) (kk : Z K n k ws lv (pc + 1) (.long v :: rest)) : Z K n k ws lv (pc) (rest) := by
  obtain ⟨p, l, e, R, s, m, args, below, meth, c, nL, D, A, Q⟩ := K
  obtain ⟨hx, hb, hml, hown, hts, hK, hA, hN, hlk⟩ := hC
  intro H locs ls hP hD hS hl
  exact lv_lconst hx hb hd hv (kk H locs ls hP hD hS hl)
theorem z_ldc2 (hC : Cx K cc own Ts tys) {index : Nat} {v : Int64} (hc : (Cond.constantLong own index v) ∈ Ts) (hd : decode cc pc = .ok (.ldc2_w index, 3)) (kk : Z K n k ws lv (pc + 3) (.long v :: rest)) : Z K n k ws lv (pc) (rest) := by
  obtain ⟨p, l, e, R, s, m, args, below, meth, c, nL, D, A, Q⟩ := K
  obtain ⟨hx, hb, hml, hown, hts, hK, hA, hN, hlk⟩ := hC
  intro H locs ls hP hD hS hl
  exact lv_ldc2 hx hb hown (hts _ hc) hd (kk H locs ls hP hD hS hl)
theorem z_iload_n (hC : Cx K cc own Ts tys) {j : Fin 4} {x : Int32} (q : Nat) (hd : decode cc pc = .ok (.iload_n j, 1)) (hq : lv[q]? = some ((j : Nat), .int x)) (kk : Z K n k ws lv (pc + 1) (.int x :: rest)) : Z K n k ws lv (pc) (rest) := by
  obtain ⟨p, l, e, R, s, m, args, below, meth, c, nL, D, A, Q⟩ := K
  obtain ⟨hx, hb, hml, hown, hts, hK, hA, hN, hlk⟩ := hC
  intro H locs ls hP hD hS hl
  exact lv_iload_n hx hb hd rfl (lv_at hl q hq) (kk H locs ls hP hD hS hl)
theorem z_iload (hC : Cx K cc own Ts tys) {j : Nat} {x : Int32} (q : Nat) (hd : decode cc pc = .ok (.iload j, 2)) (hq : lv[q]? = some (j, .int x)) (kk : Z K n k ws lv (pc + 2) (.int x :: rest)) : Z K n k ws lv (pc) (rest) := by
  obtain ⟨p, l, e, R, s, m, args, below, meth, c, nL, D, A, Q⟩ := K
  obtain ⟨hx, hb, hml, hown, hts, hK, hA, hN, hlk⟩ := hC
  intro H locs ls hP hD hS hl
  exact lv_iload hx hb hd (lv_at hl q hq) (kk H locs ls hP hD hS hl)
theorem z_lload_n (hC : Cx K cc own Ts tys) {j : Fin 4} {x : Int64} (q : Nat) (hd : decode cc pc = .ok (.lload_n j, 1)) (hq : lv[q]? = some ((j : Nat), .long x)) (kk : Z K n k ws lv (pc + 1) (.long x :: rest)) : Z K n k ws lv (pc) (rest) := by
  obtain ⟨p, l, e, R, s, m, args, below, meth, c, nL, D, A, Q⟩ := K
  obtain ⟨hx, hb, hml, hown, hts, hK, hA, hN, hlk⟩ := hC
  intro H locs ls hP hD hS hl
  exact lv_lload_n hx hb hd rfl (lv_at hl q hq) (kk H locs ls hP hD hS hl)
theorem z_lload (hC : Cx K cc own Ts tys) {j : Nat} {x : Int64} (q : Nat) (hd : decode cc pc = .ok (.lload j, 2)) (hq : lv[q]? = some (j, .long x)) (kk : Z K n k ws lv (pc + 2) (.long x :: rest)) : Z K n k ws lv (pc) (rest) := by
  obtain ⟨p, l, e, R, s, m, args, below, meth, c, nL, D, A, Q⟩ := K
  obtain ⟨hx, hb, hml, hown, hts, hK, hA, hN, hlk⟩ := hC
  intro H locs ls hP hD hS hl
  exact lv_lload hx hb hd (lv_at hl q hq) (kk H locs ls hP hD hS hl)
theorem z_aload_n (hC : Cx K cc own Ts tys) {j : Fin 4} {x : Nat} (q : Nat) (hd : decode cc pc = .ok (.aload_n j, 1)) (hq : lv[q]? = some ((j : Nat), .ref x)) (kk : Z K n k ws lv (pc + 1) (.ref x :: rest)) : Z K n k ws lv (pc) (rest) := by
  obtain ⟨p, l, e, R, s, m, args, below, meth, c, nL, D, A, Q⟩ := K
  obtain ⟨hx, hb, hml, hown, hts, hK, hA, hN, hlk⟩ := hC
  intro H locs ls hP hD hS hl
  exact lv_aload_n hx hb hd rfl (lv_at hl q hq) (kk H locs ls hP hD hS hl)
theorem z_aload (hC : Cx K cc own Ts tys) {j : Nat} {x : Nat} (q : Nat) (hd : decode cc pc = .ok (.aload j, 2)) (hq : lv[q]? = some (j, .ref x)) (kk : Z K n k ws lv (pc + 2) (.ref x :: rest)) : Z K n k ws lv (pc) (rest) := by
  obtain ⟨p, l, e, R, s, m, args, below, meth, c, nL, D, A, Q⟩ := K
  obtain ⟨hx, hb, hml, hown, hts, hK, hA, hN, hlk⟩ := hC
  intro H locs ls hP hD hS hl
  exact lv_aload hx hb hd (lv_at hl q hq) (kk H locs ls hP hD hS hl)
theorem z_istore_n (hC : Cx K cc own Ts tys) {j : Fin 4} {x : Int32} {N : Nat} (hN0 : NLis K N) (lv' : List (Nat × Value)) (hd : decode cc pc = .ok (.istore_n j, 1)) (hn : (j : Nat) < N) (hl' : ((j : Nat), Value.int x) :: lv.filter (fun q => !(q.1 == (j : Nat)) && !(q.1 + 1 == (j : Nat) && q.2.category == 2)) = lv') (kk : Z K n k ws lv' (pc + 1) (rest)) : Z K n k ws lv (pc) (.int x :: rest) := by
  obtain ⟨p, l, e, R, s, m, args, below, meth, c, nL, D, A, Q⟩ := K
  obtain ⟨hx, hb, hml, hown, hts, hK, hA, hN, hlk⟩ := hC
  intro H locs ls hP hD hS hl
  exact lv_istore_n hx hb hd rfl hl (by rw [show nL = N from hN0]; exact hn) hl' (fun ls2 hl2 => kk H locs ls2 hP hD hS hl2)
theorem z_istore (hC : Cx K cc own Ts tys) {j : Nat} {x : Int32} {N : Nat} (hN0 : NLis K N) (lv' : List (Nat × Value)) (hd : decode cc pc = .ok (.istore j, 2)) (hn : j < N) (hl' : (j, Value.int x) :: lv.filter (fun q => !(q.1 == j) && !(q.1 + 1 == j && q.2.category == 2)) = lv') (kk : Z K n k ws lv' (pc + 2) (rest)) : Z K n k ws lv (pc) (.int x :: rest) := by
  obtain ⟨p, l, e, R, s, m, args, below, meth, c, nL, D, A, Q⟩ := K
  obtain ⟨hx, hb, hml, hown, hts, hK, hA, hN, hlk⟩ := hC
  intro H locs ls hP hD hS hl
  exact lv_istore hx hb hd hl (by rw [show nL = N from hN0]; exact hn) hl' (fun ls2 hl2 => kk H locs ls2 hP hD hS hl2)
theorem z_astore_n (hC : Cx K cc own Ts tys) {j : Fin 4} {x : Nat} {N : Nat} (hN0 : NLis K N) (lv' : List (Nat × Value)) (hd : decode cc pc = .ok (.astore_n j, 1)) (hn : (j : Nat) < N) (hl' : ((j : Nat), Value.ref x) :: lv.filter (fun q => !(q.1 == (j : Nat)) && !(q.1 + 1 == (j : Nat) && q.2.category == 2)) = lv') (kk : Z K n k ws lv' (pc + 1) (rest)) : Z K n k ws lv (pc) (.ref x :: rest) := by
  obtain ⟨p, l, e, R, s, m, args, below, meth, c, nL, D, A, Q⟩ := K
  obtain ⟨hx, hb, hml, hown, hts, hK, hA, hN, hlk⟩ := hC
  intro H locs ls hP hD hS hl
  exact lv_astore_n hx hb hd rfl hl (by rw [show nL = N from hN0]; exact hn) hl' (fun ls2 hl2 => kk H locs ls2 hP hD hS hl2)
theorem z_astore (hC : Cx K cc own Ts tys) {j : Nat} {x : Nat} {N : Nat} (hN0 : NLis K N) (lv' : List (Nat × Value)) (hd : decode cc pc = .ok (.astore j, 2)) (hn : j < N) (hl' : (j, Value.ref x) :: lv.filter (fun q => !(q.1 == j) && !(q.1 + 1 == j && q.2.category == 2)) = lv') (kk : Z K n k ws lv' (pc + 2) (rest)) : Z K n k ws lv (pc) (.ref x :: rest) := by
  obtain ⟨p, l, e, R, s, m, args, below, meth, c, nL, D, A, Q⟩ := K
  obtain ⟨hx, hb, hml, hown, hts, hK, hA, hN, hlk⟩ := hC
  intro H locs ls hP hD hS hl
  exact lv_astore hx hb hd hl (by rw [show nL = N from hN0]; exact hn) hl' (fun ls2 hl2 => kk H locs ls2 hP hD hS hl2)
theorem z_iinc (hC : Cx K cc own Ts tys) {j q N : Nat} {i : Int} {x v : Int32} (hN0 : NLis K N) (lv' : List (Nat × Value)) (hd : decode cc pc = .ok (.iinc j i, 3)) (hq : lv[q]? = some (j, .int x)) (hv : x + Int32.ofInt i = v) (hn : j < N) (hl' : (j, Value.int v) :: lv.filter (fun q => !(q.1 == j) && !(q.1 + 1 == j && q.2.category == 2)) = lv') (kk : Z K n k ws lv' (pc + 3) (rest)) : Z K n k ws lv (pc) (rest) := by
  obtain ⟨p, l, e, R, s, m, args, below, meth, c, nL, D, A, Q⟩ := K
  obtain ⟨hx, hb, hml, hown, hts, hK, hA, hN, hlk⟩ := hC
  intro H locs ls hP hD hS hl
  exact lv_iinc hx hb hd hl hq hv (by rw [show nL = N from hN0]; exact hn) hl' (fun ls2 hl2 => kk H locs ls2 hP hD hS hl2)
theorem z_iadd (hC : Cx K cc own Ts tys) {x y v : Int32} (hd : decode cc pc = .ok (.iadd, 1)) (hv : x + y = v) (kk : Z K n k ws lv (pc + 1) (.int v :: rest)) : Z K n k ws lv (pc) (.int y :: .int x :: rest) := by
  obtain ⟨p, l, e, R, s, m, args, below, meth, c, nL, D, A, Q⟩ := K
  obtain ⟨hx, hb, hml, hown, hts, hK, hA, hN, hlk⟩ := hC
  intro H locs ls hP hD hS hl
  subst hv
  exact lv_iadd hx hb hd (kk H locs ls hP hD hS hl)
theorem z_isub (hC : Cx K cc own Ts tys) {x y v : Int32} (hd : decode cc pc = .ok (.isub, 1)) (hv : x - y = v) (kk : Z K n k ws lv (pc + 1) (.int v :: rest)) : Z K n k ws lv (pc) (.int y :: .int x :: rest) := by
  obtain ⟨p, l, e, R, s, m, args, below, meth, c, nL, D, A, Q⟩ := K
  obtain ⟨hx, hb, hml, hown, hts, hK, hA, hN, hlk⟩ := hC
  intro H locs ls hP hD hS hl
  subst hv
  exact lv_isub hx hb hd (kk H locs ls hP hD hS hl)
theorem z_imul (hC : Cx K cc own Ts tys) {x y v : Int32} (hd : decode cc pc = .ok (.imul, 1)) (hv : x * y = v) (kk : Z K n k ws lv (pc + 1) (.int v :: rest)) : Z K n k ws lv (pc) (.int y :: .int x :: rest) := by
  obtain ⟨p, l, e, R, s, m, args, below, meth, c, nL, D, A, Q⟩ := K
  obtain ⟨hx, hb, hml, hown, hts, hK, hA, hN, hlk⟩ := hC
  intro H locs ls hP hD hS hl
  subst hv
  exact lv_imul hx hb hd (kk H locs ls hP hD hS hl)
theorem z_iand (hC : Cx K cc own Ts tys) {x y v : Int32} (hd : decode cc pc = .ok (.iand, 1)) (hv : x &&& y = v) (kk : Z K n k ws lv (pc + 1) (.int v :: rest)) : Z K n k ws lv (pc) (.int y :: .int x :: rest) := by
  obtain ⟨p, l, e, R, s, m, args, below, meth, c, nL, D, A, Q⟩ := K
  obtain ⟨hx, hb, hml, hown, hts, hK, hA, hN, hlk⟩ := hC
  intro H locs ls hP hD hS hl
  subst hv
  exact lv_iand hx hb hd (kk H locs ls hP hD hS hl)
theorem z_ior (hC : Cx K cc own Ts tys) {x y v : Int32} (hd : decode cc pc = .ok (.ior, 1)) (hv : x ||| y = v) (kk : Z K n k ws lv (pc + 1) (.int v :: rest)) : Z K n k ws lv (pc) (.int y :: .int x :: rest) := by
  obtain ⟨p, l, e, R, s, m, args, below, meth, c, nL, D, A, Q⟩ := K
  obtain ⟨hx, hb, hml, hown, hts, hK, hA, hN, hlk⟩ := hC
  intro H locs ls hP hD hS hl
  subst hv
  exact lv_ior hx hb hd (kk H locs ls hP hD hS hl)
theorem z_ixor (hC : Cx K cc own Ts tys) {x y v : Int32} (hd : decode cc pc = .ok (.ixor, 1)) (hv : x ^^^ y = v) (kk : Z K n k ws lv (pc + 1) (.int v :: rest)) : Z K n k ws lv (pc) (.int y :: .int x :: rest) := by
  obtain ⟨p, l, e, R, s, m, args, below, meth, c, nL, D, A, Q⟩ := K
  obtain ⟨hx, hb, hml, hown, hts, hK, hA, hN, hlk⟩ := hC
  intro H locs ls hP hD hS hl
  subst hv
  exact lv_ixor hx hb hd (kk H locs ls hP hD hS hl)
theorem z_ishl (hC : Cx K cc own Ts tys) {x y v : Int32} (hd : decode cc pc = .ok (.ishl, 1)) (hv : x <<< (y &&& 31) = v) (kk : Z K n k ws lv (pc + 1) (.int v :: rest)) : Z K n k ws lv (pc) (.int y :: .int x :: rest) := by
  obtain ⟨p, l, e, R, s, m, args, below, meth, c, nL, D, A, Q⟩ := K
  obtain ⟨hx, hb, hml, hown, hts, hK, hA, hN, hlk⟩ := hC
  intro H locs ls hP hD hS hl
  subst hv
  exact lv_ishl hx hb hd (kk H locs ls hP hD hS hl)
theorem z_ishr (hC : Cx K cc own Ts tys) {x y v : Int32} (hd : decode cc pc = .ok (.ishr, 1)) (hv : x >>> (y &&& 31) = v) (kk : Z K n k ws lv (pc + 1) (.int v :: rest)) : Z K n k ws lv (pc) (.int y :: .int x :: rest) := by
  obtain ⟨p, l, e, R, s, m, args, below, meth, c, nL, D, A, Q⟩ := K
  obtain ⟨hx, hb, hml, hown, hts, hK, hA, hN, hlk⟩ := hC
  intro H locs ls hP hD hS hl
  subst hv
  exact lv_ishr hx hb hd (kk H locs ls hP hD hS hl)
theorem z_idiv (hC : Cx K cc own Ts tys) {x y v : Int32} (hd : decode cc pc = .ok (.idiv, 1)) (hne : ¬ y = 0) (hv : x / y = v) (kk : Z K n k ws lv (pc + 1) (.int v :: rest)) : Z K n k ws lv (pc) (.int y :: .int x :: rest) := by
  obtain ⟨p, l, e, R, s, m, args, below, meth, c, nL, D, A, Q⟩ := K
  obtain ⟨hx, hb, hml, hown, hts, hK, hA, hN, hlk⟩ := hC
  intro H locs ls hP hD hS hl
  subst hv
  exact lv_idiv hx hb hd hne (kk H locs ls hP hD hS hl)
theorem z_irem (hC : Cx K cc own Ts tys) {x y v : Int32} (hd : decode cc pc = .ok (.irem, 1)) (hne : ¬ y = 0) (hv : x - x / y * y = v) (kk : Z K n k ws lv (pc + 1) (.int v :: rest)) : Z K n k ws lv (pc) (.int y :: .int x :: rest) := by
  obtain ⟨p, l, e, R, s, m, args, below, meth, c, nL, D, A, Q⟩ := K
  obtain ⟨hx, hb, hml, hown, hts, hK, hA, hN, hlk⟩ := hC
  intro H locs ls hP hD hS hl
  subst hv
  exact lv_irem hx hb hd hne (kk H locs ls hP hD hS hl)
theorem z_land (hC : Cx K cc own Ts tys) {x y v : Int64} (hd : decode cc pc = .ok (.land, 1)) (hv : x &&& y = v) (kk : Z K n k ws lv (pc + 1) (.long v :: rest)) : Z K n k ws lv (pc) (.long y :: .long x :: rest) := by
  obtain ⟨p, l, e, R, s, m, args, below, meth, c, nL, D, A, Q⟩ := K
  obtain ⟨hx, hb, hml, hown, hts, hK, hA, hN, hlk⟩ := hC
  intro H locs ls hP hD hS hl
  subst hv
  exact lv_land hx hb hd (kk H locs ls hP hD hS hl)
theorem z_lor (hC : Cx K cc own Ts tys) {x y v : Int64} (hd : decode cc pc = .ok (.lor, 1)) (hv : x ||| y = v) (kk : Z K n k ws lv (pc + 1) (.long v :: rest)) : Z K n k ws lv (pc) (.long y :: .long x :: rest) := by
  obtain ⟨p, l, e, R, s, m, args, below, meth, c, nL, D, A, Q⟩ := K
  obtain ⟨hx, hb, hml, hown, hts, hK, hA, hN, hlk⟩ := hC
  intro H locs ls hP hD hS hl
  subst hv
  exact lv_lor hx hb hd (kk H locs ls hP hD hS hl)
theorem z_i2l (hC : Cx K cc own Ts tys) {x : Int32} {v : Int64} (hd : decode cc pc = .ok (.i2l, 1)) (hv : x.toInt64 = v) (kk : Z K n k ws lv (pc + 1) (.long v :: rest)) : Z K n k ws lv (pc) (.int x :: rest) := by
  obtain ⟨p, l, e, R, s, m, args, below, meth, c, nL, D, A, Q⟩ := K
  obtain ⟨hx, hb, hml, hown, hts, hK, hA, hN, hlk⟩ := hC
  intro H locs ls hP hD hS hl
  exact lv_i2l hx hb hd hv (kk H locs ls hP hD hS hl)
theorem z_l2i (hC : Cx K cc own Ts tys) {x : Int64} {v : Int32} (hd : decode cc pc = .ok (.l2i, 1)) (hv : x.toInt32 = v) (kk : Z K n k ws lv (pc + 1) (.int v :: rest)) : Z K n k ws lv (pc) (.long x :: rest) := by
  obtain ⟨p, l, e, R, s, m, args, below, meth, c, nL, D, A, Q⟩ := K
  obtain ⟨hx, hb, hml, hown, hts, hK, hA, hN, hlk⟩ := hC
  intro H locs ls hP hD hS hl
  exact lv_l2i hx hb hd hv (kk H locs ls hP hD hS hl)
theorem z_lshl (hC : Cx K cc own Ts tys) {x v : Int64} {y : Int32} (hd : decode cc pc = .ok (.lshl, 1)) (hv : x <<< (y.toInt64 &&& 63) = v) (kk : Z K n k ws lv (pc + 1) (.long v :: rest)) : Z K n k ws lv (pc) (.int y :: .long x :: rest) := by
  obtain ⟨p, l, e, R, s, m, args, below, meth, c, nL, D, A, Q⟩ := K
  obtain ⟨hx, hb, hml, hown, hts, hK, hA, hN, hlk⟩ := hC
  intro H locs ls hP hD hS hl
  exact lv_lshl hx hb hd hv (kk H locs ls hP hD hS hl)
theorem z_lshr (hC : Cx K cc own Ts tys) {x v : Int64} {y : Int32} (hd : decode cc pc = .ok (.lshr, 1)) (hv : x >>> (y.toInt64 &&& 63) = v) (kk : Z K n k ws lv (pc + 1) (.long v :: rest)) : Z K n k ws lv (pc) (.int y :: .long x :: rest) := by
  obtain ⟨p, l, e, R, s, m, args, below, meth, c, nL, D, A, Q⟩ := K
  obtain ⟨hx, hb, hml, hown, hts, hK, hA, hN, hlk⟩ := hC
  intro H locs ls hP hD hS hl
  exact lv_lshr hx hb hd hv (kk H locs ls hP hD hS hl)
theorem z_lcmp (hC : Cx K cc own Ts tys) {x y : Int64} {v : Int32} (hd : decode cc pc = .ok (.lcmp, 1)) (hv : lg_cmp x y = v) (kk : Z K n k ws lv (pc + 1) (.int v :: rest)) : Z K n k ws lv (pc) (.long y :: .long x :: rest) := by
  obtain ⟨p, l, e, R, s, m, args, below, meth, c, nL, D, A, Q⟩ := K
  obtain ⟨hx, hb, hml, hown, hts, hK, hA, hN, hlk⟩ := hC
  intro H locs ls hP hD hS hl
  subst hv
  exact W.lcmp hx hb hd (kk H locs ls hP hD hS hl)
theorem z_dup (hC : Cx K cc own Ts tys) {v : Value} (hd : decode cc pc = .ok (.dup, 1)) (hv : v.category = 1) (kk : Z K n k ws lv (pc + 1) (v :: v :: rest)) : Z K n k ws lv (pc) (v :: rest) := by
  obtain ⟨p, l, e, R, s, m, args, below, meth, c, nL, D, A, Q⟩ := K
  obtain ⟨hx, hb, hml, hown, hts, hK, hA, hN, hlk⟩ := hC
  intro H locs ls hP hD hS hl
  exact lv_dup hx hb hd hv (kk H locs ls hP hD hS hl)
theorem z_pop (hC : Cx K cc own Ts tys) {v : Value} (hd : decode cc pc = .ok (.pop, 1)) (hv : v.category = 1) (kk : Z K n k ws lv (pc + 1) (rest)) : Z K n k ws lv (pc) (v :: rest) := by
  obtain ⟨p, l, e, R, s, m, args, below, meth, c, nL, D, A, Q⟩ := K
  obtain ⟨hx, hb, hml, hown, hts, hK, hA, hN, hlk⟩ := hC
  intro H locs ls hP hD hS hl
  exact lv_pop hx hb hd hv (kk H locs ls hP hD hS hl)
theorem z_dup2 (hC : Cx K cc own Ts tys) {v u : Value} (hd : decode cc pc = .ok (.dup2, 1)) (hv : v.category = 1) (hu : u.category = 1) (kk : Z K n k ws lv (pc + 1) (v :: u :: v :: u :: rest)) : Z K n k ws lv (pc) (v :: u :: rest) := by
  obtain ⟨p, l, e, R, s, m, args, below, meth, c, nL, D, A, Q⟩ := K
  obtain ⟨hx, hb, hml, hown, hts, hK, hA, hN, hlk⟩ := hC
  intro H locs ls hP hD hS hl
  exact lv_dup2_11 hx hb hd hv hu (kk H locs ls hP hD hS hl)
theorem z_if_eq (hC : Cx K cc own Ts tys) {x : Int32} {off : Int} {tgt : Nat} (hd : decode cc pc = .ok (.ifCond .eq off, 3)) (ht : (pc : Int) + off = (tgt : Int)) (kt : x = 0 → Z K n k ws lv (tgt) (rest)) (kf : ¬ (x = 0) → Z K n k ws lv (pc + 3) (rest)) : Z K n k ws lv (pc) (.int x :: rest) := by
  obtain ⟨p, l, e, R, s, m, args, below, meth, c, nL, D, A, Q⟩ := K
  obtain ⟨hx, hb, hml, hown, hts, hK, hA, hN, hlk⟩ := hC
  intro H locs ls hP hD hS hl
  exact lv_if_eq hx hb hd ht (fun h => kt h H locs ls hP hD hS hl) (fun h => kf h H locs ls hP hD hS hl)
theorem z_icmp_eq (hC : Cx K cc own Ts tys) {x y : Int32} {off : Int} {tgt : Nat} (hd : decode cc pc = .ok (.if_icmp .eq off, 3)) (ht : (pc : Int) + off = (tgt : Int)) (kt : x = y → Z K n k ws lv (tgt) (rest)) (kf : ¬ (x = y) → Z K n k ws lv (pc + 3) (rest)) : Z K n k ws lv (pc) (.int y :: .int x :: rest) := by
  obtain ⟨p, l, e, R, s, m, args, below, meth, c, nL, D, A, Q⟩ := K
  obtain ⟨hx, hb, hml, hown, hts, hK, hA, hN, hlk⟩ := hC
  intro H locs ls hP hD hS hl
  exact lv_icmp_eq hx hb hd ht (fun h => kt h H locs ls hP hD hS hl) (fun h => kf h H locs ls hP hD hS hl)
theorem z_if_ne (hC : Cx K cc own Ts tys) {x : Int32} {off : Int} {tgt : Nat} (hd : decode cc pc = .ok (.ifCond .ne off, 3)) (ht : (pc : Int) + off = (tgt : Int)) (kt : x ≠ 0 → Z K n k ws lv (tgt) (rest)) (kf : x = 0 → Z K n k ws lv (pc + 3) (rest)) : Z K n k ws lv (pc) (.int x :: rest) := by
  obtain ⟨p, l, e, R, s, m, args, below, meth, c, nL, D, A, Q⟩ := K
  obtain ⟨hx, hb, hml, hown, hts, hK, hA, hN, hlk⟩ := hC
  intro H locs ls hP hD hS hl
  exact lv_if_ne hx hb hd ht (fun h => kt h H locs ls hP hD hS hl) (fun h => kf h H locs ls hP hD hS hl)
theorem z_icmp_ne (hC : Cx K cc own Ts tys) {x y : Int32} {off : Int} {tgt : Nat} (hd : decode cc pc = .ok (.if_icmp .ne off, 3)) (ht : (pc : Int) + off = (tgt : Int)) (kt : x ≠ y → Z K n k ws lv (tgt) (rest)) (kf : x = y → Z K n k ws lv (pc + 3) (rest)) : Z K n k ws lv (pc) (.int y :: .int x :: rest) := by
  obtain ⟨p, l, e, R, s, m, args, below, meth, c, nL, D, A, Q⟩ := K
  obtain ⟨hx, hb, hml, hown, hts, hK, hA, hN, hlk⟩ := hC
  intro H locs ls hP hD hS hl
  exact lv_icmp_ne hx hb hd ht (fun h => kt h H locs ls hP hD hS hl) (fun h => kf h H locs ls hP hD hS hl)
theorem z_if_lt (hC : Cx K cc own Ts tys) {x : Int32} {off : Int} {tgt : Nat} (hd : decode cc pc = .ok (.ifCond .lt off, 3)) (ht : (pc : Int) + off = (tgt : Int)) (kt : x < 0 → Z K n k ws lv (tgt) (rest)) (kf : ¬ (x < 0) → Z K n k ws lv (pc + 3) (rest)) : Z K n k ws lv (pc) (.int x :: rest) := by
  obtain ⟨p, l, e, R, s, m, args, below, meth, c, nL, D, A, Q⟩ := K
  obtain ⟨hx, hb, hml, hown, hts, hK, hA, hN, hlk⟩ := hC
  intro H locs ls hP hD hS hl
  exact lv_if_lt hx hb hd ht (fun h => kt h H locs ls hP hD hS hl) (fun h => kf h H locs ls hP hD hS hl)
theorem z_icmp_lt (hC : Cx K cc own Ts tys) {x y : Int32} {off : Int} {tgt : Nat} (hd : decode cc pc = .ok (.if_icmp .lt off, 3)) (ht : (pc : Int) + off = (tgt : Int)) (kt : x < y → Z K n k ws lv (tgt) (rest)) (kf : ¬ (x < y) → Z K n k ws lv (pc + 3) (rest)) : Z K n k ws lv (pc) (.int y :: .int x :: rest) := by
  obtain ⟨p, l, e, R, s, m, args, below, meth, c, nL, D, A, Q⟩ := K
  obtain ⟨hx, hb, hml, hown, hts, hK, hA, hN, hlk⟩ := hC
  intro H locs ls hP hD hS hl
  exact lv_icmp_lt hx hb hd ht (fun h => kt h H locs ls hP hD hS hl) (fun h => kf h H locs ls hP hD hS hl)
theorem z_if_ge (hC : Cx K cc own Ts tys) {x : Int32} {off : Int} {tgt : Nat} (hd : decode cc pc = .ok (.ifCond .ge off, 3)) (ht : (pc : Int) + off = (tgt : Int)) (kt : 0 ≤ x → Z K n k ws lv (tgt) (rest)) (kf : ¬ (0 ≤ x) → Z K n k ws lv (pc + 3) (rest)) : Z K n k ws lv (pc) (.int x :: rest) := by
  obtain ⟨p, l, e, R, s, m, args, below, meth, c, nL, D, A, Q⟩ := K
  obtain ⟨hx, hb, hml, hown, hts, hK, hA, hN, hlk⟩ := hC
  intro H locs ls hP hD hS hl
  exact lv_if_ge hx hb hd ht (fun h => kt h H locs ls hP hD hS hl) (fun h => kf h H locs ls hP hD hS hl)
theorem z_icmp_ge (hC : Cx K cc own Ts tys) {x y : Int32} {off : Int} {tgt : Nat} (hd : decode cc pc = .ok (.if_icmp .ge off, 3)) (ht : (pc : Int) + off = (tgt : Int)) (kt : y ≤ x → Z K n k ws lv (tgt) (rest)) (kf : ¬ (y ≤ x) → Z K n k ws lv (pc + 3) (rest)) : Z K n k ws lv (pc) (.int y :: .int x :: rest) := by
  obtain ⟨p, l, e, R, s, m, args, below, meth, c, nL, D, A, Q⟩ := K
  obtain ⟨hx, hb, hml, hown, hts, hK, hA, hN, hlk⟩ := hC
  intro H locs ls hP hD hS hl
  exact lv_icmp_ge hx hb hd ht (fun h => kt h H locs ls hP hD hS hl) (fun h => kf h H locs ls hP hD hS hl)
theorem z_if_gt (hC : Cx K cc own Ts tys) {x : Int32} {off : Int} {tgt : Nat} (hd : decode cc pc = .ok (.ifCond .gt off, 3)) (ht : (pc : Int) + off = (tgt : Int)) (kt : 0 < x → Z K n k ws lv (tgt) (rest)) (kf : ¬ (0 < x) → Z K n k ws lv (pc + 3) (rest)) : Z K n k ws lv (pc) (.int x :: rest) := by
  obtain ⟨p, l, e, R, s, m, args, below, meth, c, nL, D, A, Q⟩ := K
  obtain ⟨hx, hb, hml, hown, hts, hK, hA, hN, hlk⟩ := hC
  intro H locs ls hP hD hS hl
  exact lv_if_gt hx hb hd ht (fun h => kt h H locs ls hP hD hS hl) (fun h => kf h H locs ls hP hD hS hl)
theorem z_icmp_gt (hC : Cx K cc own Ts tys) {x y : Int32} {off : Int} {tgt : Nat} (hd : decode cc pc = .ok (.if_icmp .gt off, 3)) (ht : (pc : Int) + off = (tgt : Int)) (kt : y < x → Z K n k ws lv (tgt) (rest)) (kf : ¬ (y < x) → Z K n k ws lv (pc + 3) (rest)) : Z K n k ws lv (pc) (.int y :: .int x :: rest) := by
  obtain ⟨p, l, e, R, s, m, args, below, meth, c, nL, D, A, Q⟩ := K
  obtain ⟨hx, hb, hml, hown, hts, hK, hA, hN, hlk⟩ := hC
  intro H locs ls hP hD hS hl
  exact lv_icmp_gt hx hb hd ht (fun h => kt h H locs ls hP hD hS hl) (fun h => kf h H locs ls hP hD hS hl)
theorem z_if_le (hC : Cx K cc own Ts tys) {x : Int32} {off : Int} {tgt : Nat} (hd : decode cc pc = .ok (.ifCond .le off, 3)) (ht : (pc : Int) + off = (tgt : Int)) (kt : x ≤ 0 → Z K n k ws lv (tgt) (rest)) (kf : ¬ (x ≤ 0) → Z K n k ws lv (pc + 3) (rest)) : Z K n k ws lv (pc) (.int x :: rest) := by
  obtain ⟨p, l, e, R, s, m, args, below, meth, c, nL, D, A, Q⟩ := K
  obtain ⟨hx, hb, hml, hown, hts, hK, hA, hN, hlk⟩ := hC
  intro H locs ls hP hD hS hl
  exact lv_if_le hx hb hd ht (fun h => kt h H locs ls hP hD hS hl) (fun h => kf h H locs ls hP hD hS hl)
theorem z_icmp_le (hC : Cx K cc own Ts tys) {x y : Int32} {off : Int} {tgt : Nat} (hd : decode cc pc = .ok (.if_icmp .le off, 3)) (ht : (pc : Int) + off = (tgt : Int)) (kt : x ≤ y → Z K n k ws lv (tgt) (rest)) (kf : ¬ (x ≤ y) → Z K n k ws lv (pc + 3) (rest)) : Z K n k ws lv (pc) (.int y :: .int x :: rest) := by
  obtain ⟨p, l, e, R, s, m, args, below, meth, c, nL, D, A, Q⟩ := K
  obtain ⟨hx, hb, hml, hown, hts, hK, hA, hN, hlk⟩ := hC
  intro H locs ls hP hD hS hl
  exact lv_icmp_le hx hb hd ht (fun h => kt h H locs ls hP hD hS hl) (fun h => kf h H locs ls hP hD hS hl)
theorem z_ncmp_eq (hC : Cx K cc own Ts tys) {a b : Nat} {off : Int} {tgt : Nat} (hd : decode cc pc = .ok (.if_icmp .eq off, 3)) (ht : (pc : Int) + off = (tgt : Int)) (ha : a < 2 ^ 31) (hb0 : b < 2 ^ 31) (kt : a = b → Z K n k ws lv (tgt) (rest)) (kf : a ≠ b → Z K n k ws lv (pc + 3) (rest)) : Z K n k ws lv (pc) (.int (nI b) :: .int (nI a) :: rest) := z_icmp_eq hC hd ht (fun h => kt ((nI_eq ha hb0).mp h)) (fun h => kf (fun h2 => h ((nI_eq ha hb0).mpr h2)))
theorem z_ncmp_ne (hC : Cx K cc own Ts tys) {a b : Nat} {off : Int} {tgt : Nat} (hd : decode cc pc = .ok (.if_icmp .ne off, 3)) (ht : (pc : Int) + off = (tgt : Int)) (ha : a < 2 ^ 31) (hb0 : b < 2 ^ 31) (kt : a ≠ b → Z K n k ws lv (tgt) (rest)) (kf : a = b → Z K n k ws lv (pc + 3) (rest)) : Z K n k ws lv (pc) (.int (nI b) :: .int (nI a) :: rest) := z_icmp_ne hC hd ht (fun h => kt (fun h2 => h ((nI_eq ha hb0).mpr h2))) (fun h => kf ((nI_eq ha hb0).mp h))
theorem z_ncmp_lt (hC : Cx K cc own Ts tys) {a b : Nat} {off : Int} {tgt : Nat} (hd : decode cc pc = .ok (.if_icmp .lt off, 3)) (ht : (pc : Int) + off = (tgt : Int)) (ha : a < 2 ^ 31) (hb0 : b < 2 ^ 31) (kt : a < b → Z K n k ws lv (tgt) (rest)) (kf : b ≤ a → Z K n k ws lv (pc + 3) (rest)) : Z K n k ws lv (pc) (.int (nI b) :: .int (nI a) :: rest) := z_icmp_lt hC hd ht (fun h => kt ((nI_ltI ha hb0).mp h)) (fun h => kf (Nat.not_lt.mp (fun h2 => h ((nI_ltI ha hb0).mpr h2))))
theorem z_ncmp_ge (hC : Cx K cc own Ts tys) {a b : Nat} {off : Int} {tgt : Nat} (hd : decode cc pc = .ok (.if_icmp .ge off, 3)) (ht : (pc : Int) + off = (tgt : Int)) (ha : a < 2 ^ 31) (hb0 : b < 2 ^ 31) (kt : b ≤ a → Z K n k ws lv (tgt) (rest)) (kf : a < b → Z K n k ws lv (pc + 3) (rest)) : Z K n k ws lv (pc) (.int (nI b) :: .int (nI a) :: rest) := z_icmp_ge hC hd ht (fun h => kt ((nI_leI hb0 ha).mp h)) (fun h => kf (Nat.not_le.mp (fun h2 => h ((nI_leI hb0 ha).mpr h2))))
theorem z_ncmp_gt (hC : Cx K cc own Ts tys) {a b : Nat} {off : Int} {tgt : Nat} (hd : decode cc pc = .ok (.if_icmp .gt off, 3)) (ht : (pc : Int) + off = (tgt : Int)) (ha : a < 2 ^ 31) (hb0 : b < 2 ^ 31) (kt : b < a → Z K n k ws lv (tgt) (rest)) (kf : a ≤ b → Z K n k ws lv (pc + 3) (rest)) : Z K n k ws lv (pc) (.int (nI b) :: .int (nI a) :: rest) := z_icmp_gt hC hd ht (fun h => kt ((nI_ltI hb0 ha).mp h)) (fun h => kf (Nat.not_lt.mp (fun h2 => h ((nI_ltI hb0 ha).mpr h2))))
theorem z_ncmp_le (hC : Cx K cc own Ts tys) {a b : Nat} {off : Int} {tgt : Nat} (hd : decode cc pc = .ok (.if_icmp .le off, 3)) (ht : (pc : Int) + off = (tgt : Int)) (ha : a < 2 ^ 31) (hb0 : b < 2 ^ 31) (kt : a ≤ b → Z K n k ws lv (tgt) (rest)) (kf : b < a → Z K n k ws lv (pc + 3) (rest)) : Z K n k ws lv (pc) (.int (nI b) :: .int (nI a) :: rest) := z_icmp_le hC hd ht (fun h => kt ((nI_leI ha hb0).mp h)) (fun h => kf (Nat.not_le.mp (fun h2 => h ((nI_leI ha hb0).mpr h2))))
theorem z_goto (hC : Cx K cc own Ts tys) {off : Int} {tgt : Nat} (hd : decode cc pc = .ok (.goto off, 3)) (ht : (pc : Int) + off = (tgt : Int)) (kk : Z K n k ws lv (tgt) (rest)) : Z K n k ws lv (pc) (rest) := by
  obtain ⟨p, l, e, R, s, m, args, below, meth, c, nL, D, A, Q⟩ := K
  obtain ⟨hx, hb, hml, hown, hts, hK, hA, hN, hlk⟩ := hC
  intro H locs ls hP hD hS hl
  exact lv_goto hx hb hd ht (kk H locs ls hP hD hS hl)
theorem z_tableIn (hC : Cx K cc own Ts tys) {dflt lo hi : Int} {offs : Array Int} {len : Nat} {x : Int32} {off : Int} {tgt : Nat} (hd : decode cc pc = .ok (.tableswitch dflt lo hi offs, len)) (h1 : ¬ x.toInt < lo) (h2 : ¬ hi < x.toInt) (ho : offs[(x.toInt - lo).toNat]? = some off) (ht : (pc : Int) + off = (tgt : Int)) (kk : Z K n k ws lv (tgt) (rest)) : Z K n k ws lv (pc) (.int x :: rest) := by
  obtain ⟨p, l, e, R, s, m, args, below, meth, c, nL, D, A, Q⟩ := K
  obtain ⟨hx, hb, hml, hown, hts, hK, hA, hN, hlk⟩ := hC
  intro H locs ls hP hD hS hl
  exact lv_tableIn hx hb hd h1 h2 ho ht (kk H locs ls hP hD hS hl)
theorem z_tableOut (hC : Cx K cc own Ts tys) {dflt lo hi : Int} {offs : Array Int} {len : Nat} {x : Int32} {tgt : Nat} (hd : decode cc pc = .ok (.tableswitch dflt lo hi offs, len)) (h1 : x.toInt < lo ∨ hi < x.toInt) (ht : (pc : Int) + dflt = (tgt : Int)) (kk : Z K n k ws lv (tgt) (rest)) : Z K n k ws lv (pc) (.int x :: rest) := by
  obtain ⟨p, l, e, R, s, m, args, below, meth, c, nL, D, A, Q⟩ := K
  obtain ⟨hx, hb, hml, hown, hts, hK, hA, hN, hlk⟩ := hC
  intro H locs ls hP hD hS hl
  exact lv_tableOut hx hb hd h1 ht (kk H locs ls hP hD hS hl)
theorem z_lookup (hC : Cx K cc own Ts tys) {dflt : Int} {ps : Array (Int × Int)} {len : Nat} {x : Int32} {off : Int} {tgt : Nat} (hd : decode cc pc = .ok (.lookupswitch dflt ps, len)) (hp : (ps.toList.zip (ps.toList.drop 1)).all (fun (a, next) => a.1 < next.1) = true) (ho : Op.lookupswitch.offset ps.toList dflt x.toInt = off) (ht : (pc : Int) + off = (tgt : Int)) (kk : Z K n k ws lv (tgt) (rest)) : Z K n k ws lv (pc) (.int x :: rest) := by
  obtain ⟨p, l, e, R, s, m, args, below, meth, c, nL, D, A, Q⟩ := K
  obtain ⟨hx, hb, hml, hown, hts, hK, hA, hN, hlk⟩ := hC
  intro H locs ls hP hD hS hl
  exact lv_lookup hx hb hd hp ho ht (kk H locs ls hP hD hS hl)
theorem z_get (hC : Cx K cc own Ts tys) {C : String} {T : u_T} {N ci index a : Nat} (hin : ∀ w ∈ u_ws C T N, w ∈ Ts) (q0 : Nat) {fs : List Value} (he : ws[q0]? = some (a, .inr (ci, fs))) (hc : vwCl[ci]? = some (C, T, N)) (j : Nat) (hj : j < N) (hlink : Cond.fieldLink own index (T j).1 (T j).2.1 (T j).2.2.1 ∈ Ts) {v : Value} (hv : fs[j]? = some v) (hd : decode cc pc = .ok (.getfield index, 3)) (kk : Z K n k ws lv (pc + 3) (v :: rest)) : Z K n k ws lv (pc) (.ref a :: rest) := by
  obtain ⟨p, l, e, R, s, m, args, below, meth, c, nL, D, A, Q⟩ := K
  obtain ⟨hx, hb, hml, hown, hts, hK, hA, hN, hlk⟩ := hC
  intro H locs ls hP hD hS hl
  exact va_get hx hb hts hin hown hK hP q0 he hc j hj (hts _ hlink) (fun _ h9 => h9) hv hd (kk H locs ls hP hD hS hl)
theorem z_getN (hC : Cx K cc own Ts tys) {C : String} {T : u_T} {N ci index a : Nat} (hin : ∀ w ∈ u_ws C T N, w ∈ Ts) (q0 : Nat) {fs : List Value} (he : ws[q0]? = some (a, .inr (ci, fs))) (hc : vwCl[ci]? = some (C, T, N)) (j : Nat) (hj : j < N) (hlink : (own, index, (T j).1, (T j).2.1, (T j).2.2.1) ∈ nwF) {v : Value} (hv : fs[j]? = some v) (hd : decode cc pc = .ok (.getfield index, 3)) (kk : Z K n k ws lv (pc + 3) (v :: rest)) : Z K n k ws lv (pc) (.ref a :: rest) := by
  obtain ⟨p, l, e, R, s, m, args, below, meth, c, nL, D, A, Q⟩ := K
  obtain ⟨hx, hb, hml, hown, hts, hK, hA, hN, hlk⟩ := hC
  intro H locs ls hP hD hS hl
  exact va_getN hx hb hts hin hown hK hP q0 he hc j hj (hN.f hlink) (fun _ h9 => h9) hv hd (kk H locs ls hP hD hS hl)
theorem z_put (hC : Cx K cc own Ts tys) {C : String} {T : u_T} {N ci index a : Nat} (hin : ∀ w ∈ u_ws C T N, w ∈ Ts) (q0 : Nat) {fs : List Value} (he : ws[q0]? = some (a, .inr (ci, fs))) (hc : vwCl[ci]? = some (C, T, N)) (j : Nat) (hj : j < N) (ty0 : Nat → FieldType) (hty : ∀ j, j < N → parseFieldDescriptor (T j).2.2.1 = some (ty0 j)) (hnm : ∀ a, a < N → ∀ b, b < N → a ≠ b → (T a).2.1 ≠ (T b).2.1) (hlink : Cond.fieldLink own index (T j).1 (T j).2.1 (T j).2.2.1 ∈ Ts) (hfin : (T j).2.2.2 = false) {v : Value} (hn : narrow (ty0 j) v = v) (hfit : fits (ty0 j) v = true) (hlen : j < fs.length) (ws' : va_W) (hw : ws.set q0 (a, .inr (ci, fs.set j v)) = ws') (hd : decode cc pc = .ok (.putfield index, 3)) (kk : Z K n k ws' lv (pc + 3) (rest)) : Z K n k ws lv (pc) (v :: .ref a :: rest) := by
  obtain ⟨p, l, e, R, s, m, args, below, meth, c, nL, D, A, Q⟩ := K
  obtain ⟨hx, hb, hml, hown, hts, hK, hA, hN, hlk⟩ := hC
  intro H locs ls hP hD hS hl
  subst hw
  exact va_put hx hb hts hin ty0 hty hnm hown hK hP hD hS q0 he hc j hj (hts _ hlink) (fun _ h9 => h9) hfin (hty j hj) hn hfit hlen hd (fun H1 locs1 hP1 hD1 hS1 => kk H1 locs1 ls hP1 hD1 hS1 hl)
theorem z_putF (hC : Cx K cc own Ts tys) {C : String} {T : u_T} {N ci index a : Nat} (hin : ∀ w ∈ u_ws C T N, w ∈ Ts) (q0 : Nat) {fs : List Value} (he : ws[q0]? = some (a, .inr (ci, fs))) (hc : vwCl[ci]? = some (C, T, N)) (j : Nat) (hj : j < N) (hI : IsInit K) (ty0 : Nat → FieldType) (hty : ∀ j, j < N → parseFieldDescriptor (T j).2.2.1 = some (ty0 j)) (hnm : ∀ a, a < N → ∀ b, b < N → a ≠ b → (T a).2.1 ≠ (T b).2.1) (hlink : Cond.fieldLink own index (T j).1 (T j).2.1 (T j).2.2.1 ∈ Ts) (hdecl : (T j).1 = own) (hfin : (T j).2.2.2 = true) {v : Value} (hn : narrow (ty0 j) v = v) (hfit : fits (ty0 j) v = true) (hlen : j < fs.length) (ws' : va_W) (hw : ws.set q0 (a, .inr (ci, fs.set j v)) = ws') (hd : decode cc pc = .ok (.putfield index, 3)) (kk : Z K n k ws' lv (pc + 3) (rest)) : Z K n k ws lv (pc) (v :: .ref a :: rest) := by
  obtain ⟨p, l, e, R, s, m, args, below, meth, c, nL, D, A, Q⟩ := K
  obtain ⟨hx, hb, hml, hown, hts, hK, hA, hN, hlk⟩ := hC
  intro H locs ls hP hD hS hl
  subst hw
  exact va_putF hx hb hts hin ty0 hty hnm hown hK hP hD hS q0 he hc j hj (hts _ hlink) (fun _ h9 => h9) hfin hI hdecl (hty j hj) hn hfit hlen hd (fun H1 locs1 hP1 hD1 hS1 => kk H1 locs1 ls hP1 hD1 hS1 hl)
theorem z_iald (hC : Cx K cc own Ts tys) (q0 t0 : Nat) {cA : ClassId} {a N i : Nat} {f : Nat → Int32} {v : Int32} (ha : ws[q0]? = some (a, .inl (cA, N, .inl f))) (ht : tys[t0]? = some (cA, .int)) (hi : i < N) (hN0 : N < 2 ^ 31) (hv : f i = v) (hd : decode cc pc = .ok (.iaload, 1)) (kk : Z K n k ws lv (pc + 1) (.int v :: rest)) : Z K n k ws lv (pc) (.int (nI i) :: .ref a :: rest) := by
  obtain ⟨p, l, e, R, s, m, args, below, meth, c, nL, D, A, Q⟩ := K
  obtain ⟨hx, hb, hml, hown, hts, hK, hA, hN, hlk⟩ := hC
  intro H locs ls hP hD hS hl
  refine va_iald hx hb hK hP q0 t0 ha ht (vp_in_nI hi hN0) hd ?_
  rw [nI_clamp (Nat.lt_trans hi hN0), hv]
  exact kk H locs ls hP hD hS hl
theorem z_zald (hC : Cx K cc own Ts tys) (q0 t0 : Nat) {cA : ClassId} {a N i : Nat} {f : Nat → Int32} {v : Int32} (ha : ws[q0]? = some (a, .inl (cA, N, .inl f))) (ht : tys[t0]? = some (cA, .boolean)) (hi : i < N) (hN0 : N < 2 ^ 31) (hv : f i = v) (hd : decode cc pc = .ok (.baload, 1)) (kk : Z K n k ws lv (pc + 1) (.int v :: rest)) : Z K n k ws lv (pc) (.int (nI i) :: .ref a :: rest) := by
  obtain ⟨p, l, e, R, s, m, args, below, meth, c, nL, D, A, Q⟩ := K
  obtain ⟨hx, hb, hml, hown, hts, hK, hA, hN, hlk⟩ := hC
  intro H locs ls hP hD hS hl
  refine va_zald hx hb hK hP q0 t0 ha ht (vp_in_nI hi hN0) hd ?_
  rw [nI_clamp (Nat.lt_trans hi hN0), hv]
  exact kk H locs ls hP hD hS hl
theorem z_lald (hC : Cx K cc own Ts tys) (q0 t0 : Nat) {cA : ClassId} {a N i : Nat} {f : Nat → Int64} {v : Int64} (ha : ws[q0]? = some (a, .inl (cA, N, .inr (.inl f)))) (ht : tys[t0]? = some (cA, .long)) (hi : i < N) (hN0 : N < 2 ^ 31) (hv : f i = v) (hd : decode cc pc = .ok (.laload, 1)) (kk : Z K n k ws lv (pc + 1) (.long v :: rest)) : Z K n k ws lv (pc) (.int (nI i) :: .ref a :: rest) := by
  obtain ⟨p, l, e, R, s, m, args, below, meth, c, nL, D, A, Q⟩ := K
  obtain ⟨hx, hb, hml, hown, hts, hK, hA, hN, hlk⟩ := hC
  intro H locs ls hP hD hS hl
  refine va_lald hx hb hK hP q0 t0 ha ht (vp_in_nI hi hN0) hd ?_
  rw [nI_clamp (Nat.lt_trans hi hN0), hv]
  exact kk H locs ls hP hD hS hl
theorem z_iast (hC : Cx K cc own Ts tys) (q0 t0 : Nat) {cA : ClassId} {a N i : Nat} {f : Nat → Int32} {x : Int32} (ha : ws[q0]? = some (a, .inl (cA, N, .inl f))) (ht : tys[t0]? = some (cA, .int)) (hi : i < N) (hN0 : N < 2 ^ 31) (ws' : va_W) (hw : ws.set q0 (a, .inl (cA, N, .inl (upd f i x))) = ws') (hd : decode cc pc = .ok (.iastore, 1)) (kk : Z K n k ws' lv (pc + 1) (rest)) : Z K n k ws lv (pc) (.int x :: .int (nI i) :: .ref a :: rest) := by
  obtain ⟨p, l, e, R, s, m, args, below, meth, c, nL, D, A, Q⟩ := K
  obtain ⟨hx, hb, hml, hown, hts, hK, hA, hN, hlk⟩ := hC
  intro H locs ls hP hD hS hl
  subst hw
  refine va_iast hx hb hK hP hD hS q0 t0 ha ht (vp_in_nI hi hN0) hd ?_
  rw [nI_clamp (Nat.lt_trans hi hN0)]
  exact fun H1 locs1 hP1 hD1 hS1 => kk H1 locs1 ls hP1 hD1 hS1 hl
theorem z_zast (hC : Cx K cc own Ts tys) (q0 t0 : Nat) {cA : ClassId} {a N i : Nat} {f : Nat → Int32} {x y : Int32} (ha : ws[q0]? = some (a, .inl (cA, N, .inl f))) (ht : tys[t0]? = some (cA, .boolean)) (hi : i < N) (hN0 : N < 2 ^ 31) (hy : vp_nar .boolean x = y) (ws' : va_W) (hw : ws.set q0 (a, .inl (cA, N, .inl (upd f i y))) = ws') (hd : decode cc pc = .ok (.bastore, 1)) (kk : Z K n k ws' lv (pc + 1) (rest)) : Z K n k ws lv (pc) (.int x :: .int (nI i) :: .ref a :: rest) := by
  obtain ⟨p, l, e, R, s, m, args, below, meth, c, nL, D, A, Q⟩ := K
  obtain ⟨hx, hb, hml, hown, hts, hK, hA, hN, hlk⟩ := hC
  intro H locs ls hP hD hS hl
  subst hw
  subst hy
  refine va_zast hx hb hK hP hD hS q0 t0 ha ht (vp_in_nI hi hN0) hd ?_
  rw [nI_clamp (Nat.lt_trans hi hN0)]
  exact fun H1 locs1 hP1 hD1 hS1 => kk H1 locs1 ls hP1 hD1 hS1 hl
theorem z_last (hC : Cx K cc own Ts tys) (q0 t0 : Nat) {cA : ClassId} {a N i : Nat} {f : Nat → Int64} {x : Int64} (ha : ws[q0]? = some (a, .inl (cA, N, .inr (.inl f)))) (ht : tys[t0]? = some (cA, .long)) (hi : i < N) (hN0 : N < 2 ^ 31) (ws' : va_W) (hw : ws.set q0 (a, .inl (cA, N, .inr (.inl (vp_updL f i x)))) = ws') (hd : decode cc pc = .ok (.lastore, 1)) (kk : Z K n k ws' lv (pc + 1) (rest)) : Z K n k ws lv (pc) (.long x :: .int (nI i) :: .ref a :: rest) := by
  obtain ⟨p, l, e, R, s, m, args, below, meth, c, nL, D, A, Q⟩ := K
  obtain ⟨hx, hb, hml, hown, hts, hK, hA, hN, hlk⟩ := hC
  intro H locs ls hP hD hS hl
  subst hw
  refine va_last hx hb hK hP hD hS q0 t0 ha ht (vp_in_nI hi hN0) hd ?_
  rw [nI_clamp (Nat.lt_trans hi hN0)]
  exact fun H1 locs1 hP1 hD1 hS1 => kk H1 locs1 ls hP1 hD1 hS1 hl
theorem z_alen (hC : Cx K cc own Ts tys) (q0 t0 : Nat) {cA : ClassId} {a : Nat} {x : vp_A} {ty : FieldType} {v : Int32} (ha : ws[q0]? = some (a, .inl (cA, x))) (ht : tys[t0]? = some (cA, ty)) (hv : Int32.ofNat x.1 = v) (hd : decode cc pc = .ok (.arraylength, 1)) (kk : Z K n k ws lv (pc + 1) (.int v :: rest)) : Z K n k ws lv (pc) (.ref a :: rest) := by
  obtain ⟨p, l, e, R, s, m, args, below, meth, c, nL, D, A, Q⟩ := K
  obtain ⟨hx, hb, hml, hown, hts, hK, hA, hN, hlk⟩ := hC
  intro H locs ls hP hD hS hl
  exact va_alen hx hb hK hP q0 t0 ha ht hv hd (kk H locs ls hP hD hS hl)
theorem z_iret (hC : Cx K cc own Ts tys) {w2 : va_W} {r v : Int32} {ty : FieldType} (hQ : RI K n k tys w2 r) (hr : RetT K (some ty)) (hn : narrow ty (.int v) = .int v) (hv : v = r) (hw : ws = w2) (hd : decode cc pc = .ok (.ireturn, 1)) : Z K n k ws lv (pc) ([.int v]) := by
  obtain ⟨p, l, e, R, s, m, args, below, meth, c, nL, D, A, Q⟩ := K
  obtain ⟨hx, hb, hml, hown, hts, hK, hA, hN, hlk⟩ := hC
  intro H locs ls hP hD hS hl
  subst hw
  have hQ := hQ
  dsimp only [RI] at hQ
  rw [hQ]
  exact W.zret hx hb hr hn (fun t ht hW => ⟨⟨v, (), rfl, hv, by rw [ht]; exact hP, va_K.moved hW.alike hK, hD⟩, hS.F ht⟩) hS.2.2 hd hlk
theorem z_vret (hC : Cx K cc own Ts tys) {w2 : va_W} (hQ : RV K n k tys w2) (hr : RetT K none) (hw : ws = w2) (hd : decode cc pc = .ok (.return_, 1)) : Z K n k ws lv (pc) ([]) := by
  obtain ⟨p, l, e, R, s, m, args, below, meth, c, nL, D, A, Q⟩ := K
  obtain ⟨hx, hb, hml, hown, hts, hK, hA, hN, hlk⟩ := hC
  intro H locs ls hP hD hS hl
  subst hw
  have hQ := hQ
  dsimp only [RV] at hQ
  rw [hQ]
  exact W.vret hx hb hr (fun t ht hW => ⟨⟨(), rfl, trivial, by rw [ht]; exact hP, va_K.moved hW.alike hK, hD⟩, hS.F ht⟩) hS.2.2 hd hlk
theorem z_aret (hC : Cx K cc own Ts tys) {w2 : va_W} {a r : Nat} {ty : FieldType} (hQ : RA K n k tys w2 r) (hr : RetT K (some ty)) (hty : (∃ n, ty = .object n) ∨ ∃ t, ty = .array t) (hv : a = r) (hw : ws = w2) (hd : decode cc pc = .ok (.areturn, 1)) : Z K n k ws lv (pc) ([.ref a]) := by
  obtain ⟨p, l, e, R, s, m, args, below, meth, c, nL, D, A, Q⟩ := K
  obtain ⟨hx, hb, hml, hown, hts, hK, hA, hN, hlk⟩ := hC
  intro H locs ls hP hD hS hl
  subst hw
  have hQ := hQ
  dsimp only [RA] at hQ
  rw [hQ]
  exact W.aret hx hb hr hty (Or.inr ⟨a, rfl⟩) (fun t ht hW => ⟨⟨(), a, rfl, trivial, hv, by rw [ht]; exact hP, va_K.moved hW.alike hK, hD⟩, hS.F ht⟩) hS.2.2 hd hlk
end ZR
end
section
theorem va_P.subM {D : va_G} {cl : List vw_C} {ws ws' : va_W} {H : Heap} (h : va_P D cl ws H) (is : List Nat) (hs : is.map (fun i => ws[i]?) = ws'.map some) : va_P D cl ws' H := by
  intro k q hk
  have h1 : (is.map (fun i => ws[i]?))[k]? = some (some q) := by rw [hs, List.getElem?_map, hk]; rfl
  rw [List.getElem?_map] at h1
  cases hi : is[k]? with
  | none => rw [hi] at h1; cases h1
  | some i => rw [hi] at h1; exact h i q (Option.some.inj h1)
section ZC
variable {K : KT} {cc : ByteArray} {own : String} {Ts : List Cond} {tys : List (ClassId × FieldType)} {n k : Nat} {ws : va_W} {lv : List (Nat × Value)} {pc : Nat} {rest : List Value}
theorem z_callV_I (hC : Cx K cc own Ts tys) {R0 : Room} (hR0 : Rm K R0) {D0 : va_G} (hD0 : Dis K D0) {l0 : Launch} (hl0 : Lis K l0) {y : MethodName} {wy wy' : List Cond} {rm : Room} {index maxL na : Nat} {bytes : ByteArray} {ret : Option FieldType} {As : List Value} {wc wc2 : va_W} {r : Int32} {C : String} {T : u_T} {NF ci a : Nat} (q0 : Nat) {fs : List Value} (hq0 : wc[q0]? = some (a, .inr (ci, fs))) (hcl : vwCl[ci]? = some (C, T, NF)) (hG : GoodIn Ts (wsV own index C y wy)) (hy0 : y.cls = C ∧ y.cls ≠ "java/lang/invoke/MethodHandle" ∧ y.cls ≠ "java/lang/invoke/VarHandle") (hw : wy = Cond.code y bytes maxL ret :: wy') (hroom : rm.frames + 1 ≤ R0.frames ∧ 8 + (maxL + 11) + rm.locals ≤ R0.locals) (hcs : n + rm.cells ≤ R0.cells ∧ k + rm.slots ≤ R0.slots) (hlen : As.length = na) (hrest : (rest.map fun v => v.category).sum ≤ 8) (hpd : (parseMethodDescriptor y.desc).map (fun d => d.parameters.length) = some na) (hM : MI l0 y wy rm D0 tys (.ref a :: As) wc wc2 r) (isC isR isF : List Nat) (wr : va_W) (hsC : isC.map (fun i => ws[i]?) = wc.map some) (hnC : va_nd isC = true) (hsR : isR.map (fun i => ws[i]?) = wr.map some) (hnR : va_nd isR = true) (hdis : ∀ i ∈ isR, i ∉ isC) (ws' : va_W) (hsF : isF.map (fun i => (wr ++ wc2)[i]?) = ws'.map some) (hnF : va_nd isF = true) {st : List Value} (hst : st = As.reverse ++ .ref a :: rest) (hd : decode cc pc = .ok (.invokevirtual index, 3)) (kk : Z K (n + rm.cells) (k + rm.slots) ws' lv (pc + 3) (.int r :: rest)) : Z K n k ws lv pc st := by
  obtain ⟨p, l, e, R, s, m, args, below, meth, c, nL, D, A, Q⟩ := K
  obtain ⟨hx, hb, hml, hown, hts, hK, hA, hN, hlk⟩ := hC
  intro H locs ls hP hD hS hl
  have hR0 : R = R0 := hR0
  have hD0 : D = D0 := hD0
  have hl0 : l = l0 := hl0
  subst hR0
  subst hD0
  subst hl0
  have hPc := hP.subM isC hsC
  have hDc := hD.sub isC hnC hsC
  have hFc := va_free (wc := wc) hD hS hA isC hsC
  refine va_calli (va_runV (As := As) (rest := rest) ⟨hx, hb, hml, hown, hts⟩ (hM H.size) (cwV na hts hG hw rfl rfl ⟨hy0.1, hy0.2.1, hy0.2.2, hpd⟩ hroom) ⟨Pw.blind, va_recv hK hPc hcl hq0, fun U hU hW => ⟨rfl, by rw [hU], by rw [hU]; exact hPc, va_K.moved hW.alike hK, hDc.weaken (fun _ _ _ _ => trivial), NW.moved hW hN⟩⟩ rfl hlen hl.1 hst (lv_room hrest) hd hcs) hS (fun q _ h => hFc q h) hFc (fun x u t H1 locs1 ht hvm hw2 hB hz1 hk1 hS1 => ?_)
  obtain ⟨hP1, hK1, hD1⟩ := hB
  have hw3 : x = r := hw2
  subst hw3
  rw [ht] at hP1
  obtain ⟨hP2, hD2⟩ := va_join (wr := wr) (w1 := wc2) hP hD isC isR hsC hsR hnR hdis hk1 hFc hP1 hD1
  exact kk H1 locs1 ls (hP2.subM isF hsF) (hD2.sub isF hnF hsF) hS1 hl
theorem z_callV_V (hC : Cx K cc own Ts tys) {R0 : Room} (hR0 : Rm K R0) {D0 : va_G} (hD0 : Dis K D0) {l0 : Launch} (hl0 : Lis K l0) {y : MethodName} {wy wy' : List Cond} {rm : Room} {index maxL na : Nat} {bytes : ByteArray} {ret : Option FieldType} {As : List Value} {wc wc2 : va_W} {C : String} {T : u_T} {NF ci a : Nat} (q0 : Nat) {fs : List Value} (hq0 : wc[q0]? = some (a, .inr (ci, fs))) (hcl : vwCl[ci]? = some (C, T, NF)) (hG : GoodIn Ts (wsV own index C y wy)) (hy0 : y.cls = C ∧ y.cls ≠ "java/lang/invoke/MethodHandle" ∧ y.cls ≠ "java/lang/invoke/VarHandle") (hw : wy = Cond.code y bytes maxL ret :: wy') (hroom : rm.frames + 1 ≤ R0.frames ∧ 8 + (maxL + 11) + rm.locals ≤ R0.locals) (hcs : n + rm.cells ≤ R0.cells ∧ k + rm.slots ≤ R0.slots) (hlen : As.length = na) (hrest : (rest.map fun v => v.category).sum ≤ 8) (hpd : (parseMethodDescriptor y.desc).map (fun d => d.parameters.length) = some na) (hM : MV l0 y wy rm D0 tys (.ref a :: As) wc wc2 ) (isC isR isF : List Nat) (wr : va_W) (hsC : isC.map (fun i => ws[i]?) = wc.map some) (hnC : va_nd isC = true) (hsR : isR.map (fun i => ws[i]?) = wr.map some) (hnR : va_nd isR = true) (hdis : ∀ i ∈ isR, i ∉ isC) (ws' : va_W) (hsF : isF.map (fun i => (wr ++ wc2)[i]?) = ws'.map some) (hnF : va_nd isF = true) {st : List Value} (hst : st = As.reverse ++ .ref a :: rest) (hd : decode cc pc = .ok (.invokevirtual index, 3)) (kk : Z K (n + rm.cells) (k + rm.slots) ws' lv (pc + 3) (rest)) : Z K n k ws lv pc st := by
  obtain ⟨p, l, e, R, s, m, args, below, meth, c, nL, D, A, Q⟩ := K
  obtain ⟨hx, hb, hml, hown, hts, hK, hA, hN, hlk⟩ := hC
  intro H locs ls hP hD hS hl
  have hR0 : R = R0 := hR0
  have hD0 : D = D0 := hD0
  have hl0 : l = l0 := hl0
  subst hR0
  subst hD0
  subst hl0
  have hPc := hP.subM isC hsC
  have hDc := hD.sub isC hnC hsC
  have hFc := va_free (wc := wc) hD hS hA isC hsC
  refine va_callv (va_runV (As := As) (rest := rest) ⟨hx, hb, hml, hown, hts⟩ (hM H.size) (cwV na hts hG hw rfl rfl ⟨hy0.1, hy0.2.1, hy0.2.2, hpd⟩ hroom) ⟨Pw.blind, va_recv hK hPc hcl hq0, fun U hU hW => ⟨rfl, by rw [hU], by rw [hU]; exact hPc, va_K.moved hW.alike hK, hDc.weaken (fun _ _ _ _ => trivial), NW.moved hW hN⟩⟩ rfl hlen hl.1 hst (lv_room hrest) hd hcs) hS (fun q _ h => hFc q h) hFc (fun u t H1 locs1 ht hvm hw2 hB hz1 hk1 hS1 => ?_)
  obtain ⟨hP1, hK1, hD1⟩ := hB
  rw [ht] at hP1
  obtain ⟨hP2, hD2⟩ := va_join (wr := wr) (w1 := wc2) hP hD isC isR hsC hsR hnR hdis hk1 hFc hP1 hD1
  exact kk H1 locs1 ls (hP2.subM isF hsF) (hD2.sub isF hnF hsF) hS1 hl
theorem z_callV_A (hC : Cx K cc own Ts tys) {R0 : Room} (hR0 : Rm K R0) {D0 : va_G} (hD0 : Dis K D0) {l0 : Launch} (hl0 : Lis K l0) {y : MethodName} {wy wy' : List Cond} {rm : Room} {index maxL na : Nat} {bytes : ByteArray} {ret : Option FieldType} {As : List Value} {wc wc2 : va_W} {r : Nat} {C : String} {T : u_T} {NF ci a : Nat} (q0 : Nat) {fs : List Value} (hq0 : wc[q0]? = some (a, .inr (ci, fs))) (hcl : vwCl[ci]? = some (C, T, NF)) (hG : GoodIn Ts (wsV own index C y wy)) (hy0 : y.cls = C ∧ y.cls ≠ "java/lang/invoke/MethodHandle" ∧ y.cls ≠ "java/lang/invoke/VarHandle") (hw : wy = Cond.code y bytes maxL ret :: wy') (hroom : rm.frames + 1 ≤ R0.frames ∧ 8 + (maxL + 11) + rm.locals ≤ R0.locals) (hcs : n + rm.cells ≤ R0.cells ∧ k + rm.slots ≤ R0.slots) (hlen : As.length = na) (hrest : (rest.map fun v => v.category).sum ≤ 8) (hpd : (parseMethodDescriptor y.desc).map (fun d => d.parameters.length) = some na) (hM : MA l0 y wy rm D0 tys (.ref a :: As) wc wc2 r) (isC isR isF : List Nat) (wr : va_W) (hsC : isC.map (fun i => ws[i]?) = wc.map some) (hnC : va_nd isC = true) (hsR : isR.map (fun i => ws[i]?) = wr.map some) (hnR : va_nd isR = true) (hdis : ∀ i ∈ isR, i ∉ isC) (ws' : va_W) (hsF : isF.map (fun i => (wr ++ wc2)[i]?) = ws'.map some) (hnF : va_nd isF = true) {st : List Value} (hst : st = As.reverse ++ .ref a :: rest) (hd : decode cc pc = .ok (.invokevirtual index, 3)) (kk : Z K (n + rm.cells) (k + rm.slots) ws' lv (pc + 3) (.ref r :: rest)) : Z K n k ws lv pc st := by
  obtain ⟨p, l, e, R, s, m, args, below, meth, c, nL, D, A, Q⟩ := K
  obtain ⟨hx, hb, hml, hown, hts, hK, hA, hN, hlk⟩ := hC
  intro H locs ls hP hD hS hl
  have hR0 : R = R0 := hR0
  have hD0 : D = D0 := hD0
  have hl0 : l = l0 := hl0
  subst hR0
  subst hD0
  subst hl0
  have hPc := hP.subM isC hsC
  have hDc := hD.sub isC hnC hsC
  have hFc := va_free (wc := wc) hD hS hA isC hsC
  refine va_callr (va_runV (As := As) (rest := rest) ⟨hx, hb, hml, hown, hts⟩ (hM H.size) (cwV na hts hG hw rfl rfl ⟨hy0.1, hy0.2.1, hy0.2.2, hpd⟩ hroom) ⟨Pw.blind, va_recv hK hPc hcl hq0, fun U hU hW => ⟨rfl, by rw [hU], by rw [hU]; exact hPc, va_K.moved hW.alike hK, hDc.weaken (fun _ _ _ _ => trivial), NW.moved hW hN⟩⟩ rfl hlen hl.1 hst (lv_room hrest) hd hcs) hS (fun q _ h => hFc q h) hFc (fun u x t H1 locs1 ht hvm hw2 hB hz1 hk1 hS1 => ?_)
  obtain ⟨hw3, hP1, hK1, hD1⟩ := hB
  subst hw3
  rw [ht] at hP1
  obtain ⟨hP2, hD2⟩ := va_join (wr := wr) (w1 := wc2) hP hD isC isR hsC hsR hnR hdis hk1 hFc hP1 hD1
  exact kk H1 locs1 ls (hP2.subM isF hsF) (hD2.sub isF hnF hsF) hS1 hl
theorem z_callVN_I (hC : Cx K cc own Ts tys) {R0 : Room} (hR0 : Rm K R0) {D0 : va_G} (hD0 : Dis K D0) {l0 : Launch} (hl0 : Lis K l0) {y : MethodName} {wy wy' : List Cond} {rm : Room} {index maxL na : Nat} {bytes : ByteArray} {ret : Option FieldType} {As : List Value} {wc wc2 : va_W} {r : Int32} {C : String} {T : u_T} {NF ci a : Nat} (q0 : Nat) {fs : List Value} (hq0 : wc[q0]? = some (a, .inr (ci, fs))) (hcl : vwCl[ci]? = some (C, T, NF)) (hG : GoodIn Ts wy) (hnw : (own, index, y) ∈ nwM) (hini : Cond.initialized y.cls ∈ Ts) (hins : Cond.instanceMethod y ∈ Ts) (hsel : Cond.selects C y y ∈ Ts) (hy0 : y.cls ≠ "java/lang/invoke/MethodHandle" ∧ y.cls ≠ "java/lang/invoke/VarHandle") (hw : wy = Cond.code y bytes maxL ret :: wy') (hroom : rm.frames + 1 ≤ R0.frames ∧ 8 + (maxL + 11) + rm.locals ≤ R0.locals) (hcs : n + rm.cells ≤ R0.cells ∧ k + rm.slots ≤ R0.slots) (hlen : As.length = na) (hrest : (rest.map fun v => v.category).sum ≤ 8) (hpd : (parseMethodDescriptor y.desc).map (fun d => d.parameters.length) = some na) (hM : MI l0 y wy rm D0 tys (.ref a :: As) wc wc2 r) (isC isR isF : List Nat) (wr : va_W) (hsC : isC.map (fun i => ws[i]?) = wc.map some) (hnC : va_nd isC = true) (hsR : isR.map (fun i => ws[i]?) = wr.map some) (hnR : va_nd isR = true) (hdis : ∀ i ∈ isR, i ∉ isC) (ws' : va_W) (hsF : isF.map (fun i => (wr ++ wc2)[i]?) = ws'.map some) (hnF : va_nd isF = true) {st : List Value} (hst : st = As.reverse ++ .ref a :: rest) (hd : decode cc pc = .ok (.invokevirtual index, 3)) (kk : Z K (n + rm.cells) (k + rm.slots) ws' lv (pc + 3) (.int r :: rest)) : Z K n k ws lv pc st := by
  obtain ⟨p, l, e, R, s, m, args, below, meth, c, nL, D, A, Q⟩ := K
  obtain ⟨hx, hb, hml, hown, hts, hK, hA, hN, hlk⟩ := hC
  intro H locs ls hP hD hS hl
  have hR0 : R = R0 := hR0
  have hD0 : D = D0 := hD0
  have hl0 : l = l0 := hl0
  subst hR0
  subst hD0
  subst hl0
  have hPc := hP.subM isC hsC
  have hDc := hD.sub isC hnC hsC
  have hFc := va_free (wc := wc) hD hS hA isC hsC
  refine va_calli (va_runVN (C := C) (host := RX3) (As := As) (rest := rest) ⟨hx, hb, hml, hown, hts⟩ (hM H.size) ⟨va_cnB na hts hG hw rfl rfl (hN.m hnw) (hts _ hini) ⟨hy0.1, hy0.2, hpd⟩ hroom, hts _ hins, hts _ hsel⟩ ⟨Pw.blind, va_recv hK hPc hcl hq0, fun U hU hW => ⟨rfl, by rw [hU], by rw [hU]; exact hPc, va_K.moved hW.alike hK, hDc.weaken (fun _ _ _ _ => trivial), NW.moved hW hN⟩⟩ rfl hlen hl.1 hst (lv_room hrest) hd hcs) hS (fun q _ h => hFc q h) hFc (fun x u t H1 locs1 ht hvm hw2 hB hz1 hk1 hS1 => ?_)
  obtain ⟨hP1, hK1, hD1⟩ := hB
  have hw3 : x = r := hw2
  subst hw3
  rw [ht] at hP1
  obtain ⟨hP2, hD2⟩ := va_join (wr := wr) (w1 := wc2) hP hD isC isR hsC hsR hnR hdis hk1 hFc hP1 hD1
  exact kk H1 locs1 ls (hP2.subM isF hsF) (hD2.sub isF hnF hsF) hS1 hl
theorem z_callVN_V (hC : Cx K cc own Ts tys) {R0 : Room} (hR0 : Rm K R0) {D0 : va_G} (hD0 : Dis K D0) {l0 : Launch} (hl0 : Lis K l0) {y : MethodName} {wy wy' : List Cond} {rm : Room} {index maxL na : Nat} {bytes : ByteArray} {ret : Option FieldType} {As : List Value} {wc wc2 : va_W} {C : String} {T : u_T} {NF ci a : Nat} (q0 : Nat) {fs : List Value} (hq0 : wc[q0]? = some (a, .inr (ci, fs))) (hcl : vwCl[ci]? = some (C, T, NF)) (hG : GoodIn Ts wy) (hnw : (own, index, y) ∈ nwM) (hini : Cond.initialized y.cls ∈ Ts) (hins : Cond.instanceMethod y ∈ Ts) (hsel : Cond.selects C y y ∈ Ts) (hy0 : y.cls ≠ "java/lang/invoke/MethodHandle" ∧ y.cls ≠ "java/lang/invoke/VarHandle") (hw : wy = Cond.code y bytes maxL ret :: wy') (hroom : rm.frames + 1 ≤ R0.frames ∧ 8 + (maxL + 11) + rm.locals ≤ R0.locals) (hcs : n + rm.cells ≤ R0.cells ∧ k + rm.slots ≤ R0.slots) (hlen : As.length = na) (hrest : (rest.map fun v => v.category).sum ≤ 8) (hpd : (parseMethodDescriptor y.desc).map (fun d => d.parameters.length) = some na) (hM : MV l0 y wy rm D0 tys (.ref a :: As) wc wc2 ) (isC isR isF : List Nat) (wr : va_W) (hsC : isC.map (fun i => ws[i]?) = wc.map some) (hnC : va_nd isC = true) (hsR : isR.map (fun i => ws[i]?) = wr.map some) (hnR : va_nd isR = true) (hdis : ∀ i ∈ isR, i ∉ isC) (ws' : va_W) (hsF : isF.map (fun i => (wr ++ wc2)[i]?) = ws'.map some) (hnF : va_nd isF = true) {st : List Value} (hst : st = As.reverse ++ .ref a :: rest) (hd : decode cc pc = .ok (.invokevirtual index, 3)) (kk : Z K (n + rm.cells) (k + rm.slots) ws' lv (pc + 3) (rest)) : Z K n k ws lv pc st := by
  obtain ⟨p, l, e, R, s, m, args, below, meth, c, nL, D, A, Q⟩ := K
  obtain ⟨hx, hb, hml, hown, hts, hK, hA, hN, hlk⟩ := hC
  intro H locs ls hP hD hS hl
  have hR0 : R = R0 := hR0
  have hD0 : D = D0 := hD0
  have hl0 : l = l0 := hl0
  subst hR0
  subst hD0
  subst hl0
  have hPc := hP.subM isC hsC
  have hDc := hD.sub isC hnC hsC
  have hFc := va_free (wc := wc) hD hS hA isC hsC
  refine va_callv (va_runVN (C := C) (host := RX3) (As := As) (rest := rest) ⟨hx, hb, hml, hown, hts⟩ (hM H.size) ⟨va_cnB na hts hG hw rfl rfl (hN.m hnw) (hts _ hini) ⟨hy0.1, hy0.2, hpd⟩ hroom, hts _ hins, hts _ hsel⟩ ⟨Pw.blind, va_recv hK hPc hcl hq0, fun U hU hW => ⟨rfl, by rw [hU], by rw [hU]; exact hPc, va_K.moved hW.alike hK, hDc.weaken (fun _ _ _ _ => trivial), NW.moved hW hN⟩⟩ rfl hlen hl.1 hst (lv_room hrest) hd hcs) hS (fun q _ h => hFc q h) hFc (fun u t H1 locs1 ht hvm hw2 hB hz1 hk1 hS1 => ?_)
  obtain ⟨hP1, hK1, hD1⟩ := hB
  rw [ht] at hP1
  obtain ⟨hP2, hD2⟩ := va_join (wr := wr) (w1 := wc2) hP hD isC isR hsC hsR hnR hdis hk1 hFc hP1 hD1
  exact kk H1 locs1 ls (hP2.subM isF hsF) (hD2.sub isF hnF hsF) hS1 hl
theorem z_callS_I (hC : Cx K cc own Ts tys) {R0 : Room} (hR0 : Rm K R0) {D0 : va_G} (hD0 : Dis K D0) {l0 : Launch} (hl0 : Lis K l0) {y : MethodName} {wy wy' : List Cond} {rm : Room} {index maxL na : Nat} {bytes : ByteArray} {ret : Option FieldType} {As : List Value} {wc wc2 : va_W} {r : Int32} (hG : GoodIn Ts (va_wsS own index y wy)) (hy0 : y.cls ≠ "java/lang/invoke/MethodHandle" ∧ y.cls ≠ "java/lang/invoke/VarHandle") (hw : wy = Cond.code y bytes maxL ret :: wy') (hroom : rm.frames + 1 ≤ R0.frames ∧ 8 + (maxL + 11) + rm.locals ≤ R0.locals) (hcs : n + rm.cells ≤ R0.cells ∧ k + rm.slots ≤ R0.slots) (hlen : As.length = na) (hrest : (rest.map fun v => v.category).sum ≤ 8) (hpd : (parseMethodDescriptor y.desc).map (fun d => d.parameters.length) = some na) (hM : MI l0 y wy rm D0 tys (As) wc wc2 r) (isC isR isF : List Nat) (wr : va_W) (hsC : isC.map (fun i => ws[i]?) = wc.map some) (hnC : va_nd isC = true) (hsR : isR.map (fun i => ws[i]?) = wr.map some) (hnR : va_nd isR = true) (hdis : ∀ i ∈ isR, i ∉ isC) (ws' : va_W) (hsF : isF.map (fun i => (wr ++ wc2)[i]?) = ws'.map some) (hnF : va_nd isF = true) {st : List Value} (hst : st = As.reverse ++ rest) (hd : decode cc pc = .ok (.invokestatic index, 3)) (kk : Z K (n + rm.cells) (k + rm.slots) ws' lv (pc + 3) (.int r :: rest)) : Z K n k ws lv pc st := by
  obtain ⟨p, l, e, R, s, m, args, below, meth, c, nL, D, A, Q⟩ := K
  obtain ⟨hx, hb, hml, hown, hts, hK, hA, hN, hlk⟩ := hC
  intro H locs ls hP hD hS hl
  have hR0 : R = R0 := hR0
  have hD0 : D = D0 := hD0
  have hl0 : l = l0 := hl0
  subst hR0
  subst hD0
  subst hl0
  have hPc := hP.subM isC hsC
  have hDc := hD.sub isC hnC hsC
  have hFc := va_free (wc := wc) hD hS hA isC hsC
  refine va_calli (va_runS (As := As) (rest := rest) ⟨hx, hb, hml, hown, hts⟩ (hM H.size) (va_cwS na hts hG hw rfl rfl ⟨hy0.1, hy0.2, hpd⟩ hroom) ⟨Pw.blind, fun U hU hW => ⟨rfl, by rw [hU], by rw [hU]; exact hPc, va_K.moved hW.alike hK, hDc.weaken (fun _ _ _ _ => trivial), NW.moved hW hN⟩⟩ rfl hlen hl.1 hst (lv_room hrest) hd hcs) hS (fun q _ h => hFc q h) hFc (fun x u t H1 locs1 ht hvm hw2 hB hz1 hk1 hS1 => ?_)
  obtain ⟨hP1, hK1, hD1⟩ := hB
  have hw3 : x = r := hw2
  subst hw3
  rw [ht] at hP1
  obtain ⟨hP2, hD2⟩ := va_join (wr := wr) (w1 := wc2) hP hD isC isR hsC hsR hnR hdis hk1 hFc hP1 hD1
  exact kk H1 locs1 ls (hP2.subM isF hsF) (hD2.sub isF hnF hsF) hS1 hl
theorem z_callS_V (hC : Cx K cc own Ts tys) {R0 : Room} (hR0 : Rm K R0) {D0 : va_G} (hD0 : Dis K D0) {l0 : Launch} (hl0 : Lis K l0) {y : MethodName} {wy wy' : List Cond} {rm : Room} {index maxL na : Nat} {bytes : ByteArray} {ret : Option FieldType} {As : List Value} {wc wc2 : va_W} (hG : GoodIn Ts (va_wsS own index y wy)) (hy0 : y.cls ≠ "java/lang/invoke/MethodHandle" ∧ y.cls ≠ "java/lang/invoke/VarHandle") (hw : wy = Cond.code y bytes maxL ret :: wy') (hroom : rm.frames + 1 ≤ R0.frames ∧ 8 + (maxL + 11) + rm.locals ≤ R0.locals) (hcs : n + rm.cells ≤ R0.cells ∧ k + rm.slots ≤ R0.slots) (hlen : As.length = na) (hrest : (rest.map fun v => v.category).sum ≤ 8) (hpd : (parseMethodDescriptor y.desc).map (fun d => d.parameters.length) = some na) (hM : MV l0 y wy rm D0 tys (As) wc wc2 ) (isC isR isF : List Nat) (wr : va_W) (hsC : isC.map (fun i => ws[i]?) = wc.map some) (hnC : va_nd isC = true) (hsR : isR.map (fun i => ws[i]?) = wr.map some) (hnR : va_nd isR = true) (hdis : ∀ i ∈ isR, i ∉ isC) (ws' : va_W) (hsF : isF.map (fun i => (wr ++ wc2)[i]?) = ws'.map some) (hnF : va_nd isF = true) {st : List Value} (hst : st = As.reverse ++ rest) (hd : decode cc pc = .ok (.invokestatic index, 3)) (kk : Z K (n + rm.cells) (k + rm.slots) ws' lv (pc + 3) (rest)) : Z K n k ws lv pc st := by
  obtain ⟨p, l, e, R, s, m, args, below, meth, c, nL, D, A, Q⟩ := K
  obtain ⟨hx, hb, hml, hown, hts, hK, hA, hN, hlk⟩ := hC
  intro H locs ls hP hD hS hl
  have hR0 : R = R0 := hR0
  have hD0 : D = D0 := hD0
  have hl0 : l = l0 := hl0
  subst hR0
  subst hD0
  subst hl0
  have hPc := hP.subM isC hsC
  have hDc := hD.sub isC hnC hsC
  have hFc := va_free (wc := wc) hD hS hA isC hsC
  refine va_callv (va_runS (As := As) (rest := rest) ⟨hx, hb, hml, hown, hts⟩ (hM H.size) (va_cwS na hts hG hw rfl rfl ⟨hy0.1, hy0.2, hpd⟩ hroom) ⟨Pw.blind, fun U hU hW => ⟨rfl, by rw [hU], by rw [hU]; exact hPc, va_K.moved hW.alike hK, hDc.weaken (fun _ _ _ _ => trivial), NW.moved hW hN⟩⟩ rfl hlen hl.1 hst (lv_room hrest) hd hcs) hS (fun q _ h => hFc q h) hFc (fun u t H1 locs1 ht hvm hw2 hB hz1 hk1 hS1 => ?_)
  obtain ⟨hP1, hK1, hD1⟩ := hB
  rw [ht] at hP1
  obtain ⟨hP2, hD2⟩ := va_join (wr := wr) (w1 := wc2) hP hD isC isR hsC hsR hnR hdis hk1 hFc hP1 hD1
  exact kk H1 locs1 ls (hP2.subM isF hsF) (hD2.sub isF hnF hsF) hS1 hl
theorem z_callSN_I (hC : Cx K cc own Ts tys) {R0 : Room} (hR0 : Rm K R0) {D0 : va_G} (hD0 : Dis K D0) {l0 : Launch} (hl0 : Lis K l0) {y : MethodName} {wy wy' : List Cond} {rm : Room} {index maxL na : Nat} {bytes : ByteArray} {ret : Option FieldType} {As : List Value} {wc wc2 : va_W} {r : Int32} (hG : GoodIn Ts wy) (hnw : (own, index, y) ∈ nwM) (hini : Cond.initialized y.cls ∈ Ts) (hsta : Cond.static y ∈ Ts) (hy0 : y.cls ≠ "java/lang/invoke/MethodHandle" ∧ y.cls ≠ "java/lang/invoke/VarHandle") (hw : wy = Cond.code y bytes maxL ret :: wy') (hroom : rm.frames + 1 ≤ R0.frames ∧ 8 + (maxL + 11) + rm.locals ≤ R0.locals) (hcs : n + rm.cells ≤ R0.cells ∧ k + rm.slots ≤ R0.slots) (hlen : As.length = na) (hrest : (rest.map fun v => v.category).sum ≤ 8) (hpd : (parseMethodDescriptor y.desc).map (fun d => d.parameters.length) = some na) (hM : MI l0 y wy rm D0 tys (As) wc wc2 r) (isC isR isF : List Nat) (wr : va_W) (hsC : isC.map (fun i => ws[i]?) = wc.map some) (hnC : va_nd isC = true) (hsR : isR.map (fun i => ws[i]?) = wr.map some) (hnR : va_nd isR = true) (hdis : ∀ i ∈ isR, i ∉ isC) (ws' : va_W) (hsF : isF.map (fun i => (wr ++ wc2)[i]?) = ws'.map some) (hnF : va_nd isF = true) {st : List Value} (hst : st = As.reverse ++ rest) (hd : decode cc pc = .ok (.invokestatic index, 3)) (kk : Z K (n + rm.cells) (k + rm.slots) ws' lv (pc + 3) (.int r :: rest)) : Z K n k ws lv pc st := by
  obtain ⟨p, l, e, R, s, m, args, below, meth, c, nL, D, A, Q⟩ := K
  obtain ⟨hx, hb, hml, hown, hts, hK, hA, hN, hlk⟩ := hC
  intro H locs ls hP hD hS hl
  have hR0 : R = R0 := hR0
  have hD0 : D = D0 := hD0
  have hl0 : l = l0 := hl0
  subst hR0
  subst hD0
  subst hl0
  have hPc := hP.subM isC hsC
  have hDc := hD.sub isC hnC hsC
  have hFc := va_free (wc := wc) hD hS hA isC hsC
  refine va_calli (va_runSN (host := RX3) (As := As) (rest := rest) ⟨hx, hb, hml, hown, hts⟩ (hM H.size) ⟨va_cnB na hts hG hw rfl rfl (hN.m hnw) (hts _ hini) ⟨hy0.1, hy0.2, hpd⟩ hroom, hts _ hsta, trivial⟩ ⟨Pw.blind, fun U hU hW => ⟨rfl, by rw [hU], by rw [hU]; exact hPc, va_K.moved hW.alike hK, hDc.weaken (fun _ _ _ _ => trivial), NW.moved hW hN⟩⟩ rfl hlen hl.1 hst (lv_room hrest) hd hcs) hS (fun q _ h => hFc q h) hFc (fun x u t H1 locs1 ht hvm hw2 hB hz1 hk1 hS1 => ?_)
  obtain ⟨hP1, hK1, hD1⟩ := hB
  have hw3 : x = r := hw2
  subst hw3
  rw [ht] at hP1
  obtain ⟨hP2, hD2⟩ := va_join (wr := wr) (w1 := wc2) hP hD isC isR hsC hsR hnR hdis hk1 hFc hP1 hD1
  exact kk H1 locs1 ls (hP2.subM isF hsF) (hD2.sub isF hnF hsF) hS1 hl
theorem z_callI_V (hC : Cx K cc own Ts tys) {R0 : Room} (hR0 : Rm K R0) {D0 : va_G} (hD0 : Dis K D0) {l0 : Launch} (hl0 : Lis K l0) {y : MethodName} {wy wy' : List Cond} {rm : Room} {index maxL na : Nat} {bytes : ByteArray} {ret : Option FieldType} {As : List Value} {wc wc2 : va_W} {a : Nat} (hG : GoodIn Ts wy) (hini : Cond.initialized y.cls ∈ Ts) (hlk0 : Cond.methodLink own index y ∈ Ts) (hins : Cond.instanceMethod y ∈ Ts) (hy1 : y.name = "<init>") (hret : ret = none) (hy0 : y.cls ≠ "java/lang/invoke/MethodHandle" ∧ y.cls ≠ "java/lang/invoke/VarHandle") (hw : wy = Cond.code y bytes maxL ret :: wy') (hroom : rm.frames + 1 ≤ R0.frames ∧ 8 + (maxL + 11) + rm.locals ≤ R0.locals) (hcs : n + rm.cells ≤ R0.cells ∧ k + rm.slots ≤ R0.slots) (hlen : As.length = na) (hrest : (rest.map fun v => v.category).sum ≤ 8) (hpd : (parseMethodDescriptor y.desc).map (fun d => d.parameters.length) = some na) (hM : MV l0 y wy rm D0 tys (.ref a :: As) wc wc2 ) (isC isR isF : List Nat) (wr : va_W) (hsC : isC.map (fun i => ws[i]?) = wc.map some) (hnC : va_nd isC = true) (hsR : isR.map (fun i => ws[i]?) = wr.map some) (hnR : va_nd isR = true) (hdis : ∀ i ∈ isR, i ∉ isC) (ws' : va_W) (hsF : isF.map (fun i => (wr ++ wc2)[i]?) = ws'.map some) (hnF : va_nd isF = true) {st : List Value} (hst : st = As.reverse ++ .ref a :: rest) (hd : decode cc pc = .ok (.invokespecial index, 3)) (kk : Z K (n + rm.cells) (k + rm.slots) ws' lv (pc + 3) (rest)) : Z K n k ws lv pc st := by
  obtain ⟨p, l, e, R, s, m, args, below, meth, c, nL, D, A, Q⟩ := K
  obtain ⟨hx, hb, hml, hown, hts, hK, hA, hN, hlk⟩ := hC
  intro H locs ls hP hD hS hl
  have hR0 : R = R0 := hR0
  have hD0 : D = D0 := hD0
  have hl0 : l = l0 := hl0
  subst hR0
  subst hD0
  subst hl0
  have hPc := hP.subM isC hsC
  have hDc := hD.sub isC hnC hsC
  have hFc := va_free (wc := wc) hD hS hA isC hsC
  subst hret
  refine va_callv (va_runI (As := As) (rest := rest) ⟨hx, hb, hml, hown, hts⟩ (hM H.size) (cwI na hts hG hw rfl rfl (hts _ hini) (hts _ hlk0) (hts _ hins) hy1 ⟨hy0.1, hy0.2, hpd⟩ hroom) ⟨Pw.blind, fun U hU hW => ⟨rfl, by rw [hU], by rw [hU]; exact hPc, va_K.moved hW.alike hK, hDc.weaken (fun _ _ _ _ => trivial), NW.moved hW hN⟩⟩ rfl hlen hl.1 hst (lv_room hrest) hd hcs) hS (fun q _ h => hFc q h) hFc (fun u t H1 locs1 ht hvm hw2 hB hz1 hk1 hS1 => ?_)
  obtain ⟨hP1, hK1, hD1⟩ := hB
  rw [ht] at hP1
  obtain ⟨hP2, hD2⟩ := va_join (wr := wr) (w1 := wc2) hP hD isC isR hsC hsR hnR hdis hk1 hFc hP1 hD1
  exact kk H1 locs1 ls (hP2.subM isF hsF) (hD2.sub isF hnF hsF) hS1 hl
theorem z_callIN_V (hC : Cx K cc own Ts tys) {R0 : Room} (hR0 : Rm K R0) {D0 : va_G} (hD0 : Dis K D0) {l0 : Launch} (hl0 : Lis K l0) {y : MethodName} {wy wy' : List Cond} {rm : Room} {index maxL na : Nat} {bytes : ByteArray} {ret : Option FieldType} {As : List Value} {wc wc2 : va_W} {a : Nat} (hG : GoodIn Ts wy) (hnw : (own, index, y) ∈ nwM) (hini : Cond.initialized y.cls ∈ Ts) (hins : Cond.instanceMethod y ∈ Ts) (hy1 : y.name = "<init>") (hret : ret = none) (hy0 : y.cls ≠ "java/lang/invoke/MethodHandle" ∧ y.cls ≠ "java/lang/invoke/VarHandle") (hw : wy = Cond.code y bytes maxL ret :: wy') (hroom : rm.frames + 1 ≤ R0.frames ∧ 8 + (maxL + 11) + rm.locals ≤ R0.locals) (hcs : n + rm.cells ≤ R0.cells ∧ k + rm.slots ≤ R0.slots) (hlen : As.length = na) (hrest : (rest.map fun v => v.category).sum ≤ 8) (hpd : (parseMethodDescriptor y.desc).map (fun d => d.parameters.length) = some na) (hM : MV l0 y wy rm D0 tys (.ref a :: As) wc wc2 ) (isC isR isF : List Nat) (wr : va_W) (hsC : isC.map (fun i => ws[i]?) = wc.map some) (hnC : va_nd isC = true) (hsR : isR.map (fun i => ws[i]?) = wr.map some) (hnR : va_nd isR = true) (hdis : ∀ i ∈ isR, i ∉ isC) (ws' : va_W) (hsF : isF.map (fun i => (wr ++ wc2)[i]?) = ws'.map some) (hnF : va_nd isF = true) {st : List Value} (hst : st = As.reverse ++ .ref a :: rest) (hd : decode cc pc = .ok (.invokespecial index, 3)) (kk : Z K (n + rm.cells) (k + rm.slots) ws' lv (pc + 3) (rest)) : Z K n k ws lv pc st := by
  obtain ⟨p, l, e, R, s, m, args, below, meth, c, nL, D, A, Q⟩ := K
  obtain ⟨hx, hb, hml, hown, hts, hK, hA, hN, hlk⟩ := hC
  intro H locs ls hP hD hS hl
  have hR0 : R = R0 := hR0
  have hD0 : D = D0 := hD0
  have hl0 : l = l0 := hl0
  subst hR0
  subst hD0
  subst hl0
  have hPc := hP.subM isC hsC
  have hDc := hD.sub isC hnC hsC
  have hFc := va_free (wc := wc) hD hS hA isC hsC
  subst hret
  refine va_callv (va_runIN (host := RX3) (As := As) (rest := rest) ⟨hx, hb, hml, hown, hts⟩ (hM H.size) ⟨va_cnB na hts hG hw rfl rfl (hN.m hnw) (hts _ hini) ⟨hy0.1, hy0.2, hpd⟩ hroom, hy1, hts _ hins⟩ ⟨Pw.blind, fun U hU hW => ⟨rfl, by rw [hU], by rw [hU]; exact hPc, va_K.moved hW.alike hK, hDc.weaken (fun _ _ _ _ => trivial), NW.moved hW hN⟩⟩ rfl hlen hl.1 hst (lv_room hrest) hd hcs) hS (fun q _ h => hFc q h) hFc (fun u t H1 locs1 ht hvm hw2 hB hz1 hk1 hS1 => ?_)
  obtain ⟨hP1, hK1, hD1⟩ := hB
  rw [ht] at hP1
  obtain ⟨hP2, hD2⟩ := va_join (wr := wr) (w1 := wc2) hP hD isC isR hsC hsR hnR hdis hk1 hFc hP1 hD1
  exact kk H1 locs1 ls (hP2.subM isF hsF) (hD2.sub isF hnF hsF) hS1 hl
theorem z_objInit (hC : Cx K cc own Ts tys) {R0 : Room} (hR0 : Rm K R0) {N : Nat} (hN0 : NLis K N) {index a : Nat} (h1 : Cond.methodLink own index objectInit ∈ Ts) (h2 : Cond.instanceMethod objectInit ∈ Ts) (h3 : Cond.code objectInit ⟨#[0xb1]⟩ 1 none ∈ Ts) (hf : 1 ≤ R0.frames) (hlo : (rest.map fun v => v.category).sum + 12 ≤ R0.locals) (hd : decode cc pc = .ok (.invokespecial index, 3)) (kk : Z K n k ws lv (pc + 3) rest) : Z K n k ws lv pc (.ref a :: rest) := by
  obtain ⟨p, l, e, R, s, m, args, below, meth, c, nL, D, A, Q⟩ := K
  obtain ⟨hx, hb, hml, hown, hts, hK, hA, hN, hlk⟩ := hC
  intro H locs ls hP hD hS hl
  have hR0 : R = R0 := hR0
  subst hR0
  refine W.objInit hx hb hown (hts _ h1) (hts _ h2) (hts _ h3) rfl (by rw [hml]; exact hl.1) rfl hd hf (by show 2 * 0 + _ + 12 ≤ _; omega) ?_
  exact W.eq (g2 := F0 m (pc + 3) ls rest) rfl (kk H locs ls hP hD hS hl)
theorem z_new (hC : Cx K cc own Ts tys) {R0 : Room} (hR0 : Rm K R0) {C : String} {T : u_T} {N ci index : Nat} (hin : ∀ w ∈ u_ws C T N, w ∈ Ts) (ty : Nat → FieldType) (hty : ∀ k, k < N → parseFieldDescriptor (T k).2.2.1 = some (ty k)) (hcl : Cond.classLink own index C ∈ Ts) (hinst : Cond.instantiable C N ∈ Ts) (hini : Cond.initialized C ∈ Ts) (hc : vwCl[ci]? = some (C, T, N)) {fs : List Value} (hfs : ∀ j, j < N → defaultValue (ty j) = vp_V fs j) (hcells : n + 1 ≤ R0.cells) (hslots : k + N ≤ R0.slots) (hd : decode cc pc = .ok (.new index, 3)) (kk : ∀ q : Nat, Z K (n + 1) (k + N) (ws ++ [(q, .inr (ci, fs))]) lv (pc + 3) (.ref q :: rest)) : Z K n k ws lv pc rest := by
  obtain ⟨p, l, e, R, s, m, args, below, meth, c, nL, D, A, Q⟩ := K
  obtain ⟨hx, hb, hml, hown, hts, hK, hA, hN, hlk⟩ := hC
  intro H locs ls hP hD hS hl
  have hR0 : R = R0 := hR0
  subst hR0
  exact va_new hx hb hts hin ty hty hown (hts _ hcl) (hts _ hinst) (hts _ hini) hK hP hD hS hA hc hfs hcells hslots hd (fun q H1 hP1 hD1 hS1 => kk q H1 locs ls hP1 hD1 hS1 hl)
theorem z_newa (hC : Cx K cc own Ts tys) {R0 : Room} (hR0 : Rm K R0) {atype : ArrayType} {ty : FieldType} (harr : Cond.arrayClass (newarray.typeOf atype) ∈ Ts) (hty : newarray.typeOf atype = ty) (hprim : ∀ C, ty ≠ .object C) (t0 : Nat) {cA : ClassId} (ht : tys[t0]? = some (cA, ty)) {N : Nat} {a0 : vp_A} (ha : ∀ cA : ClassId, vp_cell cA a0 = arrV cA N (fun _ => defaultValue ty)) (hN9 : N < 2 ^ 31) (hbytes : N * componentBytes ty ≤ 536870912) (hcells : n + 1 ≤ R0.cells) (hslots : k + N ≤ R0.slots) (hd : decode cc pc = .ok (.newarray atype, 2)) (kk : ∀ q : Nat, Z K (n + 1) (k + N) (ws ++ [(q, .inl (cA, a0))]) lv (pc + 2) (.ref q :: rest)) : Z K n k ws lv pc (.int (nI N) :: rest) := by
  obtain ⟨p, l, e, R, s, m, args, below, meth, c, nL, D, A, Q⟩ := K
  obtain ⟨hx, hb, hml, hown, hts, hK, hA, hN, hlk⟩ := hC
  intro H locs ls hP hD hS hl
  have hR0 : R = R0 := hR0
  subst hR0
  refine va_newa hx hb (hts _ harr) hty hK hP hD hS hA ha (nI_pos hN9) (nI_clamp hN9) hbytes hcells hslots hd (fun q cB H1 hK1 hP1 hD1 hS1 => ?_)
  have e1 := (hK.2 t0 _ ht).2
  have e2 := (hK1.2 tys.length (cB, ty) (by simp)).2
  have e3 : cB = cA := by
    cases ty with
    | object C => exact absurd rfl (hprim C)
    | _ => exact Option.some.inj (e2.symm.trans e1)
  subst e3
  exact kk q H1 locs ls hP1 hD1 hS1 hl
theorem z_copyi (hC : Cx K cc own Ts tys) {R0 : Room} (hR0 : Rm K R0) {index : Nat} (h1 : Cond.methodLink own index arraycopyName ∈ Ts) (h2 : Cond.native arraycopyName ∈ Ts) (h3 : Cond.static arraycopyName ∈ Ts) (h4 : Cond.initialized "java/lang/System" ∈ Ts) (q0 q1 t0 t1 : Nat) {a a0 : Nat} {c0 c1 : ClassId} {n0 n1 : Nat} {f g : Nat → Int32} (ha0 : ws[q0]? = some (a0, .inl (c0, n0, .inl f))) (ha1 : ws[q1]? = some (a, .inl (c1, n1, .inl g))) (ht0 : tys[t0]? = some (c0, .int)) (ht1 : tys[t1]? = some (c1, .int)) {sp dp N : Nat} (hs : sp + N ≤ n0) (hdp : dp + N ≤ n1) (hn0 : n0 < 2 ^ 31) (hn1 : n1 < 2 ^ 31) (hf : 1 ≤ R0.frames) (hlo : (rest.map fun v => v.category).sum + (nativeFrameWords "java/lang/System" "arraycopy" 5 + 11) ≤ R0.locals) (ws' : va_W) (hw : ws.set q1 (a, .inl (c1, n1, .inl (va_cpy f g sp dp N))) = ws') (hd : decode cc pc = .ok (.invokestatic index, 3)) (kk : Z K n k ws' lv (pc + 3) rest) : Z K n k ws lv pc (.int (nI N) :: .int (nI dp) :: .ref a :: .int (nI sp) :: .ref a0 :: rest) := by
  obtain ⟨p, l, e, R, s, m, args, below, meth, c, nL, D, A, Q⟩ := K
  obtain ⟨hx, hb, hml, hown, hts, hK, hA, hN, hlk⟩ := hC
  intro H locs ls hP hD hS hl
  have hR0 : R = R0 := hR0
  subst hR0
  subst hw
  have b1 : sp < 2 ^ 31 := by omega
  have b2 : dp < 2 ^ 31 := by omega
  have b3 : N < 2 ^ 31 := by omega
  refine va_copyi hx hb (by rw [hml]; exact hl.1.symm) hown (hts _ h1) (hts _ h2) (hts _ h3) (hts _ h4) hK hP hD hS q0 q1 t0 t1 ha0 ha1 ht0 ht1 rfl (nI_pos b1) (nI_pos b2) (nI_pos b3) (by rw [nI_clamp b1, nI_clamp b3]; exact hs) (by rw [nI_clamp b2, nI_clamp b3]; exact hdp) (fun _ _ => rfl) hf hlo hd ?_
  rw [nI_clamp b1, nI_clamp b2, nI_clamp b3]
  exact fun H1 locs1 hP1 hD1 hS1 => kk H1 locs1 ls hP1 hD1 hS1 hl
theorem z_widen {n' k' : Nat} {st : List Value} (h1 : n ≤ n') (h2 : k ≤ k') (kk : Z K n' k' ws lv pc st) : Z K n k ws lv pc st := by
  obtain ⟨p, l, e, R, s, m, args, below, meth, c, nL, D, A, Q⟩ := K
  intro H locs ls hP hD hS hl
  exact W.widen h1 h2 (kk H locs ls hP hD hS hl)
theorem z_lv {lv' : List (Nat × Value)} {st : List Value} (ks : List Nat) (h : lv_pick lv ks = lv') (kk : Z K n k ws lv' pc st) : Z K n k ws lv pc st := by
  obtain ⟨p, l, e, R, s, m, args, below, meth, c, nL, D, A, Q⟩ := K
  intro H locs ls hP hD hS hl
  exact kk H locs ls hP hD hS (lv_sub hl ks h)
theorem z_ws {ws' : va_W} {st : List Value} (is : List Nat) (hn : va_nd is = true) (h : is.map (fun i => ws[i]?) = ws'.map some) (kk : Z K n k ws' lv pc st) : Z K n k ws lv pc st := by
  obtain ⟨p, l, e, R, s, m, args, below, meth, c, nL, D, A, Q⟩ := K
  intro H locs ls hP hD hS hl
  exact kk H locs ls (hP.subM is h) (hD.sub is hn h) hS hl
end ZC
end
section
/-! numbers and branches of our own -/
abbrev tyL (cI cJ cZ : ClassId) : List (ClassId × FieldType) := [(cI, .int), (cJ, .long), (cZ, .boolean)]
def bI (b : Bool) : Int32 := if b then 1 else 0
theorem nar_b (b : Bool) : narrow .boolean (.int (bI b)) = .int (bI b) := by cases b <;> rfl
theorem bI_t {b : Bool} (h : b = true) : nI 1 = bI b := by subst h; rfl
theorem bI_f {b : Bool} (h : b = false) : nI 0 = bI b := by subst h; rfl
theorem bI_0 {b : Bool} : bI b = 0 ↔ b = false := by cases b <;> decide
theorem sw_ne {x : Int32} {k : Nat} (h : ¬ x = nI k) (hk : k < 2 ^ 31) : ¬ x.toInt = (k : Int) := fun q => h (Int32.toInt_inj.mp (by rw [nI_toInt hk]; exact q))
theorem pk_dec {a : Nat} (h : 1 ≤ a) : nI a + Int32.ofInt (-1) = nI (a - 1) := by
  obtain ⟨b, rfl⟩ : ∃ b, a = b + 1 := ⟨a - 1, by omega⟩
  exact pk_m1 b
theorem nI_not_neg {x : Int32} {n : Nat} (hn : n < 2 ^ 31) (h0 : ¬ x < 0) (h1 : ¬ nI n ≤ x) : ∃ j : Nat, j < n ∧ x = nI j := by
  obtain ⟨j, hj, rfl⟩ := nI_of h0
  exact ⟨j, Nat.not_le.mp (fun h => h1 (nI_le h hj)), rfl⟩
section ZB
variable {K : KT} {cc : ByteArray} {own : String} {Ts : List Cond} {tys : List (ClassId × FieldType)} {n k : Nat} {ws : va_W} {lv : List (Nat × Value)} {pc : Nat} {rest : List Value} {off : Int} {tgt : Nat} {b : Bool} {a : Nat}
theorem z_bif_eq (hC : Cx K cc own Ts tys) (hd : decode cc pc = .ok (.ifCond .eq off, 3)) (ht : (pc : Int) + off = (tgt : Int)) (kt : b = false → Z K n k ws lv tgt rest) (kf : b = true → Z K n k ws lv (pc + 3) rest) : Z K n k ws lv pc (.int (bI b) :: rest) := z_if_eq hC hd ht (fun h => kt (bI_0.mp h)) (fun h => kf (by cases b with | false => exact absurd rfl h | true => rfl))
theorem z_bif_ne (hC : Cx K cc own Ts tys) (hd : decode cc pc = .ok (.ifCond .ne off, 3)) (ht : (pc : Int) + off = (tgt : Int)) (kt : b = true → Z K n k ws lv tgt rest) (kf : b = false → Z K n k ws lv (pc + 3) rest) : Z K n k ws lv pc (.int (bI b) :: rest) := z_if_ne hC hd ht (fun h => kt (by cases b with | false => exact absurd rfl h | true => rfl)) (fun h => kf (bI_0.mp h))
theorem z_nif_eq (hC : Cx K cc own Ts tys) (hd : decode cc pc = .ok (.ifCond .eq off, 3)) (ht : (pc : Int) + off = (tgt : Int)) (ha : a < 2 ^ 31) (kt : a = 0 → Z K n k ws lv tgt rest) (kf : a ≠ 0 → Z K n k ws lv (pc + 3) rest) : Z K n k ws lv pc (.int (nI a) :: rest) := z_if_eq hC hd ht (fun h => kt ((nI_eq ha (by decide)).mp (h.trans nI_0.symm))) (fun h => kf (fun e => h (by rw [e]; exact nI_0)))
theorem z_nif_ne (hC : Cx K cc own Ts tys) (hd : decode cc pc = .ok (.ifCond .ne off, 3)) (ht : (pc : Int) + off = (tgt : Int)) (ha : a < 2 ^ 31) (kt : a ≠ 0 → Z K n k ws lv tgt rest) (kf : a = 0 → Z K n k ws lv (pc + 3) rest) : Z K n k ws lv pc (.int (nI a) :: rest) := z_if_ne hC hd ht (fun h => kt (fun e => h (by rw [e]; exact nI_0))) (fun h => kf ((nI_eq ha (by decide)).mp (h.trans nI_0.symm)))
theorem z_nif_lt (hC : Cx K cc own Ts tys) (hd : decode cc pc = .ok (.ifCond .lt off, 3)) (ht : (pc : Int) + off = (tgt : Int)) (ha : a < 2 ^ 31) (kt : False → Z K n k ws lv tgt rest) (kf : True → Z K n k ws lv (pc + 3) rest) : Z K n k ws lv pc (.int (nI a) :: rest) := z_if_lt hC hd ht (fun h => kt (nI_pos ha h)) (fun _ => kf trivial)
theorem z_nif_ge (hC : Cx K cc own Ts tys) (hd : decode cc pc = .ok (.ifCond .ge off, 3)) (ht : (pc : Int) + off = (tgt : Int)) (ha : a < 2 ^ 31) (kt : True → Z K n k ws lv tgt rest) (kf : False → Z K n k ws lv (pc + 3) rest) : Z K n k ws lv pc (.int (nI a) :: rest) := z_if_ge hC hd ht (fun _ => kt trivial) (fun h => kf (h (nI_pos' ha)))
theorem z_nif_gt (hC : Cx K cc own Ts tys) (hd : decode cc pc = .ok (.ifCond .gt off, 3)) (ht : (pc : Int) + off = (tgt : Int)) (ha : a < 2 ^ 31) (kt : 0 < a → Z K n k ws lv tgt rest) (kf : a = 0 → Z K n k ws lv (pc + 3) rest) : Z K n k ws lv pc (.int (nI a) :: rest) := z_if_gt hC hd ht (fun h => kt (Nat.pos_of_ne_zero (fun e => by subst e; exact absurd h (by decide)))) (fun h => kf (Nat.eq_zero_of_not_pos (fun e => h (nI_lt e ha))))
theorem z_nif_le (hC : Cx K cc own Ts tys) (hd : decode cc pc = .ok (.ifCond .le off, 3)) (ht : (pc : Int) + off = (tgt : Int)) (ha : a < 2 ^ 31) (kt : a = 0 → Z K n k ws lv tgt rest) (kf : 0 < a → Z K n k ws lv (pc + 3) rest) : Z K n k ws lv pc (.int (nI a) :: rest) := z_if_le hC hd ht (fun h => kt (Nat.eq_zero_of_not_pos (fun e => nI_nle e ha h))) (fun h => kf (Nat.pos_of_ne_zero (fun e => by subst e; exact absurd (by decide) h)))
theorem z_topi (x' : Int32) {x : Int32} {st : List Value} (h : x = x') (kk : Z K n k ws lv pc (.int x' :: st)) : Z K n k ws lv pc (.int x :: st) := h ▸ kk
theorem z_topl (x' : Int64) {x : Int64} {st : List Value} (h : x = x') (kk : Z K n k ws lv pc (.long x' :: st)) : Z K n k ws lv pc (.long x :: st) := h ▸ kk
theorem z_weq (ws' : va_W) {st : List Value} (h : ws = ws') (kk : Z K n k ws' lv pc st) : Z K n k ws lv pc st := h ▸ kk
theorem z_lveq (lv' : List (Nat × Value)) {st : List Value} (h : lv = lv') (kk : Z K n k ws lv' pc st) : Z K n k ws lv pc st := h ▸ kk
/-- an array's numbers beyond its length are nobody's -/
theorem z_arrI (q0 : Nat) {cA : ClassId} {ad N : Nat} {f f' : Nat → Int32} {st : List Value} (ha : ws[q0]? = some (ad, .inl (cA, N, .inl f))) (hf : ∀ j, j < N → f j = f' j) (ws' : va_W) (hw : ws.set q0 (ad, .inl (cA, N, .inl f')) = ws') (kk : Z K n k ws' lv pc st) : Z K n k ws lv pc st := by
  obtain ⟨p, l, e, R, s, m, args, below, meth, c, nL, D, A, Q⟩ := K
  intro H locs ls hP hD hS hl
  subst hw
  refine kk H locs ls (hP.set hD ha ?_ (fun _ _ => rfl)) (hD.set ha) hS hl
  have h1 := hP q0 _ ha
  show H[ad]? = some (vp_cell cA (N, .inl f'))
  rw [show H[ad]? = some (vp_cell cA (N, .inl f)) from h1, vp_cell_i, vp_cell_i]
  have e9 : (fun j : Fin N => Value.int (f j.val)) = (fun j : Fin N => Value.int (f' j.val)) := funext (fun j => by rw [hf j.val j.isLt])
  unfold arrV
  rw [e9]
theorem z_arrJ (q0 : Nat) {cA : ClassId} {ad N : Nat} {f f' : Nat → Int64} {st : List Value} (ha : ws[q0]? = some (ad, .inl (cA, N, .inr (.inl f)))) (hf : ∀ j, j < N → f j = f' j) (ws' : va_W) (hw : ws.set q0 (ad, .inl (cA, N, .inr (.inl f'))) = ws') (kk : Z K n k ws' lv pc st) : Z K n k ws lv pc st := by
  obtain ⟨p, l, e, R, s, m, args, below, meth, c, nL, D, A, Q⟩ := K
  intro H locs ls hP hD hS hl
  subst hw
  refine kk H locs ls (hP.set hD ha ?_ (fun _ _ => rfl)) (hD.set ha) hS hl
  have h1 := hP q0 _ ha
  show H[ad]? = some (vp_cell cA (N, .inr (.inl f')))
  rw [show H[ad]? = some (vp_cell cA (N, .inr (.inl f))) from h1, vp_cell_l, vp_cell_l]
  have e9 : (fun j : Fin N => Value.long (f j.val)) = (fun j : Fin N => Value.long (f' j.val)) := funext (fun j => by rw [hf j.val j.isLt])
  unfold arrV
  rw [e9]
end ZB
end
section
/-! the smallest methods of the class: static functions -/
def inB (a x : Int32) : Bool := decide (¬ ((x >>> (a &&& 31)) &&& nI 1) = 0)
def codI (a c : Int32) : Int32 := if nI 24 ≤ c then nI 576 + nI 144 * a + c - nI 24 else nI 24 * a + c
def colI (r b : Int32) : Int32 := nI 24 + nI 24 * r + b
def isRo (r : Int32) : Bool := decide (¬ r < 0 ∧ ¬ nI 6 ≤ r)
def isCl (a n : Int32) : Bool := decide (¬ a < 0 ∧ ¬ n ≤ a)

set_option maxRecDepth 100000 in
set_option maxHeartbeats 4000000 in
theorem c_X3_isIn (l : Launch) (D : va_G) (cI cJ cZ : ClassId) (a0 : Int32) (x0 : Int32) : MI l yX3_isIn wsX3_isIn { frames := 0, cells := 0, slots := 0, locals := 0 } D (tyL cI cJ cZ) [.int a0, .int x0] [] [] (bI (inB a0 x0)) := by
  refine metI_of (cc := cX3_isIn) (maxL := 2) (ret := (some .boolean)) (by decide +kernel) rfl (Nat.le_of_ble_eq_true rfl) ?_
  intro K hC hRm hNL hDis hLis hRT hIni hQ
  refine z_iload_n (pc := 0) hC 1 dX3_isIn_0 rfl ?_
  refine z_iload_n (pc := 1) hC 0 dX3_isIn_1 rfl ?_
  refine z_ishr (pc := 2) (v := (x0 >>> (a0 &&& 31))) hC dX3_isIn_2 (rfl) ?_
  refine z_iconst (pc := 3) (v := (nI 1)) hC dX3_isIn_3 (by decide +kernel) ?_
  refine z_iand (pc := 4) (v := ((x0 >>> (a0 &&& 31)) &&& (nI 1))) hC dX3_isIn_4 (rfl) ?_
  refine z_if_eq (pc := 5) (tgt := 12) hC dX3_isIn_5 (by decide) (fun h5 => ?_) (fun h5 => ?_)
  · refine z_iconst (pc := 12) (v := (nI 0)) hC dX3_isIn_12 (by decide +kernel) ?_
    exact z_iret (pc := 13) hC hQ hRT (by decide +kernel) (by first | exact bI_f (by simp [inB, h5]) | exact bI_t (by simp [inB, h5])) (rfl) dX3_isIn_13
  · refine z_iconst (pc := 8) (v := (nI 1)) hC dX3_isIn_8 (by decide +kernel) ?_
    refine z_goto (pc := 9) (tgt := 13) hC dX3_isIn_9 (by decide) ?_
    exact z_iret (pc := 13) hC hQ hRT (by decide +kernel) (by first | exact bI_f (by simp [inB, h5]) | exact bI_t (by simp [inB, h5])) (rfl) dX3_isIn_13

set_option maxRecDepth 100000 in
set_option maxHeartbeats 4000000 in
theorem c_X3_codeOf (l : Launch) (D : va_G) (cI cJ cZ : ClassId) (a0 : Int32) (x0 : Int32) : MI l yX3_codeOf wsX3_codeOf { frames := 0, cells := 0, slots := 0, locals := 0 } D (tyL cI cJ cZ) [.int a0, .int x0] [] [] (codI a0 x0) := by
  refine metI_of (cc := cX3_codeOf) (maxL := 2) (ret := (some .int)) (by decide +kernel) rfl (Nat.le_of_ble_eq_true rfl) ?_
  intro K hC hRm hNL hDis hLis hRT hIni hQ
  refine z_iload_n (pc := 0) hC 1 dX3_codeOf_0 rfl ?_
  refine z_bipush (pc := 1) (v := (nI 24)) hC dX3_codeOf_1 (by decide +kernel) ?_
  refine z_icmp_ge (pc := 3) (tgt := 13) hC dX3_codeOf_3 (by decide) (fun h3 => ?_) (fun h3 => ?_)
  · refine z_sipush (pc := 13) (v := (nI 576)) hC dX3_codeOf_13 (by decide +kernel) ?_
    refine z_sipush (pc := 16) (v := (nI 144)) hC dX3_codeOf_16 (by decide +kernel) ?_
    refine z_iload_n (pc := 19) hC 0 dX3_codeOf_19 rfl ?_
    refine z_imul (pc := 20) (v := ((nI 144) * a0)) hC dX3_codeOf_20 (rfl) ?_
    refine z_iadd (pc := 21) (v := ((nI 576) + ((nI 144) * a0))) hC dX3_codeOf_21 (rfl) ?_
    refine z_iload_n (pc := 22) hC 1 dX3_codeOf_22 rfl ?_
    refine z_iadd (pc := 23) (v := (((nI 576) + ((nI 144) * a0)) + x0)) hC dX3_codeOf_23 (rfl) ?_
    refine z_bipush (pc := 24) (v := (nI 24)) hC dX3_codeOf_24 (by decide +kernel) ?_
    refine z_isub (pc := 26) (v := ((((nI 576) + ((nI 144) * a0)) + x0) - (nI 24))) hC dX3_codeOf_26 (rfl) ?_
    exact z_iret (pc := 27) hC hQ hRT (rfl) (by simp only [codI, if_pos h3]) (rfl) dX3_codeOf_27
  · refine z_bipush (pc := 6) (v := (nI 24)) hC dX3_codeOf_6 (by decide +kernel) ?_
    refine z_iload_n (pc := 8) hC 0 dX3_codeOf_8 rfl ?_
    refine z_imul (pc := 9) (v := ((nI 24) * a0)) hC dX3_codeOf_9 (rfl) ?_
    refine z_iload_n (pc := 10) hC 1 dX3_codeOf_10 rfl ?_
    refine z_iadd (pc := 11) (v := (((nI 24) * a0) + x0)) hC dX3_codeOf_11 (rfl) ?_
    exact z_iret (pc := 12) hC hQ hRT (rfl) (by simp only [codI, if_neg h3]) (rfl) dX3_codeOf_12

set_option maxRecDepth 100000 in
set_option maxHeartbeats 4000000 in
theorem c_X3_linkColumn (l : Launch) (D : va_G) (cI cJ cZ : ClassId) (r0 : Int32) (b0 : Int32) : MI l yX3_linkColumn wsX3_linkColumn { frames := 0, cells := 0, slots := 0, locals := 0 } D (tyL cI cJ cZ) [.int r0, .int b0] [] [] (colI r0 b0) := by
  refine metI_of (cc := cX3_linkColumn) (maxL := 2) (ret := (some .int)) (by decide +kernel) rfl (Nat.le_of_ble_eq_true rfl) ?_
  intro K hC hRm hNL hDis hLis hRT hIni hQ
  refine z_bipush (pc := 0) (v := (nI 24)) hC dX3_linkColumn_0 (by decide +kernel) ?_
  refine z_bipush (pc := 2) (v := (nI 24)) hC dX3_linkColumn_2 (by decide +kernel) ?_
  refine z_iload_n (pc := 4) hC 0 dX3_linkColumn_4 rfl ?_
  refine z_imul (pc := 5) (v := ((nI 24) * r0)) hC dX3_linkColumn_5 (rfl) ?_
  refine z_iadd (pc := 6) (v := ((nI 24) + ((nI 24) * r0))) hC dX3_linkColumn_6 (rfl) ?_
  refine z_iload_n (pc := 7) hC 1 dX3_linkColumn_7 rfl ?_
  refine z_iadd (pc := 8) (v := (((nI 24) + ((nI 24) * r0)) + b0)) hC dX3_linkColumn_8 (rfl) ?_
  exact z_iret (pc := 9) hC hQ hRT (rfl) (rfl) (rfl) dX3_linkColumn_9

set_option maxRecDepth 100000 in
set_option maxHeartbeats 4000000 in
theorem c_X3_isRole (l : Launch) (D : va_G) (cI cJ cZ : ClassId) (r0 : Int32) : MI l yX3_isRole wsX3_isRole { frames := 0, cells := 0, slots := 0, locals := 0 } D (tyL cI cJ cZ) [.int r0] [] [] (bI (isRo r0)) := by
  refine metI_of (cc := cX3_isRole) (maxL := 1) (ret := (some .boolean)) (by decide +kernel) rfl (Nat.le_of_ble_eq_true rfl) ?_
  intro K hC hRm hNL hDis hLis hRT hIni hQ
  refine z_iload_n (pc := 0) hC 0 dX3_isRole_0 rfl ?_
  refine z_if_lt (pc := 1) (tgt := 14) hC dX3_isRole_1 (by decide) (fun h1 => ?_) (fun h1 => ?_)
  · refine z_iconst (pc := 14) (v := (nI 0)) hC dX3_isRole_14 (by decide +kernel) ?_
    exact z_iret (pc := 15) hC hQ hRT (by decide +kernel) (by first | exact bI_t (by simp [isRo, *]) | exact bI_f (by simp [isRo, *])) (rfl) dX3_isRole_15
  · refine z_iload_n (pc := 4) hC 0 dX3_isRole_4 rfl ?_
    refine z_bipush (pc := 5) (v := (nI 6)) hC dX3_isRole_5 (by decide +kernel) ?_
    refine z_icmp_ge (pc := 7) (tgt := 14) hC dX3_isRole_7 (by decide) (fun h7 => ?_) (fun h7 => ?_)
    · refine z_iconst (pc := 14) (v := (nI 0)) hC dX3_isRole_14 (by decide +kernel) ?_
      exact z_iret (pc := 15) hC hQ hRT (by decide +kernel) (by first | exact bI_t (by simp [isRo, *]) | exact bI_f (by simp [isRo, *])) (rfl) dX3_isRole_15
    · refine z_iconst (pc := 10) (v := (nI 1)) hC dX3_isRole_10 (by decide +kernel) ?_
      refine z_goto (pc := 11) (tgt := 15) hC dX3_isRole_11 (by decide) ?_
      exact z_iret (pc := 15) hC hQ hRT (by decide +kernel) (by first | exact bI_t (by simp [isRo, *]) | exact bI_f (by simp [isRo, *])) (rfl) dX3_isRole_15
end
section
/-! ElCompletion$Closure, the giving of facts: what its methods do to (now, grounds, gainers), said by functions -/
abbrev GS : Type := (Nat → Int32) × (Nat → Int64) × Int32
def tn (x : Int32) : Nat := x.toNatClampNeg
theorem tn_nI {j : Nat} (h : j < 2 ^ 31) : tn (nI j) = j := nI_clamp h
def bitI (i : Nat) : Int32 := nI 1 <<< (nI i &&& 31)
def cod (a c : Nat) : Nat := if c < 24 then 24 * a + c else 576 + 144 * a + (c - 24)
def lcol (r b : Nat) : Nat := 24 + 24 * r + b
theorem cod_lt {a c : Nat} (ha : a < 24) (hc : c < 168) : cod a c < 4032 := by unfold cod; split <;> omega
theorem lcol_lt {r b : Nat} (hr : r < 6) (hb : b < 24) : lcol r b < 168 := by unfold lcol; omega
theorem codI_nat (a : Nat) {c : Nat} (hc : c < 2 ^ 31) : codI (nI a) (nI c) = nI (cod a c) := by
  unfold codI cod
  by_cases h : c < 24
  · rw [if_neg (nI_ge h (by decide)), if_pos h, pk_mul, nI_add]
  · rw [if_pos (nI_le (by omega) hc), if_neg h, pk_mul, nI_add, nI_add, pk_sub (by omega)]
    congr 1
    omega
theorem colI_nat (r b : Nat) : colI (nI r) (nI b) = nI (lcol r b) := by
  unfold colI lcol
  rw [pk_mul, nI_add, nI_add]
def frs (cls x : Int32) : Int32 := cls &&& (x ^^^ (-1))
def fstI (a fcol : Int32) : Int32 := if fcol = nI 4095 then nI 4095 else codI a fcol
def pkJ (rc ax fst sec : Int32) : Int64 := (((rc.toInt64 <<< ((nI 32).toInt64 &&& 63)) ||| (ax.toInt64 <<< ((nI 24).toInt64 &&& 63))) ||| (fst.toInt64 <<< ((nI 12).toInt64 &&& 63))) ||| sec.toInt64
def gvG (fr : Int32) (col : Nat) (rc ax fcol sec : Int32) (g : Nat → Int64) : Nat → (Nat → Int64)
  | 0 => g
  | i + 1 => if inB (nI i) fr = true then vp_updL (gvG fr col rc ax fcol sec g i) (cod i col) (pkJ rc ax (fstI (nI i) fcol) sec) else gvG fr col rc ax fcol sec g i
theorem gvG_t {fr : Int32} {col : Nat} {rc ax fcol sec : Int32} {g : Nat → Int64} {i : Nat} (h : inB (nI i) fr = true) : gvG fr col rc ax fcol sec g (i + 1) = vp_updL (gvG fr col rc ax fcol sec g i) (cod i col) (pkJ rc ax (fstI (nI i) fcol) sec) := if_pos h
theorem gvG_f {fr : Int32} {col : Nat} {rc ax fcol sec : Int32} {g : Nat → Int64} {i : Nat} (h : inB (nI i) fr = false) : gvG fr col rc ax fcol sec g (i + 1) = gvG fr col rc ax fcol sec g i := if_neg (by rw [h]; decide)
def gv (n : Nat) (rc cls : Int32) (col : Nat) (ax fcol sec : Int32) (u : GS) : GS := if frs cls (u.1 col) = 0 then u else (upd u.1 col (u.1 col ||| frs cls (u.1 col)), gvG (frs cls (u.1 col)) col rc ax fcol sec u.2.1 n, u.2.2 ||| frs cls (u.1 col))
theorem gv_e {n : Nat} {rc cls : Int32} {col : Nat} {ax fcol sec : Int32} {u : GS} (h : frs cls (u.1 col) = 0) : gv n rc cls col ax fcol sec u = u := if_pos h
theorem gv_n {n : Nat} {rc cls : Int32} {col : Nat} {ax fcol sec : Int32} {u : GS} (h : frs cls (u.1 col) ≠ 0) : gv n rc cls col ax fcol sec u = (upd u.1 col (u.1 col ||| frs cls (u.1 col)), gvG (frs cls (u.1 col)) col rc ax fcol sec u.2.1 n, u.2.2 ||| frs cls (u.1 col)) := if_neg h
theorem c_X3_codeOfN (l : Launch) (D : va_G) (cI cJ cZ : ClassId) (a0 x0 : Nat) (hc : x0 < 2 ^ 31) : MI l yX3_codeOf wsX3_codeOf { frames := 0, cells := 0, slots := 0, locals := 0 } D (tyL cI cJ cZ) [.int (nI a0), .int (nI x0)] [] [] (nI (cod a0 x0)) := codI_nat a0 hc ▸ c_X3_codeOf l D cI cJ cZ (nI a0) (nI x0)
theorem c_X3_linkColumnN (l : Launch) (D : va_G) (cI cJ cZ : ClassId) (r0 b0 : Nat) : MI l yX3_linkColumn wsX3_linkColumn { frames := 0, cells := 0, slots := 0, locals := 0 } D (tyL cI cJ cZ) [.int (nI r0), .int (nI b0)] [] [] (nI (lcol r0 b0)) := colI_nat r0 b0 ▸ c_X3_linkColumn l D cI cJ cZ (nI r0) (nI b0)

set_option maxRecDepth 100000 in
set_option maxHeartbeats 4000000 in
theorem c_X1_has (l : Launch) (D : va_G) (cI cJ cZ : ClassId) (q : Nat → Nat) (N0 : Nat → Int32) (n : Nat) (fc : Int32) (rc : Int32) (ga : Int32) (a0 : Int32) (col : Nat) (hc : col < 168) : MI l yX1_has wsX1_has { frames := 1, cells := 0, slots := 0, locals := 21 } D (tyL cI cJ cZ) [.ref (q 6), .int a0, .int (nI col)] [(q 6, .inr (2, [.ref (q 7), .ref (q 8), .ref (q 9), .ref (q 10), .int (nI n), .int fc, .int rc, .int ga])), (q 8, .inl (cI, 168, .inl N0))] [(q 6, .inr (2, [.ref (q 7), .ref (q 8), .ref (q 9), .ref (q 10), .int (nI n), .int fc, .int rc, .int ga])), (q 8, .inl (cI, 168, .inl N0))] (bI (inB a0 (N0 col))) := by
  refine metI_of (cc := cX1_has) (maxL := 3) (ret := (some .boolean)) (by decide +kernel) rfl (Nat.le_of_ble_eq_true rfl) ?_
  intro K hC hRm hNL hDis hLis hRT hIni hQ
  have hinX1 : ∀ w ∈ wsX10, w ∈ wsX1_has := by decide +kernel
  refine z_iload_n (pc := 0) hC 1 dX1_has_0 rfl ?_
  refine z_aload_n (pc := 1) hC 0 dX1_has_1 rfl ?_
  refine z_get (pc := 2) (C := RX1) (T := TX1) (N := 8) hC hinX1 0 rfl rfl 1 (by decide) (by decide +kernel) rfl dX1_has_2 ?_
  refine z_iload_n (pc := 5) hC 2 dX1_has_5 rfl ?_
  refine z_iald (pc := 6) (v := (N0 col)) hC 1 0 rfl rfl (by omega) (by decide) (rfl) dX1_has_6 ?_
  refine z_callSN_I (pc := 7) (y := yX3_isIn) (wy := wsX3_isIn) (rm := { frames := 0, cells := 0, slots := 0, locals := 0 }) (As := [.int a0, .int (N0 col)]) (rest := []) (na := 2)  (wc := []) (wc2 := []) hC hRm hDis hLis gX1_has_X3_isIn_n112 (by decide +kernel) (by decide +kernel) (by decide +kernel) ⟨by decide +kernel, by decide +kernel⟩ rfl ⟨by decide, by decide⟩ ⟨by decide, by decide⟩ rfl (Nat.le_of_ble_eq_true rfl) (by decide +kernel) (c_X3_isIn _ _ cI cJ cZ (a0) (N0 col) ) [] [0, 1] [0, 1] [(q 6, .inr (2, [.ref (q 7), .ref (q 8), .ref (q 9), .ref (q 10), .int (nI n), .int fc, .int rc, .int ga])), (q 8, .inl (cI, 168, .inl N0))] rfl (by decide) rfl (by decide) (by decide) [(q 6, .inr (2, [.ref (q 7), .ref (q 8), .ref (q 9), .ref (q 10), .int (nI n), .int fc, .int rc, .int ga])), (q 8, .inl (cI, 168, .inl N0))] rfl (by decide) rfl dX1_has_7 ?_
  exact z_iret (pc := 10) hC hQ hRT (nar_b _) (rfl) (rfl) dX1_has_10

set_option maxRecDepth 100000 in
set_option maxHeartbeats 4000000 in
theorem c_X1_give (l : Launch) (D : va_G) (cI cJ cZ : ClassId) (q : Nat → Nat) (u : GS) (n : Nat) (fc : Int32) (rc : Int32) (cls : Int32) (col : Nat) (ax : Int32) (fcol : Int32) (sec : Int32) (hc : col < 168) (hn : n ≤ 24) : MV l yX1_give wsX1_give { frames := 1, cells := 0, slots := 0, locals := 21 } D (tyL cI cJ cZ) [.ref (q 6), .int cls, .int (nI col), .int ax, .int fcol, .int sec] [(q 6, .inr (2, [.ref (q 7), .ref (q 8), .ref (q 9), .ref (q 10), .int (nI n), .int fc, .int rc, .int u.2.2])), (q 8, .inl (cI, 168, .inl u.1)), (q 9, .inl (cJ, 4032, .inr (.inl u.2.1)))] [(q 6, .inr (2, [.ref (q 7), .ref (q 8), .ref (q 9), .ref (q 10), .int (nI n), .int fc, .int rc, .int ((gv n rc cls col ax fcol sec u).2.2)])), (q 8, .inl (cI, 168, .inl ((gv n rc cls col ax fcol sec u).1))), (q 9, .inl (cJ, 4032, .inr (.inl ((gv n rc cls col ax fcol sec u).2.1))))] := by
  refine metV_of (cc := cX1_give) (maxL := 9) (ret := none) (by decide +kernel) rfl (Nat.le_of_ble_eq_true rfl) ?_
  intro K hC hRm hNL hDis hLis hRT hIni hQ
  have hinX1 : ∀ w ∈ wsX10, w ∈ wsX1_give := by decide +kernel
  refine z_iload_n (pc := 0) hC 1 dX1_give_0 rfl ?_
  refine z_aload_n (pc := 1) hC 0 dX1_give_1 rfl ?_
  refine z_get (pc := 2) (C := RX1) (T := TX1) (N := 8) hC hinX1 0 rfl rfl 1 (by decide) (by decide +kernel) rfl dX1_give_2 ?_
  refine z_iload_n (pc := 5) hC 2 dX1_give_5 rfl ?_
  refine z_iald (pc := 6) (v := (u.1 col)) hC 1 0 rfl rfl (by omega) (by decide) (rfl) dX1_give_6 ?_
  refine z_iconst (pc := 7) (v := (-1)) hC dX1_give_7 (by decide +kernel) ?_
  refine z_ixor (pc := 8) (v := ((u.1 col) ^^^ (-1))) hC dX1_give_8 (rfl) ?_
  refine z_iand (pc := 9) (v := (frs cls (u.1 col))) hC dX1_give_9 (rfl) ?_
  refine z_istore (pc := 10) hC hNL [(6, .int (frs cls (u.1 col))), (0, .ref (q 6)), (1, .int cls), (2, .int (nI col)), (3, .int ax), (4, .int fcol), (5, .int sec)] dX1_give_10 (by decide) rfl ?_
  refine z_iload (pc := 12) hC 0 dX1_give_12 rfl ?_
  refine z_if_ne (pc := 14) (tgt := 18) hC dX1_give_14 (by decide) (fun h14 => ?_) (fun h14 => ?_)
  · refine z_aload_n (pc := 18) hC 1 dX1_give_18 rfl ?_
    refine z_get (pc := 19) (C := RX1) (T := TX1) (N := 8) hC hinX1 0 rfl rfl 1 (by decide) (by decide +kernel) rfl dX1_give_19 ?_
    refine z_iload_n (pc := 22) hC 3 dX1_give_22 rfl ?_
    refine z_dup2 (pc := 23) hC dX1_give_23 rfl rfl ?_
    refine z_iald (pc := 24) (v := (u.1 col)) hC 1 0 rfl rfl (by omega) (by decide) (rfl) dX1_give_24 ?_
    refine z_iload (pc := 25) hC 0 dX1_give_25 rfl ?_
    refine z_ior (pc := 27) (v := ((u.1 col) ||| (frs cls (u.1 col)))) hC dX1_give_27 (rfl) ?_
    refine z_iast (pc := 28) hC 1 0 rfl rfl (by omega) (by decide) [(q 6, .inr (2, [.ref (q 7), .ref (q 8), .ref (q 9), .ref (q 10), .int (nI n), .int fc, .int rc, .int u.2.2])), (q 8, .inl (cI, 168, .inl (upd u.1 col ((u.1 col) ||| (frs cls (u.1 col)))))), (q 9, .inl (cJ, 4032, .inr (.inl u.2.1)))] rfl dX1_give_28 ?_
    refine z_aload_n (pc := 29) hC 1 dX1_give_29 rfl ?_
    refine z_dup (pc := 30) hC dX1_give_30 rfl ?_
    refine z_get (pc := 31) (C := RX1) (T := TX1) (N := 8) hC hinX1 0 rfl rfl 7 (by decide) (by decide +kernel) rfl dX1_give_31 ?_
    refine z_iload (pc := 34) hC 0 dX1_give_34 rfl ?_
    refine z_ior (pc := 36) (v := (u.2.2 ||| (frs cls (u.1 col)))) hC dX1_give_36 (rfl) ?_
    refine z_put (pc := 37) (C := RX1) (T := TX1) (N := 8) hC hinX1 0 rfl rfl 7 (by decide) tyX1 tyX1_ok nmX1 (by decide +kernel) rfl (rfl) (rfl) (Nat.le_of_ble_eq_true rfl) [(q 6, .inr (2, [.ref (q 7), .ref (q 8), .ref (q 9), .ref (q 10), .int (nI n), .int fc, .int rc, .int (u.2.2 ||| (frs cls (u.1 col)))])), (q 8, .inl (cI, 168, .inl (upd u.1 col ((u.1 col) ||| (frs cls (u.1 col)))))), (q 9, .inl (cJ, 4032, .inr (.inl u.2.1)))] rfl dX1_give_37 ?_
    refine z_iconst (pc := 40) (v := (nI 0)) hC dX1_give_40 (by decide +kernel) ?_
    refine z_istore (pc := 41) hC hNL [(7, .int (nI 0)), (6, .int (frs cls (u.1 col))), (0, .ref (q 6)), (1, .int cls), (2, .int (nI col)), (3, .int ax), (4, .int fcol), (5, .int sec)] dX1_give_41 (by decide) rfl ?_
    have L43 : ∀ (fu : Nat) (i : Nat) (Gg : Nat → Int64) (hi : i ≤ n) (hf : n + 1 ≤ i + fu) (hG : Gg = gvG (frs cls (u.1 col)) col rc ax fcol sec u.2.1 i), Z K 0 0 [(q 6, .inr (2, [.ref (q 7), .ref (q 8), .ref (q 9), .ref (q 10), .int (nI n), .int fc, .int rc, .int (u.2.2 ||| (frs cls (u.1 col)))])), (q 8, .inl (cI, 168, .inl (upd u.1 col ((u.1 col) ||| (frs cls (u.1 col)))))), (q 9, .inl (cJ, 4032, .inr (.inl Gg)))] [(7, .int (nI i)), (6, .int (frs cls (u.1 col))), (0, .ref (q 6)), (1, .int cls), (2, .int (nI col)), (3, .int ax), (4, .int fcol), (5, .int sec)] 43 [] := by
      intro fu
      induction fu with
      | zero =>
        intro i Gg hi hf hG
        exact absurd trivial (by omega)
      | succ fu ih43 =>
        intro i Gg hi hf hG
        refine z_iload (pc := 43) hC 0 dX1_give_43 rfl ?_
        refine z_aload_n (pc := 45) hC 2 dX1_give_45 rfl ?_
        refine z_get (pc := 46) (C := RX1) (T := TX1) (N := 8) hC hinX1 0 rfl rfl 4 (by decide) (by decide +kernel) rfl dX1_give_46 ?_
        refine z_ncmp_ge (pc := 49) (tgt := 127) hC dX1_give_49 (by decide) (by omega) (by omega) (fun h49 => ?_) (fun h49 => ?_)
        · exact z_vret (pc := 127) hC hQ hRT (by rw [gv_n h14, hG, show i = n by omega]) dX1_give_127
        · refine z_iload (pc := 52) hC 0 dX1_give_52 rfl ?_
          refine z_iload (pc := 54) hC 1 dX1_give_54 rfl ?_
          refine z_callSN_I (pc := 56) (y := yX3_isIn) (wy := wsX3_isIn) (rm := { frames := 0, cells := 0, slots := 0, locals := 0 }) (As := [.int (nI i), .int (frs cls (u.1 col))]) (rest := []) (na := 2)  (wc := []) (wc2 := []) hC hRm hDis hLis gX1_give_X3_isIn_n112 (by decide +kernel) (by decide +kernel) (by decide +kernel) ⟨by decide +kernel, by decide +kernel⟩ rfl ⟨by decide, by decide⟩ ⟨by decide, by decide⟩ rfl (Nat.le_of_ble_eq_true rfl) (by decide +kernel) (c_X3_isIn _ _ cI cJ cZ (nI i) (frs cls (u.1 col)) ) [] [0, 1, 2] [0, 1, 2] [(q 6, .inr (2, [.ref (q 7), .ref (q 8), .ref (q 9), .ref (q 10), .int (nI n), .int fc, .int rc, .int (u.2.2 ||| (frs cls (u.1 col)))])), (q 8, .inl (cI, 168, .inl (upd u.1 col ((u.1 col) ||| (frs cls (u.1 col)))))), (q 9, .inl (cJ, 4032, .inr (.inl Gg)))] rfl (by decide) rfl (by decide) (by decide) [(q 6, .inr (2, [.ref (q 7), .ref (q 8), .ref (q 9), .ref (q 10), .int (nI n), .int fc, .int rc, .int (u.2.2 ||| (frs cls (u.1 col)))])), (q 8, .inl (cI, 168, .inl (upd u.1 col ((u.1 col) ||| (frs cls (u.1 col)))))), (q 9, .inl (cJ, 4032, .inr (.inl Gg)))] rfl (by decide) rfl dX1_give_56 ?_
          refine z_bif_eq (pc := 59) (tgt := 121) hC dX1_give_59 (by decide) (fun h59 => ?_) (fun h59 => ?_)
          · refine z_iinc (pc := 121) (q := 0) (x := (nI i)) (v := (nI (i + 1))) hC hNL [(7, .int (nI (i + 1))), (6, .int (frs cls (u.1 col))), (0, .ref (q 6)), (1, .int cls), (2, .int (nI col)), (3, .int ax), (4, .int fcol), (5, .int sec)] dX1_give_121 rfl (nI_add _ _) (by decide) rfl ?_
            refine z_goto (pc := 124) (tgt := 43) hC dX1_give_124 (by decide) ?_
            exact ih43 (i + 1) (Gg) (by omega) (by omega) (by first | rw [gvG_t h59, hG] | rw [gvG_f h59, hG])
          · refine z_iload (pc := 62) hC 6 dX1_give_62 rfl ?_
            refine z_sipush (pc := 64) (v := (nI 4095)) hC dX1_give_64 (by decide +kernel) ?_
            refine z_icmp_ne (pc := 67) (tgt := 76) hC dX1_give_67 (by decide) (fun h67 => ?_) (fun h67 => ?_)
            · refine z_iload (pc := 76) hC 0 dX1_give_76 rfl ?_
              refine z_iload (pc := 78) hC 6 dX1_give_78 rfl ?_
              refine z_callSN_I (pc := 80) (y := yX3_codeOf) (wy := wsX3_codeOf) (rm := { frames := 0, cells := 0, slots := 0, locals := 0 }) (As := [.int (nI i), .int fcol]) (rest := []) (na := 2)  (wc := []) (wc2 := []) hC hRm hDis hLis gX1_give_X3_codeOf_n116 (by decide +kernel) (by decide +kernel) (by decide +kernel) ⟨by decide +kernel, by decide +kernel⟩ rfl ⟨by decide, by decide⟩ ⟨by decide, by decide⟩ rfl (Nat.le_of_ble_eq_true rfl) (by decide +kernel) (c_X3_codeOf _ _ cI cJ cZ (nI i) (fcol) ) [] [0, 1, 2] [0, 1, 2] [(q 6, .inr (2, [.ref (q 7), .ref (q 8), .ref (q 9), .ref (q 10), .int (nI n), .int fc, .int rc, .int (u.2.2 ||| (frs cls (u.1 col)))])), (q 8, .inl (cI, 168, .inl (upd u.1 col ((u.1 col) ||| (frs cls (u.1 col)))))), (q 9, .inl (cJ, 4032, .inr (.inl Gg)))] rfl (by decide) rfl (by decide) (by decide) [(q 6, .inr (2, [.ref (q 7), .ref (q 8), .ref (q 9), .ref (q 10), .int (nI n), .int fc, .int rc, .int (u.2.2 ||| (frs cls (u.1 col)))])), (q 8, .inl (cI, 168, .inl (upd u.1 col ((u.1 col) ||| (frs cls (u.1 col)))))), (q 9, .inl (cJ, 4032, .inr (.inl Gg)))] rfl (by decide) rfl dX1_give_80 ?_
              refine z_topi (fstI (nI i) fcol) (by simp [fstI, h67]) ?_
              refine z_istore (pc := 83) hC hNL [(8, .int (fstI (nI i) fcol)), (7, .int (nI i)), (6, .int (frs cls (u.1 col))), (0, .ref (q 6)), (1, .int cls), (2, .int (nI col)), (3, .int ax), (4, .int fcol), (5, .int sec)] dX1_give_83 (by decide) rfl ?_
              refine z_aload_n (pc := 85) hC 3 dX1_give_85 rfl ?_
              refine z_get (pc := 86) (C := RX1) (T := TX1) (N := 8) hC hinX1 0 rfl rfl 2 (by decide) (by decide +kernel) rfl dX1_give_86 ?_
              refine z_iload (pc := 89) hC 1 dX1_give_89 rfl ?_
              refine z_iload_n (pc := 91) hC 5 dX1_give_91 rfl ?_
              refine z_callSN_I (pc := 92) (y := yX3_codeOf) (wy := wsX3_codeOf) (rm := { frames := 0, cells := 0, slots := 0, locals := 0 }) (As := [.int (nI i), .int (nI col)]) (rest := [.ref (q 9)]) (na := 2)  (wc := []) (wc2 := []) hC hRm hDis hLis gX1_give_X3_codeOf_n116 (by decide +kernel) (by decide +kernel) (by decide +kernel) ⟨by decide +kernel, by decide +kernel⟩ rfl ⟨by decide, by decide⟩ ⟨by decide, by decide⟩ rfl (Nat.le_of_ble_eq_true rfl) (by decide +kernel) (c_X3_codeOfN _ _ cI cJ cZ (i) (col) (by omega)) [] [0, 1, 2] [0, 1, 2] [(q 6, .inr (2, [.ref (q 7), .ref (q 8), .ref (q 9), .ref (q 10), .int (nI n), .int fc, .int rc, .int (u.2.2 ||| (frs cls (u.1 col)))])), (q 8, .inl (cI, 168, .inl (upd u.1 col ((u.1 col) ||| (frs cls (u.1 col)))))), (q 9, .inl (cJ, 4032, .inr (.inl Gg)))] rfl (by decide) rfl (by decide) (by decide) [(q 6, .inr (2, [.ref (q 7), .ref (q 8), .ref (q 9), .ref (q 10), .int (nI n), .int fc, .int rc, .int (u.2.2 ||| (frs cls (u.1 col)))])), (q 8, .inl (cI, 168, .inl (upd u.1 col ((u.1 col) ||| (frs cls (u.1 col)))))), (q 9, .inl (cJ, 4032, .inr (.inl Gg)))] rfl (by decide) rfl dX1_give_92 ?_
              refine z_aload_n (pc := 95) hC 3 dX1_give_95 rfl ?_
              refine z_get (pc := 96) (C := RX1) (T := TX1) (N := 8) hC hinX1 0 rfl rfl 6 (by decide) (by decide +kernel) rfl dX1_give_96 ?_
              refine z_i2l (pc := 99) (v := rc.toInt64) hC dX1_give_99 rfl ?_
              refine z_bipush (pc := 100) (v := (nI 32)) hC dX1_give_100 (by decide +kernel) ?_
              refine z_lshl (pc := 102) (v := (rc.toInt64 <<< ((nI 32).toInt64 &&& 63))) hC dX1_give_102 rfl ?_
              refine z_iload_n (pc := 103) hC 6 dX1_give_103 rfl ?_
              refine z_i2l (pc := 104) (v := ax.toInt64) hC dX1_give_104 rfl ?_
              refine z_bipush (pc := 105) (v := (nI 24)) hC dX1_give_105 (by decide +kernel) ?_
              refine z_lshl (pc := 107) (v := (ax.toInt64 <<< ((nI 24).toInt64 &&& 63))) hC dX1_give_107 rfl ?_
              refine z_lor (pc := 108) (v := ((rc.toInt64 <<< ((nI 32).toInt64 &&& 63)) ||| (ax.toInt64 <<< ((nI 24).toInt64 &&& 63)))) hC dX1_give_108 rfl ?_
              refine z_iload (pc := 109) hC 0 dX1_give_109 rfl ?_
              refine z_i2l (pc := 111) (v := ((fstI (nI i) fcol).toInt64)) hC dX1_give_111 rfl ?_
              refine z_bipush (pc := 112) (v := (nI 12)) hC dX1_give_112 (by decide +kernel) ?_
              refine z_lshl (pc := 114) (v := (((fstI (nI i) fcol).toInt64) <<< ((nI 12).toInt64 &&& 63))) hC dX1_give_114 rfl ?_
              refine z_lor (pc := 115) (v := (((rc.toInt64 <<< ((nI 32).toInt64 &&& 63)) ||| (ax.toInt64 <<< ((nI 24).toInt64 &&& 63))) ||| (((fstI (nI i) fcol).toInt64) <<< ((nI 12).toInt64 &&& 63)))) hC dX1_give_115 rfl ?_
              refine z_iload (pc := 116) hC 8 dX1_give_116 rfl ?_
              refine z_i2l (pc := 118) (v := sec.toInt64) hC dX1_give_118 rfl ?_
              refine z_lor (pc := 119) (v := (pkJ rc ax (fstI (nI i) fcol) sec)) hC dX1_give_119 rfl ?_
              refine z_last (pc := 120) hC 2 1 rfl rfl (cod_lt (by omega) hc) (by decide) [(q 6, .inr (2, [.ref (q 7), .ref (q 8), .ref (q 9), .ref (q 10), .int (nI n), .int fc, .int rc, .int (u.2.2 ||| (frs cls (u.1 col)))])), (q 8, .inl (cI, 168, .inl (upd u.1 col ((u.1 col) ||| (frs cls (u.1 col)))))), (q 9, .inl (cJ, 4032, .inr (.inl (vp_updL Gg (cod i col) (pkJ rc ax (fstI (nI i) fcol) sec)))))] rfl dX1_give_120 ?_
              refine z_iinc (pc := 121) (q := 1) (x := (nI i)) (v := (nI (i + 1))) hC hNL [(7, .int (nI (i + 1))), (8, .int (fstI (nI i) fcol)), (6, .int (frs cls (u.1 col))), (0, .ref (q 6)), (1, .int cls), (2, .int (nI col)), (3, .int ax), (4, .int fcol), (5, .int sec)] dX1_give_121 rfl (nI_add _ _) (by decide) rfl ?_
              refine z_goto (pc := 124) (tgt := 43) hC dX1_give_124 (by decide) ?_
              refine z_lv [0, 2, 3, 4, 5, 6, 7, 8] rfl ?_
              exact ih43 (i + 1) (vp_updL Gg (cod i col) (pkJ rc ax (fstI (nI i) fcol) sec)) (by omega) (by omega) (by first | rw [gvG_t h59, hG] | rw [gvG_f h59, hG])
            · refine z_sipush (pc := 70) (v := (nI 4095)) hC dX1_give_70 (by decide +kernel) ?_
              refine z_goto (pc := 73) (tgt := 83) hC dX1_give_73 (by decide) ?_
              refine z_topi (fstI (nI i) fcol) (by simp [fstI, h67]) ?_
              refine z_istore (pc := 83) hC hNL [(8, .int (fstI (nI i) fcol)), (7, .int (nI i)), (6, .int (frs cls (u.1 col))), (0, .ref (q 6)), (1, .int cls), (2, .int (nI col)), (3, .int ax), (4, .int fcol), (5, .int sec)] dX1_give_83 (by decide) rfl ?_
              refine z_aload_n (pc := 85) hC 3 dX1_give_85 rfl ?_
              refine z_get (pc := 86) (C := RX1) (T := TX1) (N := 8) hC hinX1 0 rfl rfl 2 (by decide) (by decide +kernel) rfl dX1_give_86 ?_
              refine z_iload (pc := 89) hC 1 dX1_give_89 rfl ?_
              refine z_iload_n (pc := 91) hC 5 dX1_give_91 rfl ?_
              refine z_callSN_I (pc := 92) (y := yX3_codeOf) (wy := wsX3_codeOf) (rm := { frames := 0, cells := 0, slots := 0, locals := 0 }) (As := [.int (nI i), .int (nI col)]) (rest := [.ref (q 9)]) (na := 2)  (wc := []) (wc2 := []) hC hRm hDis hLis gX1_give_X3_codeOf_n116 (by decide +kernel) (by decide +kernel) (by decide +kernel) ⟨by decide +kernel, by decide +kernel⟩ rfl ⟨by decide, by decide⟩ ⟨by decide, by decide⟩ rfl (Nat.le_of_ble_eq_true rfl) (by decide +kernel) (c_X3_codeOfN _ _ cI cJ cZ (i) (col) (by omega)) [] [0, 1, 2] [0, 1, 2] [(q 6, .inr (2, [.ref (q 7), .ref (q 8), .ref (q 9), .ref (q 10), .int (nI n), .int fc, .int rc, .int (u.2.2 ||| (frs cls (u.1 col)))])), (q 8, .inl (cI, 168, .inl (upd u.1 col ((u.1 col) ||| (frs cls (u.1 col)))))), (q 9, .inl (cJ, 4032, .inr (.inl Gg)))] rfl (by decide) rfl (by decide) (by decide) [(q 6, .inr (2, [.ref (q 7), .ref (q 8), .ref (q 9), .ref (q 10), .int (nI n), .int fc, .int rc, .int (u.2.2 ||| (frs cls (u.1 col)))])), (q 8, .inl (cI, 168, .inl (upd u.1 col ((u.1 col) ||| (frs cls (u.1 col)))))), (q 9, .inl (cJ, 4032, .inr (.inl Gg)))] rfl (by decide) rfl dX1_give_92 ?_
              refine z_aload_n (pc := 95) hC 3 dX1_give_95 rfl ?_
              refine z_get (pc := 96) (C := RX1) (T := TX1) (N := 8) hC hinX1 0 rfl rfl 6 (by decide) (by decide +kernel) rfl dX1_give_96 ?_
              refine z_i2l (pc := 99) (v := rc.toInt64) hC dX1_give_99 rfl ?_
              refine z_bipush (pc := 100) (v := (nI 32)) hC dX1_give_100 (by decide +kernel) ?_
              refine z_lshl (pc := 102) (v := (rc.toInt64 <<< ((nI 32).toInt64 &&& 63))) hC dX1_give_102 rfl ?_
              refine z_iload_n (pc := 103) hC 6 dX1_give_103 rfl ?_
              refine z_i2l (pc := 104) (v := ax.toInt64) hC dX1_give_104 rfl ?_
              refine z_bipush (pc := 105) (v := (nI 24)) hC dX1_give_105 (by decide +kernel) ?_
              refine z_lshl (pc := 107) (v := (ax.toInt64 <<< ((nI 24).toInt64 &&& 63))) hC dX1_give_107 rfl ?_
              refine z_lor (pc := 108) (v := ((rc.toInt64 <<< ((nI 32).toInt64 &&& 63)) ||| (ax.toInt64 <<< ((nI 24).toInt64 &&& 63)))) hC dX1_give_108 rfl ?_
              refine z_iload (pc := 109) hC 0 dX1_give_109 rfl ?_
              refine z_i2l (pc := 111) (v := ((fstI (nI i) fcol).toInt64)) hC dX1_give_111 rfl ?_
              refine z_bipush (pc := 112) (v := (nI 12)) hC dX1_give_112 (by decide +kernel) ?_
              refine z_lshl (pc := 114) (v := (((fstI (nI i) fcol).toInt64) <<< ((nI 12).toInt64 &&& 63))) hC dX1_give_114 rfl ?_
              refine z_lor (pc := 115) (v := (((rc.toInt64 <<< ((nI 32).toInt64 &&& 63)) ||| (ax.toInt64 <<< ((nI 24).toInt64 &&& 63))) ||| (((fstI (nI i) fcol).toInt64) <<< ((nI 12).toInt64 &&& 63)))) hC dX1_give_115 rfl ?_
              refine z_iload (pc := 116) hC 8 dX1_give_116 rfl ?_
              refine z_i2l (pc := 118) (v := sec.toInt64) hC dX1_give_118 rfl ?_
              refine z_lor (pc := 119) (v := (pkJ rc ax (fstI (nI i) fcol) sec)) hC dX1_give_119 rfl ?_
              refine z_last (pc := 120) hC 2 1 rfl rfl (cod_lt (by omega) hc) (by decide) [(q 6, .inr (2, [.ref (q 7), .ref (q 8), .ref (q 9), .ref (q 10), .int (nI n), .int fc, .int rc, .int (u.2.2 ||| (frs cls (u.1 col)))])), (q 8, .inl (cI, 168, .inl (upd u.1 col ((u.1 col) ||| (frs cls (u.1 col)))))), (q 9, .inl (cJ, 4032, .inr (.inl (vp_updL Gg (cod i col) (pkJ rc ax (fstI (nI i) fcol) sec)))))] rfl dX1_give_120 ?_
              refine z_iinc (pc := 121) (q := 1) (x := (nI i)) (v := (nI (i + 1))) hC hNL [(7, .int (nI (i + 1))), (8, .int (fstI (nI i) fcol)), (6, .int (frs cls (u.1 col))), (0, .ref (q 6)), (1, .int cls), (2, .int (nI col)), (3, .int ax), (4, .int fcol), (5, .int sec)] dX1_give_121 rfl (nI_add _ _) (by decide) rfl ?_
              refine z_goto (pc := 124) (tgt := 43) hC dX1_give_124 (by decide) ?_
              refine z_lv [0, 2, 3, 4, 5, 6, 7, 8] rfl ?_
              exact ih43 (i + 1) (vp_updL Gg (cod i col) (pkJ rc ax (fstI (nI i) fcol) sec)) (by omega) (by omega) (by first | rw [gvG_t h59, hG] | rw [gvG_f h59, hG])
    exact L43 (n + 1) (0) (u.2.1) (by omega) (by omega) (rfl)
  · exact z_vret (pc := 17) hC hQ hRT (by rw [gv_e h14]) dX1_give_17

def gvIt (n : Nat) (rc : Int32) (r : Nat) (u : GS) : Nat → GS
  | 0 => u
  | i + 1 => gv n rc (bitI i) (lcol r i) (nI 255) (nI 4095) (nI 4095) (gvIt n rc r u i)

set_option maxRecDepth 100000 in
set_option maxHeartbeats 4000000 in
theorem c_X1_giveOfItself (l : Launch) (D : va_G) (cI cJ cZ : ClassId) (q : Nat → Nat) (u : GS) (n : Nat) (fc : Int32) (rc : Int32) (r : Nat) (hr : r < 6) (hn : n ≤ 24) : MV l yX1_giveOfItself wsX1_giveOfItself { frames := 2, cells := 0, slots := 0, locals := 49 } D (tyL cI cJ cZ) [.ref (q 6), .int (nI r)] [(q 6, .inr (2, [.ref (q 7), .ref (q 8), .ref (q 9), .ref (q 10), .int (nI n), .int fc, .int rc, .int u.2.2])), (q 8, .inl (cI, 168, .inl u.1)), (q 9, .inl (cJ, 4032, .inr (.inl u.2.1)))] [(q 6, .inr (2, [.ref (q 7), .ref (q 8), .ref (q 9), .ref (q 10), .int (nI n), .int fc, .int rc, .int ((gvIt n rc r u n).2.2)])), (q 8, .inl (cI, 168, .inl ((gvIt n rc r u n).1))), (q 9, .inl (cJ, 4032, .inr (.inl ((gvIt n rc r u n).2.1))))] := by
  refine metV_of (cc := cX1_giveOfItself) (maxL := 3) (ret := none) (by decide +kernel) rfl (Nat.le_of_ble_eq_true rfl) ?_
  intro K hC hRm hNL hDis hLis hRT hIni hQ
  have hinX1 : ∀ w ∈ wsX10, w ∈ wsX1_giveOfItself := by decide +kernel
  refine z_iconst (pc := 0) (v := (nI 0)) hC dX1_giveOfItself_0 (by decide +kernel) ?_
  refine z_istore_n (pc := 1) hC hNL [(2, .int (nI 0)), (0, .ref (q 6)), (1, .int (nI r))] dX1_giveOfItself_1 (by decide) rfl ?_
  have L2 : ∀ (fu : Nat) (i : Nat) (w : GS) (hi : i ≤ n) (hf : n + 1 ≤ i + fu) (hw : w = gvIt n rc r u i), Z K 0 0 [(q 6, .inr (2, [.ref (q 7), .ref (q 8), .ref (q 9), .ref (q 10), .int (nI n), .int fc, .int rc, .int w.2.2])), (q 8, .inl (cI, 168, .inl w.1)), (q 9, .inl (cJ, 4032, .inr (.inl w.2.1)))] [(2, .int (nI i)), (0, .ref (q 6)), (1, .int (nI r))] 2 [] := by
    intro fu
    induction fu with
    | zero =>
      intro i w hi hf hw
      exact absurd trivial (by omega)
    | succ fu ih2 =>
      intro i w hi hf hw
      refine z_iload_n (pc := 2) hC 0 dX1_giveOfItself_2 rfl ?_
      refine z_aload_n (pc := 3) hC 1 dX1_giveOfItself_3 rfl ?_
      refine z_get (pc := 4) (C := RX1) (T := TX1) (N := 8) hC hinX1 0 rfl rfl 4 (by decide) (by decide +kernel) rfl dX1_giveOfItself_4 ?_
      refine z_ncmp_ge (pc := 7) (tgt := 37) hC dX1_giveOfItself_7 (by decide) (by omega) (by omega) (fun h7 => ?_) (fun h7 => ?_)
      · exact z_vret (pc := 37) hC hQ hRT (by rw [hw, show i = n by omega]) dX1_giveOfItself_37
      · refine z_aload_n (pc := 10) hC 1 dX1_giveOfItself_10 rfl ?_
        refine z_iconst (pc := 11) (v := (nI 1)) hC dX1_giveOfItself_11 (by decide +kernel) ?_
        refine z_iload_n (pc := 12) hC 0 dX1_giveOfItself_12 rfl ?_
        refine z_ishl (pc := 13) (v := (bitI i)) hC dX1_giveOfItself_13 (rfl) ?_
        refine z_iload_n (pc := 14) hC 2 dX1_giveOfItself_14 rfl ?_
        refine z_iload_n (pc := 15) hC 0 dX1_giveOfItself_15 rfl ?_
        refine z_callSN_I (pc := 16) (y := yX3_linkColumn) (wy := wsX3_linkColumn) (rm := { frames := 0, cells := 0, slots := 0, locals := 0 }) (As := [.int (nI r), .int (nI i)]) (rest := [.int (bitI i), .ref (q 6)]) (na := 2)  (wc := []) (wc2 := []) hC hRm hDis hLis gX1_giveOfItself_X3_linkColumn_n92 (by decide +kernel) (by decide +kernel) (by decide +kernel) ⟨by decide +kernel, by decide +kernel⟩ rfl ⟨by decide, by decide⟩ ⟨by decide, by decide⟩ rfl (Nat.le_of_ble_eq_true rfl) (by decide +kernel) (c_X3_linkColumnN _ _ cI cJ cZ (r) (i) ) [] [0, 1, 2] [0, 1, 2] [(q 6, .inr (2, [.ref (q 7), .ref (q 8), .ref (q 9), .ref (q 10), .int (nI n), .int fc, .int rc, .int w.2.2])), (q 8, .inl (cI, 168, .inl w.1)), (q 9, .inl (cJ, 4032, .inr (.inl w.2.1)))] rfl (by decide) rfl (by decide) (by decide) [(q 6, .inr (2, [.ref (q 7), .ref (q 8), .ref (q 9), .ref (q 10), .int (nI n), .int fc, .int rc, .int w.2.2])), (q 8, .inl (cI, 168, .inl w.1)), (q 9, .inl (cJ, 4032, .inr (.inl w.2.1)))] rfl (by decide) rfl dX1_giveOfItself_16 ?_
        refine z_sipush (pc := 19) (v := (nI 255)) hC dX1_giveOfItself_19 (by decide +kernel) ?_
        refine z_sipush (pc := 22) (v := (nI 4095)) hC dX1_giveOfItself_22 (by decide +kernel) ?_
        refine z_sipush (pc := 25) (v := (nI 4095)) hC dX1_giveOfItself_25 (by decide +kernel) ?_
        refine z_callV_V (pc := 28) (y := yX1_give) (wy := wsX1_give) (rm := { frames := 1, cells := 0, slots := 0, locals := 21 }) (As := [.int (bitI i), .int (nI (lcol r i)), .int (nI 255), .int (nI 4095), .int (nI 4095)]) (rest := []) (na := 5) (C := RX1) (T := TX1) (NF := 8) (ci := 2) (wc := [(q 6, .inr (2, [.ref (q 7), .ref (q 8), .ref (q 9), .ref (q 10), .int (nI n), .int fc, .int rc, .int w.2.2])), (q 8, .inl (cI, 168, .inl w.1)), (q 9, .inl (cJ, 4032, .inr (.inl w.2.1)))]) (wc2 := [(q 6, .inr (2, [.ref (q 7), .ref (q 8), .ref (q 9), .ref (q 10), .int (nI n), .int fc, .int rc, .int ((gv n rc (bitI i) (lcol r i) (nI 255) (nI 4095) (nI 4095) w).2.2)])), (q 8, .inl (cI, 168, .inl ((gv n rc (bitI i) (lcol r i) (nI 255) (nI 4095) (nI 4095) w).1))), (q 9, .inl (cJ, 4032, .inr (.inl ((gv n rc (bitI i) (lcol r i) (nI 255) (nI 4095) (nI 4095) w).2.1))))]) hC hRm hDis hLis 0 rfl rfl gX1_giveOfItself_X1_give ⟨rfl, by decide +kernel, by decide +kernel⟩ rfl ⟨by decide, by decide⟩ ⟨by decide, by decide⟩ rfl (Nat.le_of_ble_eq_true rfl) (by decide +kernel) (c_X1_give _ _ cI cJ cZ (q) (w) (n) (fc) (rc) (bitI i) (lcol r i) (nI 255) (nI 4095) (nI 4095) (lcol_lt hr (by omega)) (hn)) [0, 1, 2] [] [0, 1, 2] [] rfl (by decide) rfl (by decide) (by decide) [(q 6, .inr (2, [.ref (q 7), .ref (q 8), .ref (q 9), .ref (q 10), .int (nI n), .int fc, .int rc, .int ((gv n rc (bitI i) (lcol r i) (nI 255) (nI 4095) (nI 4095) w).2.2)])), (q 8, .inl (cI, 168, .inl ((gv n rc (bitI i) (lcol r i) (nI 255) (nI 4095) (nI 4095) w).1))), (q 9, .inl (cJ, 4032, .inr (.inl ((gv n rc (bitI i) (lcol r i) (nI 255) (nI 4095) (nI 4095) w).2.1))))] rfl (by decide) rfl dX1_giveOfItself_28 ?_
        refine z_iinc (pc := 31) (q := 0) (x := (nI i)) (v := (nI (i + 1))) hC hNL [(2, .int (nI (i + 1))), (0, .ref (q 6)), (1, .int (nI r))] dX1_giveOfItself_31 rfl (nI_add _ _) (by decide) rfl ?_
        refine z_goto (pc := 34) (tgt := 2) hC dX1_giveOfItself_34 (by decide) ?_
        exact ih2 (i + 1) (gv n rc (bitI i) (lcol r i) (nI 255) (nI 4095) (nI 4095) w) (by omega) (by omega) (by rw [hw]; rfl)
  exact L2 (n + 1) (0) (u) (by omega) (by omega) (rfl)
end
section
/-! giveToBoth, giveToWhatHas, giveRole, giveChain, giveByAxiom, giveAtFirst -/
def gvBl (n : Nat) (rc ax fr : Int32) (one other tgt : Nat) (u : GS) : Nat → GS
  | 0 => u
  | i + 1 => if inB (nI i) fr = true then gv n rc (bitI i) tgt ax (nI one) (nI (cod i other)) (gvBl n rc ax fr one other tgt u i) else gvBl n rc ax fr one other tgt u i
theorem gvBl_t {n : Nat} {rc ax fr : Int32} {one other tgt : Nat} {u : GS} {i : Nat} (h : inB (nI i) fr = true) : gvBl n rc ax fr one other tgt u (i + 1) = gv n rc (bitI i) tgt ax (nI one) (nI (cod i other)) (gvBl n rc ax fr one other tgt u i) := if_pos h
theorem gvBl_f {n : Nat} {rc ax fr : Int32} {one other tgt : Nat} {u : GS} {i : Nat} (h : inB (nI i) fr = false) : gvBl n rc ax fr one other tgt u (i + 1) = gvBl n rc ax fr one other tgt u i := if_neg (by rw [h]; decide)
def gvBoth (n : Nat) (rc : Int32) (B : Nat → Int32) (ax : Int32) (one other tgt : Nat) (u : GS) : GS := if frs (B one &&& B other) (u.1 tgt) = 0 then u else gvBl n rc ax (frs (B one &&& B other) (u.1 tgt)) one other tgt u n
theorem gvBoth_e {n : Nat} {rc : Int32} {B : Nat → Int32} {ax : Int32} {one other tgt : Nat} {u : GS} (h : frs (B one &&& B other) (u.1 tgt) = 0) : gvBoth n rc B ax one other tgt u = u := if_pos h
theorem gvBoth_n {n : Nat} {rc : Int32} {B : Nat → Int32} {ax : Int32} {one other tgt : Nat} {u : GS} (h : ¬ frs (B one &&& B other) (u.1 tgt) = 0) : gvBoth n rc B ax one other tgt u = gvBl n rc ax (frs (B one &&& B other) (u.1 tgt)) one other tgt u n := if_neg h
theorem gvBoth_x {n : Nat} {rc : Int32} {B : Nat → Int32} {ax : Int32} {one other tgt : Nat} {u w : GS} {i : Nat} (hi : i = n) (hw : w = gvBl n rc ax (frs (B one &&& B other) (u.1 tgt)) one other tgt u i) (hz : frs (B one &&& B other) (u.1 tgt) = 0 → i = 0) : gvBoth n rc B ax one other tgt u = w := by
  by_cases h : frs (B one &&& B other) (u.1 tgt) = 0
  · rw [gvBoth_e h, hw, hz h]; rfl
  · rw [gvBoth_n h, hw, hi]

set_option maxRecDepth 100000 in
set_option maxHeartbeats 4000000 in
theorem c_X1_giveToBoth (l : Launch) (D : va_G) (cI cJ cZ : ClassId) (q : Nat → Nat) (B : Nat → Int32) (u : GS) (n : Nat) (fc : Int32) (rc : Int32) (ax : Int32) (one : Nat) (other : Nat) (tgt : Nat) (h1 : one < 168) (h2 : other < 168) (h3 : tgt < 168) (hn : n ≤ 24) : MV l yX1_giveToBoth wsX1_giveToBoth { frames := 2, cells := 0, slots := 0, locals := 49 } D (tyL cI cJ cZ) [.ref (q 6), .int ax, .int (nI one), .int (nI other), .int (nI tgt)] [(q 6, .inr (2, [.ref (q 7), .ref (q 8), .ref (q 9), .ref (q 10), .int (nI n), .int fc, .int rc, .int u.2.2])), (q 7, .inl (cI, 168, .inl B)), (q 8, .inl (cI, 168, .inl u.1)), (q 9, .inl (cJ, 4032, .inr (.inl u.2.1)))] [(q 6, .inr (2, [.ref (q 7), .ref (q 8), .ref (q 9), .ref (q 10), .int (nI n), .int fc, .int rc, .int ((gvBoth n rc B ax one other tgt u).2.2)])), (q 7, .inl (cI, 168, .inl B)), (q 8, .inl (cI, 168, .inl ((gvBoth n rc B ax one other tgt u).1))), (q 9, .inl (cJ, 4032, .inr (.inl ((gvBoth n rc B ax one other tgt u).2.1))))] := by
  refine metV_of (cc := cX1_giveToBoth) (maxL := 7) (ret := none) (by decide +kernel) rfl (Nat.le_of_ble_eq_true rfl) ?_
  intro K hC hRm hNL hDis hLis hRT hIni hQ
  have hinX1 : ∀ w ∈ wsX10, w ∈ wsX1_giveToBoth := by decide +kernel
  refine z_aload_n (pc := 0) hC 0 dX1_giveToBoth_0 rfl ?_
  refine z_get (pc := 1) (C := RX1) (T := TX1) (N := 8) hC hinX1 0 rfl rfl 0 (by decide) (by decide +kernel) rfl dX1_giveToBoth_1 ?_
  refine z_iload_n (pc := 4) hC 2 dX1_giveToBoth_4 rfl ?_
  refine z_iald (pc := 5) (v := (B one)) hC 1 0 rfl rfl (by omega) (by decide) (rfl) dX1_giveToBoth_5 ?_
  refine z_aload_n (pc := 6) hC 0 dX1_giveToBoth_6 rfl ?_
  refine z_get (pc := 7) (C := RX1) (T := TX1) (N := 8) hC hinX1 0 rfl rfl 0 (by decide) (by decide +kernel) rfl dX1_giveToBoth_7 ?_
  refine z_iload_n (pc := 10) hC 3 dX1_giveToBoth_10 rfl ?_
  refine z_iald (pc := 11) (v := (B other)) hC 1 0 rfl rfl (by omega) (by decide) (rfl) dX1_giveToBoth_11 ?_
  refine z_iand (pc := 12) (v := ((B one) &&& (B other))) hC dX1_giveToBoth_12 (rfl) ?_
  refine z_aload_n (pc := 13) hC 0 dX1_giveToBoth_13 rfl ?_
  refine z_get (pc := 14) (C := RX1) (T := TX1) (N := 8) hC hinX1 0 rfl rfl 1 (by decide) (by decide +kernel) rfl dX1_giveToBoth_14 ?_
  refine z_iload (pc := 17) hC 4 dX1_giveToBoth_17 rfl ?_
  refine z_iald (pc := 19) (v := (u.1 tgt)) hC 2 0 rfl rfl (by omega) (by decide) (rfl) dX1_giveToBoth_19 ?_
  refine z_iconst (pc := 20) (v := (-1)) hC dX1_giveToBoth_20 (by decide +kernel) ?_
  refine z_ixor (pc := 21) (v := ((u.1 tgt) ^^^ (-1))) hC dX1_giveToBoth_21 (rfl) ?_
  refine z_iand (pc := 22) (v := (frs ((B one) &&& (B other)) (u.1 tgt))) hC dX1_giveToBoth_22 (rfl) ?_
  refine z_istore (pc := 23) hC hNL [(5, .int (frs ((B one) &&& (B other)) (u.1 tgt))), (0, .ref (q 6)), (1, .int ax), (2, .int (nI one)), (3, .int (nI other)), (4, .int (nI tgt))] dX1_giveToBoth_23 (by decide) rfl ?_
  refine z_iconst (pc := 25) (v := (nI 0)) hC dX1_giveToBoth_25 (by decide +kernel) ?_
  refine z_istore (pc := 26) hC hNL [(6, .int (nI 0)), (5, .int (frs ((B one) &&& (B other)) (u.1 tgt))), (0, .ref (q 6)), (1, .int ax), (2, .int (nI one)), (3, .int (nI other)), (4, .int (nI tgt))] dX1_giveToBoth_26 (by decide) rfl ?_
  have L28 : ∀ (fu : Nat) (i : Nat) (w : GS) (hi : i ≤ n) (hf : n + 1 ≤ i + fu) (hw : w = gvBl n rc ax (frs ((B one) &&& (B other)) (u.1 tgt)) one other tgt u i) (hz : frs ((B one) &&& (B other)) (u.1 tgt) = 0 → i = 0), Z K 0 0 [(q 6, .inr (2, [.ref (q 7), .ref (q 8), .ref (q 9), .ref (q 10), .int (nI n), .int fc, .int rc, .int w.2.2])), (q 7, .inl (cI, 168, .inl B)), (q 8, .inl (cI, 168, .inl w.1)), (q 9, .inl (cJ, 4032, .inr (.inl w.2.1)))] [(6, .int (nI i)), (5, .int (frs ((B one) &&& (B other)) (u.1 tgt))), (0, .ref (q 6)), (1, .int ax), (2, .int (nI one)), (3, .int (nI other)), (4, .int (nI tgt))] 28 [] := by
    intro fu
    induction fu with
    | zero =>
      intro i w hi hf hw hz
      exact absurd trivial (by omega)
    | succ fu ih28 =>
      intro i w hi hf hw hz
      refine z_iload (pc := 28) hC 0 dX1_giveToBoth_28 rfl ?_
      refine z_aload_n (pc := 30) hC 2 dX1_giveToBoth_30 rfl ?_
      refine z_get (pc := 31) (C := RX1) (T := TX1) (N := 8) hC hinX1 0 rfl rfl 4 (by decide) (by decide +kernel) rfl dX1_giveToBoth_31 ?_
      refine z_ncmp_ge (pc := 34) (tgt := 76) hC dX1_giveToBoth_34 (by decide) (by omega) (by omega) (fun h34 => ?_) (fun h34 => ?_)
      · exact z_vret (pc := 76) hC hQ hRT (by first | rw [gvBoth_x (by omega) hw hz] | (rw [gvBoth_e h39, hw, hz h39]; rfl)) dX1_giveToBoth_76
      · refine z_iload (pc := 37) hC 1 dX1_giveToBoth_37 rfl ?_
        refine z_if_eq (pc := 39) (tgt := 76) hC dX1_giveToBoth_39 (by decide) (fun h39 => ?_) (fun h39 => ?_)
        · exact z_vret (pc := 76) hC hQ hRT (by first | rw [gvBoth_x (by omega) hw hz] | (rw [gvBoth_e h39, hw, hz h39]; rfl)) dX1_giveToBoth_76
        · refine z_iload (pc := 42) hC 0 dX1_giveToBoth_42 rfl ?_
          refine z_iload (pc := 44) hC 1 dX1_giveToBoth_44 rfl ?_
          refine z_callSN_I (pc := 46) (y := yX3_isIn) (wy := wsX3_isIn) (rm := { frames := 0, cells := 0, slots := 0, locals := 0 }) (As := [.int (nI i), .int (frs ((B one) &&& (B other)) (u.1 tgt))]) (rest := []) (na := 2)  (wc := []) (wc2 := []) hC hRm hDis hLis gX1_giveToBoth_X3_isIn_n112 (by decide +kernel) (by decide +kernel) (by decide +kernel) ⟨by decide +kernel, by decide +kernel⟩ rfl ⟨by decide, by decide⟩ ⟨by decide, by decide⟩ rfl (Nat.le_of_ble_eq_true rfl) (by decide +kernel) (c_X3_isIn _ _ cI cJ cZ (nI i) (frs ((B one) &&& (B other)) (u.1 tgt)) ) [] [0, 1, 2, 3] [0, 1, 2, 3] [(q 6, .inr (2, [.ref (q 7), .ref (q 8), .ref (q 9), .ref (q 10), .int (nI n), .int fc, .int rc, .int w.2.2])), (q 7, .inl (cI, 168, .inl B)), (q 8, .inl (cI, 168, .inl w.1)), (q 9, .inl (cJ, 4032, .inr (.inl w.2.1)))] rfl (by decide) rfl (by decide) (by decide) [(q 6, .inr (2, [.ref (q 7), .ref (q 8), .ref (q 9), .ref (q 10), .int (nI n), .int fc, .int rc, .int w.2.2])), (q 7, .inl (cI, 168, .inl B)), (q 8, .inl (cI, 168, .inl w.1)), (q 9, .inl (cJ, 4032, .inr (.inl w.2.1)))] rfl (by decide) rfl dX1_giveToBoth_46 ?_
          refine z_bif_eq (pc := 49) (tgt := 70) hC dX1_giveToBoth_49 (by decide) (fun h49 => ?_) (fun h49 => ?_)
          · refine z_iinc (pc := 70) (q := 0) (x := (nI i)) (v := (nI (i + 1))) hC hNL [(6, .int (nI (i + 1))), (5, .int (frs ((B one) &&& (B other)) (u.1 tgt))), (0, .ref (q 6)), (1, .int ax), (2, .int (nI one)), (3, .int (nI other)), (4, .int (nI tgt))] dX1_giveToBoth_70 rfl (nI_add _ _) (by decide) rfl ?_
            refine z_goto (pc := 73) (tgt := 28) hC dX1_giveToBoth_73 (by decide) ?_
            exact ih28 (i + 1) (w) (by omega) (by omega) (by first | rw [gvBl_t h49, hw] | rw [gvBl_f h49, hw]) (fun h9 => absurd h9 h39)
          · refine z_aload_n (pc := 52) hC 2 dX1_giveToBoth_52 rfl ?_
            refine z_iconst (pc := 53) (v := (nI 1)) hC dX1_giveToBoth_53 (by decide +kernel) ?_
            refine z_iload (pc := 54) hC 0 dX1_giveToBoth_54 rfl ?_
            refine z_ishl (pc := 56) (v := (bitI i)) hC dX1_giveToBoth_56 (rfl) ?_
            refine z_iload (pc := 57) hC 6 dX1_giveToBoth_57 rfl ?_
            refine z_iload_n (pc := 59) hC 3 dX1_giveToBoth_59 rfl ?_
            refine z_iload_n (pc := 60) hC 4 dX1_giveToBoth_60 rfl ?_
            refine z_iload (pc := 61) hC 0 dX1_giveToBoth_61 rfl ?_
            refine z_iload_n (pc := 63) hC 5 dX1_giveToBoth_63 rfl ?_
            refine z_callSN_I (pc := 64) (y := yX3_codeOf) (wy := wsX3_codeOf) (rm := { frames := 0, cells := 0, slots := 0, locals := 0 }) (As := [.int (nI i), .int (nI other)]) (rest := [.int (nI one), .int ax, .int (nI tgt), .int (bitI i), .ref (q 6)]) (na := 2)  (wc := []) (wc2 := []) hC hRm hDis hLis gX1_giveToBoth_X3_codeOf_n116 (by decide +kernel) (by decide +kernel) (by decide +kernel) ⟨by decide +kernel, by decide +kernel⟩ rfl ⟨by decide, by decide⟩ ⟨by decide, by decide⟩ rfl (Nat.le_of_ble_eq_true rfl) (by decide +kernel) (c_X3_codeOfN _ _ cI cJ cZ (i) (other) (by omega)) [] [0, 1, 2, 3] [0, 1, 2, 3] [(q 6, .inr (2, [.ref (q 7), .ref (q 8), .ref (q 9), .ref (q 10), .int (nI n), .int fc, .int rc, .int w.2.2])), (q 7, .inl (cI, 168, .inl B)), (q 8, .inl (cI, 168, .inl w.1)), (q 9, .inl (cJ, 4032, .inr (.inl w.2.1)))] rfl (by decide) rfl (by decide) (by decide) [(q 6, .inr (2, [.ref (q 7), .ref (q 8), .ref (q 9), .ref (q 10), .int (nI n), .int fc, .int rc, .int w.2.2])), (q 7, .inl (cI, 168, .inl B)), (q 8, .inl (cI, 168, .inl w.1)), (q 9, .inl (cJ, 4032, .inr (.inl w.2.1)))] rfl (by decide) rfl dX1_giveToBoth_64 ?_
            refine z_callV_V (pc := 67) (y := yX1_give) (wy := wsX1_give) (rm := { frames := 1, cells := 0, slots := 0, locals := 21 }) (As := [.int (bitI i), .int (nI tgt), .int ax, .int (nI one), .int (nI (cod i other))]) (rest := []) (na := 5) (C := RX1) (T := TX1) (NF := 8) (ci := 2) (wc := [(q 6, .inr (2, [.ref (q 7), .ref (q 8), .ref (q 9), .ref (q 10), .int (nI n), .int fc, .int rc, .int w.2.2])), (q 8, .inl (cI, 168, .inl w.1)), (q 9, .inl (cJ, 4032, .inr (.inl w.2.1)))]) (wc2 := [(q 6, .inr (2, [.ref (q 7), .ref (q 8), .ref (q 9), .ref (q 10), .int (nI n), .int fc, .int rc, .int ((gv n rc (bitI i) tgt ax (nI one) (nI (cod i other)) w).2.2)])), (q 8, .inl (cI, 168, .inl ((gv n rc (bitI i) tgt ax (nI one) (nI (cod i other)) w).1))), (q 9, .inl (cJ, 4032, .inr (.inl ((gv n rc (bitI i) tgt ax (nI one) (nI (cod i other)) w).2.1))))]) hC hRm hDis hLis 0 rfl rfl gX1_giveToBoth_X1_give ⟨rfl, by decide +kernel, by decide +kernel⟩ rfl ⟨by decide, by decide⟩ ⟨by decide, by decide⟩ rfl (Nat.le_of_ble_eq_true rfl) (by decide +kernel) (c_X1_give _ _ cI cJ cZ (q) (w) (n) (fc) (rc) (bitI i) (tgt) (ax) (nI one) (nI (cod i other)) (h3) (hn)) [0, 2, 3] [1] [1, 0, 2, 3] [(q 7, .inl (cI, 168, .inl B))] rfl (by decide) rfl (by decide) (by decide) [(q 6, .inr (2, [.ref (q 7), .ref (q 8), .ref (q 9), .ref (q 10), .int (nI n), .int fc, .int rc, .int ((gv n rc (bitI i) tgt ax (nI one) (nI (cod i other)) w).2.2)])), (q 7, .inl (cI, 168, .inl B)), (q 8, .inl (cI, 168, .inl ((gv n rc (bitI i) tgt ax (nI one) (nI (cod i other)) w).1))), (q 9, .inl (cJ, 4032, .inr (.inl ((gv n rc (bitI i) tgt ax (nI one) (nI (cod i other)) w).2.1))))] rfl (by decide) rfl dX1_giveToBoth_67 ?_
            refine z_iinc (pc := 70) (q := 0) (x := (nI i)) (v := (nI (i + 1))) hC hNL [(6, .int (nI (i + 1))), (5, .int (frs ((B one) &&& (B other)) (u.1 tgt))), (0, .ref (q 6)), (1, .int ax), (2, .int (nI one)), (3, .int (nI other)), (4, .int (nI tgt))] dX1_giveToBoth_70 rfl (nI_add _ _) (by decide) rfl ?_
            refine z_goto (pc := 73) (tgt := 28) hC dX1_giveToBoth_73 (by decide) ?_
            exact ih28 (i + 1) (gv n rc (bitI i) tgt ax (nI one) (nI (cod i other)) w) (by omega) (by omega) (by first | rw [gvBl_t h49, hw] | rw [gvBl_f h49, hw]) (fun h9 => absurd h9 h39)
  exact L28 (n + 1) (0) (u) (by omega) (by omega) (rfl) (fun _ => rfl)

def gvWh (n : Nat) (rc : Int32) (B : Nat → Int32) (ax : Int32) (r kt tgt : Nat) (u : GS) : Nat → GS
  | 0 => u
  | i + 1 => if inB (nI i) (B kt) = true then gv n rc (B (lcol r i)) tgt ax (nI (lcol r i)) (nI (cod i kt)) (gvWh n rc B ax r kt tgt u i) else gvWh n rc B ax r kt tgt u i
theorem gvWh_t {n : Nat} {rc : Int32} {B : Nat → Int32} {ax : Int32} {r kt tgt : Nat} {u : GS} {i : Nat} (h : inB (nI i) (B kt) = true) : gvWh n rc B ax r kt tgt u (i + 1) = gv n rc (B (lcol r i)) tgt ax (nI (lcol r i)) (nI (cod i kt)) (gvWh n rc B ax r kt tgt u i) := if_pos h
theorem gvWh_f {n : Nat} {rc : Int32} {B : Nat → Int32} {ax : Int32} {r kt tgt : Nat} {u : GS} {i : Nat} (h : inB (nI i) (B kt) = false) : gvWh n rc B ax r kt tgt u (i + 1) = gvWh n rc B ax r kt tgt u i := if_neg (by rw [h]; decide)

set_option maxRecDepth 100000 in
set_option maxHeartbeats 4000000 in
theorem c_X1_giveToWhatHas (l : Launch) (D : va_G) (cI cJ cZ : ClassId) (q : Nat → Nat) (B : Nat → Int32) (u : GS) (n : Nat) (fc : Int32) (rc : Int32) (ax : Int32) (r : Nat) (kt : Nat) (tgt : Nat) (h1 : r < 6) (h2 : kt < 168) (h3 : tgt < 168) (hn : n ≤ 24) : MV l yX1_giveToWhatHas wsX1_giveToWhatHas { frames := 2, cells := 0, slots := 0, locals := 49 } D (tyL cI cJ cZ) [.ref (q 6), .int ax, .int (nI r), .int (nI kt), .int (nI tgt)] [(q 6, .inr (2, [.ref (q 7), .ref (q 8), .ref (q 9), .ref (q 10), .int (nI n), .int fc, .int rc, .int u.2.2])), (q 7, .inl (cI, 168, .inl B)), (q 8, .inl (cI, 168, .inl u.1)), (q 9, .inl (cJ, 4032, .inr (.inl u.2.1)))] [(q 6, .inr (2, [.ref (q 7), .ref (q 8), .ref (q 9), .ref (q 10), .int (nI n), .int fc, .int rc, .int ((gvWh n rc B ax r kt tgt u n).2.2)])), (q 7, .inl (cI, 168, .inl B)), (q 8, .inl (cI, 168, .inl ((gvWh n rc B ax r kt tgt u n).1))), (q 9, .inl (cJ, 4032, .inr (.inl ((gvWh n rc B ax r kt tgt u n).2.1))))] := by
  refine metV_of (cc := cX1_giveToWhatHas) (maxL := 8) (ret := none) (by decide +kernel) rfl (Nat.le_of_ble_eq_true rfl) ?_
  intro K hC hRm hNL hDis hLis hRT hIni hQ
  have hinX1 : ∀ w ∈ wsX10, w ∈ wsX1_giveToWhatHas := by decide +kernel
  refine z_aload_n (pc := 0) hC 0 dX1_giveToWhatHas_0 rfl ?_
  refine z_get (pc := 1) (C := RX1) (T := TX1) (N := 8) hC hinX1 0 rfl rfl 0 (by decide) (by decide +kernel) rfl dX1_giveToWhatHas_1 ?_
  refine z_iload_n (pc := 4) hC 3 dX1_giveToWhatHas_4 rfl ?_
  refine z_iald (pc := 5) (v := (B kt)) hC 1 0 rfl rfl (by omega) (by decide) (rfl) dX1_giveToWhatHas_5 ?_
  refine z_istore (pc := 6) hC hNL [(5, .int (B kt)), (0, .ref (q 6)), (1, .int ax), (2, .int (nI r)), (3, .int (nI kt)), (4, .int (nI tgt))] dX1_giveToWhatHas_6 (by decide) rfl ?_
  refine z_iconst (pc := 8) (v := (nI 0)) hC dX1_giveToWhatHas_8 (by decide +kernel) ?_
  refine z_istore (pc := 9) hC hNL [(6, .int (nI 0)), (5, .int (B kt)), (0, .ref (q 6)), (1, .int ax), (2, .int (nI r)), (3, .int (nI kt)), (4, .int (nI tgt))] dX1_giveToWhatHas_9 (by decide) rfl ?_
  have L11 : ∀ (fu : Nat) (i : Nat) (w : GS) (hi : i ≤ n) (hf : n + 1 ≤ i + fu) (hw : w = gvWh n rc B ax r kt tgt u i), Z K 0 0 [(q 6, .inr (2, [.ref (q 7), .ref (q 8), .ref (q 9), .ref (q 10), .int (nI n), .int fc, .int rc, .int w.2.2])), (q 7, .inl (cI, 168, .inl B)), (q 8, .inl (cI, 168, .inl w.1)), (q 9, .inl (cJ, 4032, .inr (.inl w.2.1)))] [(6, .int (nI i)), (5, .int (B kt)), (0, .ref (q 6)), (1, .int ax), (2, .int (nI r)), (3, .int (nI kt)), (4, .int (nI tgt))] 11 [] := by
    intro fu
    induction fu with
    | zero =>
      intro i w hi hf hw
      exact absurd trivial (by omega)
    | succ fu ih11 =>
      intro i w hi hf hw
      refine z_iload (pc := 11) hC 0 dX1_giveToWhatHas_11 rfl ?_
      refine z_aload_n (pc := 13) hC 2 dX1_giveToWhatHas_13 rfl ?_
      refine z_get (pc := 14) (C := RX1) (T := TX1) (N := 8) hC hinX1 0 rfl rfl 4 (by decide) (by decide +kernel) rfl dX1_giveToWhatHas_14 ?_
      refine z_ncmp_ge (pc := 17) (tgt := 66) hC dX1_giveToWhatHas_17 (by decide) (by omega) (by omega) (fun h17 => ?_) (fun h17 => ?_)
      · exact z_vret (pc := 66) hC hQ hRT (by rw [hw, show i = n by omega]) dX1_giveToWhatHas_66
      · refine z_iload (pc := 20) hC 0 dX1_giveToWhatHas_20 rfl ?_
        refine z_iload (pc := 22) hC 1 dX1_giveToWhatHas_22 rfl ?_
        refine z_callSN_I (pc := 24) (y := yX3_isIn) (wy := wsX3_isIn) (rm := { frames := 0, cells := 0, slots := 0, locals := 0 }) (As := [.int (nI i), .int (B kt)]) (rest := []) (na := 2)  (wc := []) (wc2 := []) hC hRm hDis hLis gX1_giveToWhatHas_X3_isIn_n112 (by decide +kernel) (by decide +kernel) (by decide +kernel) ⟨by decide +kernel, by decide +kernel⟩ rfl ⟨by decide, by decide⟩ ⟨by decide, by decide⟩ rfl (Nat.le_of_ble_eq_true rfl) (by decide +kernel) (c_X3_isIn _ _ cI cJ cZ (nI i) (B kt) ) [] [0, 1, 2, 3] [0, 1, 2, 3] [(q 6, .inr (2, [.ref (q 7), .ref (q 8), .ref (q 9), .ref (q 10), .int (nI n), .int fc, .int rc, .int w.2.2])), (q 7, .inl (cI, 168, .inl B)), (q 8, .inl (cI, 168, .inl w.1)), (q 9, .inl (cJ, 4032, .inr (.inl w.2.1)))] rfl (by decide) rfl (by decide) (by decide) [(q 6, .inr (2, [.ref (q 7), .ref (q 8), .ref (q 9), .ref (q 10), .int (nI n), .int fc, .int rc, .int w.2.2])), (q 7, .inl (cI, 168, .inl B)), (q 8, .inl (cI, 168, .inl w.1)), (q 9, .inl (cJ, 4032, .inr (.inl w.2.1)))] rfl (by decide) rfl dX1_giveToWhatHas_24 ?_
        refine z_bif_eq (pc := 27) (tgt := 60) hC dX1_giveToWhatHas_27 (by decide) (fun h27 => ?_) (fun h27 => ?_)
        · refine z_iinc (pc := 60) (q := 0) (x := (nI i)) (v := (nI (i + 1))) hC hNL [(6, .int (nI (i + 1))), (5, .int (B kt)), (0, .ref (q 6)), (1, .int ax), (2, .int (nI r)), (3, .int (nI kt)), (4, .int (nI tgt))] dX1_giveToWhatHas_60 rfl (nI_add _ _) (by decide) rfl ?_
          refine z_goto (pc := 63) (tgt := 11) hC dX1_giveToWhatHas_63 (by decide) ?_
          exact ih11 (i + 1) (w) (by omega) (by omega) (by first | rw [gvWh_t h27, hw] | rw [gvWh_f h27, hw])
        · refine z_iload_n (pc := 30) hC 4 dX1_giveToWhatHas_30 rfl ?_
          refine z_iload (pc := 31) hC 0 dX1_giveToWhatHas_31 rfl ?_
          refine z_callSN_I (pc := 33) (y := yX3_linkColumn) (wy := wsX3_linkColumn) (rm := { frames := 0, cells := 0, slots := 0, locals := 0 }) (As := [.int (nI r), .int (nI i)]) (rest := []) (na := 2)  (wc := []) (wc2 := []) hC hRm hDis hLis gX1_giveToWhatHas_X3_linkColumn_n92 (by decide +kernel) (by decide +kernel) (by decide +kernel) ⟨by decide +kernel, by decide +kernel⟩ rfl ⟨by decide, by decide⟩ ⟨by decide, by decide⟩ rfl (Nat.le_of_ble_eq_true rfl) (by decide +kernel) (c_X3_linkColumnN _ _ cI cJ cZ (r) (i) ) [] [0, 1, 2, 3] [0, 1, 2, 3] [(q 6, .inr (2, [.ref (q 7), .ref (q 8), .ref (q 9), .ref (q 10), .int (nI n), .int fc, .int rc, .int w.2.2])), (q 7, .inl (cI, 168, .inl B)), (q 8, .inl (cI, 168, .inl w.1)), (q 9, .inl (cJ, 4032, .inr (.inl w.2.1)))] rfl (by decide) rfl (by decide) (by decide) [(q 6, .inr (2, [.ref (q 7), .ref (q 8), .ref (q 9), .ref (q 10), .int (nI n), .int fc, .int rc, .int w.2.2])), (q 7, .inl (cI, 168, .inl B)), (q 8, .inl (cI, 168, .inl w.1)), (q 9, .inl (cJ, 4032, .inr (.inl w.2.1)))] rfl (by decide) rfl dX1_giveToWhatHas_33 ?_
          refine z_istore (pc := 36) hC hNL [(7, .int (nI (lcol r i))), (6, .int (nI i)), (5, .int (B kt)), (0, .ref (q 6)), (1, .int ax), (2, .int (nI r)), (3, .int (nI kt)), (4, .int (nI tgt))] dX1_giveToWhatHas_36 (by decide) rfl ?_
          refine z_aload_n (pc := 38) hC 3 dX1_giveToWhatHas_38 rfl ?_
          refine z_aload_n (pc := 39) hC 3 dX1_giveToWhatHas_39 rfl ?_
          refine z_get (pc := 40) (C := RX1) (T := TX1) (N := 8) hC hinX1 0 rfl rfl 0 (by decide) (by decide +kernel) rfl dX1_giveToWhatHas_40 ?_
          refine z_iload (pc := 43) hC 0 dX1_giveToWhatHas_43 rfl ?_
          refine z_iald (pc := 45) (v := (B (lcol r i))) hC 1 0 rfl rfl (lcol_lt h1 (by omega)) (by decide) (rfl) dX1_giveToWhatHas_45 ?_
          refine z_iload (pc := 46) hC 7 dX1_giveToWhatHas_46 rfl ?_
          refine z_iload_n (pc := 48) hC 4 dX1_giveToWhatHas_48 rfl ?_
          refine z_iload (pc := 49) hC 0 dX1_giveToWhatHas_49 rfl ?_
          refine z_iload (pc := 51) hC 1 dX1_giveToWhatHas_51 rfl ?_
          refine z_iload_n (pc := 53) hC 6 dX1_giveToWhatHas_53 rfl ?_
          refine z_callSN_I (pc := 54) (y := yX3_codeOf) (wy := wsX3_codeOf) (rm := { frames := 0, cells := 0, slots := 0, locals := 0 }) (As := [.int (nI i), .int (nI kt)]) (rest := [.int (nI (lcol r i)), .int ax, .int (nI tgt), .int (B (lcol r i)), .ref (q 6)]) (na := 2)  (wc := []) (wc2 := []) hC hRm hDis hLis gX1_giveToWhatHas_X3_codeOf_n116 (by decide +kernel) (by decide +kernel) (by decide +kernel) ⟨by decide +kernel, by decide +kernel⟩ rfl ⟨by decide, by decide⟩ ⟨by decide, by decide⟩ rfl (Nat.le_of_ble_eq_true rfl) (by decide +kernel) (c_X3_codeOfN _ _ cI cJ cZ (i) (kt) (by omega)) [] [0, 1, 2, 3] [0, 1, 2, 3] [(q 6, .inr (2, [.ref (q 7), .ref (q 8), .ref (q 9), .ref (q 10), .int (nI n), .int fc, .int rc, .int w.2.2])), (q 7, .inl (cI, 168, .inl B)), (q 8, .inl (cI, 168, .inl w.1)), (q 9, .inl (cJ, 4032, .inr (.inl w.2.1)))] rfl (by decide) rfl (by decide) (by decide) [(q 6, .inr (2, [.ref (q 7), .ref (q 8), .ref (q 9), .ref (q 10), .int (nI n), .int fc, .int rc, .int w.2.2])), (q 7, .inl (cI, 168, .inl B)), (q 8, .inl (cI, 168, .inl w.1)), (q 9, .inl (cJ, 4032, .inr (.inl w.2.1)))] rfl (by decide) rfl dX1_giveToWhatHas_54 ?_
          refine z_callV_V (pc := 57) (y := yX1_give) (wy := wsX1_give) (rm := { frames := 1, cells := 0, slots := 0, locals := 21 }) (As := [.int (B (lcol r i)), .int (nI tgt), .int ax, .int (nI (lcol r i)), .int (nI (cod i kt))]) (rest := []) (na := 5) (C := RX1) (T := TX1) (NF := 8) (ci := 2) (wc := [(q 6, .inr (2, [.ref (q 7), .ref (q 8), .ref (q 9), .ref (q 10), .int (nI n), .int fc, .int rc, .int w.2.2])), (q 8, .inl (cI, 168, .inl w.1)), (q 9, .inl (cJ, 4032, .inr (.inl w.2.1)))]) (wc2 := [(q 6, .inr (2, [.ref (q 7), .ref (q 8), .ref (q 9), .ref (q 10), .int (nI n), .int fc, .int rc, .int ((gv n rc (B (lcol r i)) tgt ax (nI (lcol r i)) (nI (cod i kt)) w).2.2)])), (q 8, .inl (cI, 168, .inl ((gv n rc (B (lcol r i)) tgt ax (nI (lcol r i)) (nI (cod i kt)) w).1))), (q 9, .inl (cJ, 4032, .inr (.inl ((gv n rc (B (lcol r i)) tgt ax (nI (lcol r i)) (nI (cod i kt)) w).2.1))))]) hC hRm hDis hLis 0 rfl rfl gX1_giveToWhatHas_X1_give ⟨rfl, by decide +kernel, by decide +kernel⟩ rfl ⟨by decide, by decide⟩ ⟨by decide, by decide⟩ rfl (Nat.le_of_ble_eq_true rfl) (by decide +kernel) (c_X1_give _ _ cI cJ cZ (q) (w) (n) (fc) (rc) (B (lcol r i)) (tgt) (ax) (nI (lcol r i)) (nI (cod i kt)) (h3) (hn)) [0, 2, 3] [1] [1, 0, 2, 3] [(q 7, .inl (cI, 168, .inl B))] rfl (by decide) rfl (by decide) (by decide) [(q 6, .inr (2, [.ref (q 7), .ref (q 8), .ref (q 9), .ref (q 10), .int (nI n), .int fc, .int rc, .int ((gv n rc (B (lcol r i)) tgt ax (nI (lcol r i)) (nI (cod i kt)) w).2.2)])), (q 7, .inl (cI, 168, .inl B)), (q 8, .inl (cI, 168, .inl ((gv n rc (B (lcol r i)) tgt ax (nI (lcol r i)) (nI (cod i kt)) w).1))), (q 9, .inl (cJ, 4032, .inr (.inl ((gv n rc (B (lcol r i)) tgt ax (nI (lcol r i)) (nI (cod i kt)) w).2.1))))] rfl (by decide) rfl dX1_giveToWhatHas_57 ?_
          refine z_iinc (pc := 60) (q := 1) (x := (nI i)) (v := (nI (i + 1))) hC hNL [(6, .int (nI (i + 1))), (7, .int (nI (lcol r i))), (5, .int (B kt)), (0, .ref (q 6)), (1, .int ax), (2, .int (nI r)), (3, .int (nI kt)), (4, .int (nI tgt))] dX1_giveToWhatHas_60 rfl (nI_add _ _) (by decide) rfl ?_
          refine z_goto (pc := 63) (tgt := 11) hC dX1_giveToWhatHas_63 (by decide) ?_
          refine z_lv [0, 2, 3, 4, 5, 6, 7] rfl ?_
          exact ih11 (i + 1) (gv n rc (B (lcol r i)) tgt ax (nI (lcol r i)) (nI (cod i kt)) w) (by omega) (by omega) (by first | rw [gvWh_t h27, hw] | rw [gvWh_f h27, hw])
  exact L11 (n + 1) (0) (u) (by omega) (by omega) (rfl)

def gvRo (n : Nat) (rc : Int32) (B : Nat → Int32) (ax : Int32) (r s0 : Nat) (u : GS) : Nat → GS
  | 0 => u
  | i + 1 => gv n rc (B (lcol r i)) (lcol s0 i) ax (nI (lcol r i)) (nI 4095) (gvRo n rc B ax r s0 u i)

set_option maxRecDepth 100000 in
set_option maxHeartbeats 4000000 in
theorem c_X1_giveRole (l : Launch) (D : va_G) (cI cJ cZ : ClassId) (q : Nat → Nat) (B : Nat → Int32) (u : GS) (n : Nat) (fc : Int32) (rc : Int32) (ax : Int32) (r : Nat) (s0 : Nat) (h1 : r < 6) (h2 : s0 < 6) (hn : n ≤ 24) : MV l yX1_giveRole wsX1_giveRole { frames := 2, cells := 0, slots := 0, locals := 49 } D (tyL cI cJ cZ) [.ref (q 6), .int ax, .int (nI r), .int (nI s0)] [(q 6, .inr (2, [.ref (q 7), .ref (q 8), .ref (q 9), .ref (q 10), .int (nI n), .int fc, .int rc, .int u.2.2])), (q 7, .inl (cI, 168, .inl B)), (q 8, .inl (cI, 168, .inl u.1)), (q 9, .inl (cJ, 4032, .inr (.inl u.2.1)))] [(q 6, .inr (2, [.ref (q 7), .ref (q 8), .ref (q 9), .ref (q 10), .int (nI n), .int fc, .int rc, .int ((gvRo n rc B ax r s0 u n).2.2)])), (q 7, .inl (cI, 168, .inl B)), (q 8, .inl (cI, 168, .inl ((gvRo n rc B ax r s0 u n).1))), (q 9, .inl (cJ, 4032, .inr (.inl ((gvRo n rc B ax r s0 u n).2.1))))] := by
  refine metV_of (cc := cX1_giveRole) (maxL := 6) (ret := none) (by decide +kernel) rfl (Nat.le_of_ble_eq_true rfl) ?_
  intro K hC hRm hNL hDis hLis hRT hIni hQ
  have hinX1 : ∀ w ∈ wsX10, w ∈ wsX1_giveRole := by decide +kernel
  refine z_iconst (pc := 0) (v := (nI 0)) hC dX1_giveRole_0 (by decide +kernel) ?_
  refine z_istore (pc := 1) hC hNL [(4, .int (nI 0)), (0, .ref (q 6)), (1, .int ax), (2, .int (nI r)), (3, .int (nI s0))] dX1_giveRole_1 (by decide) rfl ?_
  have L3 : ∀ (fu : Nat) (i : Nat) (w : GS) (hi : i ≤ n) (hf : n + 1 ≤ i + fu) (hw : w = gvRo n rc B ax r s0 u i), Z K 0 0 [(q 6, .inr (2, [.ref (q 7), .ref (q 8), .ref (q 9), .ref (q 10), .int (nI n), .int fc, .int rc, .int w.2.2])), (q 7, .inl (cI, 168, .inl B)), (q 8, .inl (cI, 168, .inl w.1)), (q 9, .inl (cJ, 4032, .inr (.inl w.2.1)))] [(4, .int (nI i)), (0, .ref (q 6)), (1, .int ax), (2, .int (nI r)), (3, .int (nI s0))] 3 [] := by
    intro fu
    induction fu with
    | zero =>
      intro i w hi hf hw
      exact absurd trivial (by omega)
    | succ fu ih3 =>
      intro i w hi hf hw
      refine z_iload (pc := 3) hC 0 dX1_giveRole_3 rfl ?_
      refine z_aload_n (pc := 5) hC 1 dX1_giveRole_5 rfl ?_
      refine z_get (pc := 6) (C := RX1) (T := TX1) (N := 8) hC hinX1 0 rfl rfl 4 (by decide) (by decide +kernel) rfl dX1_giveRole_6 ?_
      refine z_ncmp_ge (pc := 9) (tgt := 49) hC dX1_giveRole_9 (by decide) (by omega) (by omega) (fun h9 => ?_) (fun h9 => ?_)
      · exact z_vret (pc := 49) hC hQ hRT (by rw [hw, show i = n by omega]) dX1_giveRole_49
      · refine z_iload_n (pc := 12) hC 3 dX1_giveRole_12 rfl ?_
        refine z_iload (pc := 13) hC 0 dX1_giveRole_13 rfl ?_
        refine z_callSN_I (pc := 15) (y := yX3_linkColumn) (wy := wsX3_linkColumn) (rm := { frames := 0, cells := 0, slots := 0, locals := 0 }) (As := [.int (nI r), .int (nI i)]) (rest := []) (na := 2)  (wc := []) (wc2 := []) hC hRm hDis hLis gX1_giveRole_X3_linkColumn_n92 (by decide +kernel) (by decide +kernel) (by decide +kernel) ⟨by decide +kernel, by decide +kernel⟩ rfl ⟨by decide, by decide⟩ ⟨by decide, by decide⟩ rfl (Nat.le_of_ble_eq_true rfl) (by decide +kernel) (c_X3_linkColumnN _ _ cI cJ cZ (r) (i) ) [] [0, 1, 2, 3] [0, 1, 2, 3] [(q 6, .inr (2, [.ref (q 7), .ref (q 8), .ref (q 9), .ref (q 10), .int (nI n), .int fc, .int rc, .int w.2.2])), (q 7, .inl (cI, 168, .inl B)), (q 8, .inl (cI, 168, .inl w.1)), (q 9, .inl (cJ, 4032, .inr (.inl w.2.1)))] rfl (by decide) rfl (by decide) (by decide) [(q 6, .inr (2, [.ref (q 7), .ref (q 8), .ref (q 9), .ref (q 10), .int (nI n), .int fc, .int rc, .int w.2.2])), (q 7, .inl (cI, 168, .inl B)), (q 8, .inl (cI, 168, .inl w.1)), (q 9, .inl (cJ, 4032, .inr (.inl w.2.1)))] rfl (by decide) rfl dX1_giveRole_15 ?_
        refine z_istore (pc := 18) hC hNL [(5, .int (nI (lcol r i))), (4, .int (nI i)), (0, .ref (q 6)), (1, .int ax), (2, .int (nI r)), (3, .int (nI s0))] dX1_giveRole_18 (by decide) rfl ?_
        refine z_aload_n (pc := 20) hC 2 dX1_giveRole_20 rfl ?_
        refine z_aload_n (pc := 21) hC 2 dX1_giveRole_21 rfl ?_
        refine z_get (pc := 22) (C := RX1) (T := TX1) (N := 8) hC hinX1 0 rfl rfl 0 (by decide) (by decide +kernel) rfl dX1_giveRole_22 ?_
        refine z_iload (pc := 25) hC 0 dX1_giveRole_25 rfl ?_
        refine z_iald (pc := 27) (v := (B (lcol r i))) hC 1 0 rfl rfl (lcol_lt h1 (by omega)) (by decide) (rfl) dX1_giveRole_27 ?_
        refine z_iload_n (pc := 28) hC 5 dX1_giveRole_28 rfl ?_
        refine z_iload (pc := 29) hC 1 dX1_giveRole_29 rfl ?_
        refine z_callSN_I (pc := 31) (y := yX3_linkColumn) (wy := wsX3_linkColumn) (rm := { frames := 0, cells := 0, slots := 0, locals := 0 }) (As := [.int (nI s0), .int (nI i)]) (rest := [.int (B (lcol r i)), .ref (q 6)]) (na := 2)  (wc := []) (wc2 := []) hC hRm hDis hLis gX1_giveRole_X3_linkColumn_n92 (by decide +kernel) (by decide +kernel) (by decide +kernel) ⟨by decide +kernel, by decide +kernel⟩ rfl ⟨by decide, by decide⟩ ⟨by decide, by decide⟩ rfl (Nat.le_of_ble_eq_true rfl) (by decide +kernel) (c_X3_linkColumnN _ _ cI cJ cZ (s0) (i) ) [] [0, 1, 2, 3] [0, 1, 2, 3] [(q 6, .inr (2, [.ref (q 7), .ref (q 8), .ref (q 9), .ref (q 10), .int (nI n), .int fc, .int rc, .int w.2.2])), (q 7, .inl (cI, 168, .inl B)), (q 8, .inl (cI, 168, .inl w.1)), (q 9, .inl (cJ, 4032, .inr (.inl w.2.1)))] rfl (by decide) rfl (by decide) (by decide) [(q 6, .inr (2, [.ref (q 7), .ref (q 8), .ref (q 9), .ref (q 10), .int (nI n), .int fc, .int rc, .int w.2.2])), (q 7, .inl (cI, 168, .inl B)), (q 8, .inl (cI, 168, .inl w.1)), (q 9, .inl (cJ, 4032, .inr (.inl w.2.1)))] rfl (by decide) rfl dX1_giveRole_31 ?_
        refine z_iload_n (pc := 34) hC 3 dX1_giveRole_34 rfl ?_
        refine z_iload (pc := 35) hC 0 dX1_giveRole_35 rfl ?_
        refine z_sipush (pc := 37) (v := (nI 4095)) hC dX1_giveRole_37 (by decide +kernel) ?_
        refine z_callV_V (pc := 40) (y := yX1_give) (wy := wsX1_give) (rm := { frames := 1, cells := 0, slots := 0, locals := 21 }) (As := [.int (B (lcol r i)), .int (nI (lcol s0 i)), .int ax, .int (nI (lcol r i)), .int (nI 4095)]) (rest := []) (na := 5) (C := RX1) (T := TX1) (NF := 8) (ci := 2) (wc := [(q 6, .inr (2, [.ref (q 7), .ref (q 8), .ref (q 9), .ref (q 10), .int (nI n), .int fc, .int rc, .int w.2.2])), (q 8, .inl (cI, 168, .inl w.1)), (q 9, .inl (cJ, 4032, .inr (.inl w.2.1)))]) (wc2 := [(q 6, .inr (2, [.ref (q 7), .ref (q 8), .ref (q 9), .ref (q 10), .int (nI n), .int fc, .int rc, .int ((gv n rc (B (lcol r i)) (lcol s0 i) ax (nI (lcol r i)) (nI 4095) w).2.2)])), (q 8, .inl (cI, 168, .inl ((gv n rc (B (lcol r i)) (lcol s0 i) ax (nI (lcol r i)) (nI 4095) w).1))), (q 9, .inl (cJ, 4032, .inr (.inl ((gv n rc (B (lcol r i)) (lcol s0 i) ax (nI (lcol r i)) (nI 4095) w).2.1))))]) hC hRm hDis hLis 0 rfl rfl gX1_giveRole_X1_give ⟨rfl, by decide +kernel, by decide +kernel⟩ rfl ⟨by decide, by decide⟩ ⟨by decide, by decide⟩ rfl (Nat.le_of_ble_eq_true rfl) (by decide +kernel) (c_X1_give _ _ cI cJ cZ (q) (w) (n) (fc) (rc) (B (lcol r i)) (lcol s0 i) (ax) (nI (lcol r i)) (nI 4095) (lcol_lt h2 (by omega)) (hn)) [0, 2, 3] [1] [1, 0, 2, 3] [(q 7, .inl (cI, 168, .inl B))] rfl (by decide) rfl (by decide) (by decide) [(q 6, .inr (2, [.ref (q 7), .ref (q 8), .ref (q 9), .ref (q 10), .int (nI n), .int fc, .int rc, .int ((gv n rc (B (lcol r i)) (lcol s0 i) ax (nI (lcol r i)) (nI 4095) w).2.2)])), (q 7, .inl (cI, 168, .inl B)), (q 8, .inl (cI, 168, .inl ((gv n rc (B (lcol r i)) (lcol s0 i) ax (nI (lcol r i)) (nI 4095) w).1))), (q 9, .inl (cJ, 4032, .inr (.inl ((gv n rc (B (lcol r i)) (lcol s0 i) ax (nI (lcol r i)) (nI 4095) w).2.1))))] rfl (by decide) rfl dX1_giveRole_40 ?_
        refine z_iinc (pc := 43) (q := 1) (x := (nI i)) (v := (nI (i + 1))) hC hNL [(4, .int (nI (i + 1))), (5, .int (nI (lcol r i))), (0, .ref (q 6)), (1, .int ax), (2, .int (nI r)), (3, .int (nI s0))] dX1_giveRole_43 rfl (nI_add _ _) (by decide) rfl ?_
        refine z_goto (pc := 46) (tgt := 3) hC dX1_giveRole_46 (by decide) ?_
        refine z_lv [0, 2, 3, 4, 5] rfl ?_
        exact ih3 (i + 1) (gv n rc (B (lcol r i)) (lcol s0 i) ax (nI (lcol r i)) (nI 4095) w) (by omega) (by omega) (by rw [hw]; rfl)
  exact L3 (n + 1) (0) (u) (by omega) (by omega) (rfl)

def gvCi (n : Nat) (rc : Int32) (B : Nat → Int32) (ax : Int32) (r s0 t0 c0 : Nat) (u : GS) : Nat → GS
  | 0 => u
  | i + 1 => if inB (nI i) (B (lcol s0 c0)) = true then gv n rc (B (lcol r i)) (lcol t0 c0) ax (nI (lcol r i)) (nI (cod i (lcol s0 c0))) (gvCi n rc B ax r s0 t0 c0 u i) else gvCi n rc B ax r s0 t0 c0 u i
theorem gvCi_t {n : Nat} {rc : Int32} {B : Nat → Int32} {ax : Int32} {r s0 t0 c0 : Nat} {u : GS} {i : Nat} (h : inB (nI i) (B (lcol s0 c0)) = true) : gvCi n rc B ax r s0 t0 c0 u (i + 1) = gv n rc (B (lcol r i)) (lcol t0 c0) ax (nI (lcol r i)) (nI (cod i (lcol s0 c0))) (gvCi n rc B ax r s0 t0 c0 u i) := if_pos h
theorem gvCi_f {n : Nat} {rc : Int32} {B : Nat → Int32} {ax : Int32} {r s0 t0 c0 : Nat} {u : GS} {i : Nat} (h : inB (nI i) (B (lcol s0 c0)) = false) : gvCi n rc B ax r s0 t0 c0 u (i + 1) = gvCi n rc B ax r s0 t0 c0 u i := if_neg (by rw [h]; decide)
def gvC (n : Nat) (rc : Int32) (B : Nat → Int32) (ax : Int32) (r s0 t0 : Nat) (u : GS) : Nat → GS
  | 0 => u
  | c0 + 1 => if B (lcol s0 c0) = 0 then gvC n rc B ax r s0 t0 u c0 else gvCi n rc B ax r s0 t0 c0 (gvC n rc B ax r s0 t0 u c0) n
theorem gvC_e {n : Nat} {rc : Int32} {B : Nat → Int32} {ax : Int32} {r s0 t0 : Nat} {u : GS} {c0 : Nat} (h : B (lcol s0 c0) = 0) : gvC n rc B ax r s0 t0 u (c0 + 1) = gvC n rc B ax r s0 t0 u c0 := if_pos h
theorem gvC_n {n : Nat} {rc : Int32} {B : Nat → Int32} {ax : Int32} {r s0 t0 : Nat} {u : GS} {c0 : Nat} (h : ¬ B (lcol s0 c0) = 0) : gvC n rc B ax r s0 t0 u (c0 + 1) = gvCi n rc B ax r s0 t0 c0 (gvC n rc B ax r s0 t0 u c0) n := if_neg h
theorem gvC_x {n : Nat} {rc : Int32} {B : Nat → Int32} {ax : Int32} {r s0 t0 : Nat} {u v w : GS} {c0 i : Nat} (hi : i = n) (hv : v = gvC n rc B ax r s0 t0 u c0) (hw : w = gvCi n rc B ax r s0 t0 c0 v i) (hz : B (lcol s0 c0) = 0 → i = 0) : w = gvC n rc B ax r s0 t0 u (c0 + 1) := by
  by_cases h : B (lcol s0 c0) = 0
  · rw [gvC_e h, hw, hz h, hv]; rfl
  · rw [gvC_n h, hw, hi, hv]
theorem gvC_x2 {n : Nat} {rc : Int32} {B : Nat → Int32} {ax : Int32} {r s0 t0 : Nat} {u v w : GS} {c0 i : Nat} (h : B (lcol s0 c0) = 0) (hv : v = gvC n rc B ax r s0 t0 u c0) (hw : w = gvCi n rc B ax r s0 t0 c0 v i) (hz : B (lcol s0 c0) = 0 → i = 0) : w = gvC n rc B ax r s0 t0 u (c0 + 1) := by
  rw [gvC_e h, hw, hz h, hv]; rfl

set_option maxRecDepth 100000 in
set_option maxHeartbeats 4000000 in
theorem c_X1_giveChain (l : Launch) (D : va_G) (cI cJ cZ : ClassId) (q : Nat → Nat) (B : Nat → Int32) (u : GS) (n : Nat) (fc : Int32) (rc : Int32) (ax : Int32) (r : Nat) (s0 : Nat) (t0 : Nat) (h1 : r < 6) (h2 : s0 < 6) (h3 : t0 < 6) (hn : n ≤ 24) : MV l yX1_giveChain wsX1_giveChain { frames := 2, cells := 0, slots := 0, locals := 49 } D (tyL cI cJ cZ) [.ref (q 6), .int ax, .int (nI r), .int (nI s0), .int (nI t0)] [(q 6, .inr (2, [.ref (q 7), .ref (q 8), .ref (q 9), .ref (q 10), .int (nI n), .int fc, .int rc, .int u.2.2])), (q 7, .inl (cI, 168, .inl B)), (q 8, .inl (cI, 168, .inl u.1)), (q 9, .inl (cJ, 4032, .inr (.inl u.2.1)))] [(q 6, .inr (2, [.ref (q 7), .ref (q 8), .ref (q 9), .ref (q 10), .int (nI n), .int fc, .int rc, .int ((gvC n rc B ax r s0 t0 u n).2.2)])), (q 7, .inl (cI, 168, .inl B)), (q 8, .inl (cI, 168, .inl ((gvC n rc B ax r s0 t0 u n).1))), (q 9, .inl (cJ, 4032, .inr (.inl ((gvC n rc B ax r s0 t0 u n).2.1))))] := by
  refine metV_of (cc := cX1_giveChain) (maxL := 10) (ret := none) (by decide +kernel) rfl (Nat.le_of_ble_eq_true rfl) ?_
  intro K hC hRm hNL hDis hLis hRT hIni hQ
  have hinX1 : ∀ w ∈ wsX10, w ∈ wsX1_giveChain := by decide +kernel
  refine z_iconst (pc := 0) (v := (nI 0)) hC dX1_giveChain_0 (by decide +kernel) ?_
  refine z_istore (pc := 1) hC hNL [(5, .int (nI 0)), (0, .ref (q 6)), (1, .int ax), (2, .int (nI r)), (3, .int (nI s0)), (4, .int (nI t0))] dX1_giveChain_1 (by decide) rfl ?_
  have L3 : ∀ (fu : Nat) (c0 : Nat) (v : GS) (hi : c0 ≤ n) (hf : n + 1 ≤ c0 + fu) (hv : v = gvC n rc B ax r s0 t0 u c0), Z K 0 0 [(q 6, .inr (2, [.ref (q 7), .ref (q 8), .ref (q 9), .ref (q 10), .int (nI n), .int fc, .int rc, .int v.2.2])), (q 7, .inl (cI, 168, .inl B)), (q 8, .inl (cI, 168, .inl v.1)), (q 9, .inl (cJ, 4032, .inr (.inl v.2.1)))] [(5, .int (nI c0)), (0, .ref (q 6)), (1, .int ax), (2, .int (nI r)), (3, .int (nI s0)), (4, .int (nI t0))] 3 [] := by
    intro fu
    induction fu with
    | zero =>
      intro c0 v hi hf hv
      exact absurd trivial (by omega)
    | succ fu ih3 =>
      intro c0 v hi hf hv
      refine z_iload (pc := 3) hC 0 dX1_giveChain_3 rfl ?_
      refine z_aload_n (pc := 5) hC 1 dX1_giveChain_5 rfl ?_
      refine z_get (pc := 6) (C := RX1) (T := TX1) (N := 8) hC hinX1 0 rfl rfl 4 (by decide) (by decide +kernel) rfl dX1_giveChain_6 ?_
      refine z_ncmp_ge (pc := 9) (tgt := 104) hC dX1_giveChain_9 (by decide) (by omega) (by omega) (fun h9 => ?_) (fun h9 => ?_)
      · exact z_vret (pc := 104) hC hQ hRT (by rw [hv, show c0 = n by omega]) dX1_giveChain_104
      · refine z_iload_n (pc := 12) hC 4 dX1_giveChain_12 rfl ?_
        refine z_iload (pc := 13) hC 0 dX1_giveChain_13 rfl ?_
        refine z_callSN_I (pc := 15) (y := yX3_linkColumn) (wy := wsX3_linkColumn) (rm := { frames := 0, cells := 0, slots := 0, locals := 0 }) (As := [.int (nI s0), .int (nI c0)]) (rest := []) (na := 2)  (wc := []) (wc2 := []) hC hRm hDis hLis gX1_giveChain_X3_linkColumn_n92 (by decide +kernel) (by decide +kernel) (by decide +kernel) ⟨by decide +kernel, by decide +kernel⟩ rfl ⟨by decide, by decide⟩ ⟨by decide, by decide⟩ rfl (Nat.le_of_ble_eq_true rfl) (by decide +kernel) (c_X3_linkColumnN _ _ cI cJ cZ (s0) (c0) ) [] [0, 1, 2, 3] [0, 1, 2, 3] [(q 6, .inr (2, [.ref (q 7), .ref (q 8), .ref (q 9), .ref (q 10), .int (nI n), .int fc, .int rc, .int v.2.2])), (q 7, .inl (cI, 168, .inl B)), (q 8, .inl (cI, 168, .inl v.1)), (q 9, .inl (cJ, 4032, .inr (.inl v.2.1)))] rfl (by decide) rfl (by decide) (by decide) [(q 6, .inr (2, [.ref (q 7), .ref (q 8), .ref (q 9), .ref (q 10), .int (nI n), .int fc, .int rc, .int v.2.2])), (q 7, .inl (cI, 168, .inl B)), (q 8, .inl (cI, 168, .inl v.1)), (q 9, .inl (cJ, 4032, .inr (.inl v.2.1)))] rfl (by decide) rfl dX1_giveChain_15 ?_
        refine z_istore (pc := 18) hC hNL [(6, .int (nI (lcol s0 c0))), (5, .int (nI c0)), (0, .ref (q 6)), (1, .int ax), (2, .int (nI r)), (3, .int (nI s0)), (4, .int (nI t0))] dX1_giveChain_18 (by decide) rfl ?_
        refine z_aload_n (pc := 20) hC 2 dX1_giveChain_20 rfl ?_
        refine z_get (pc := 21) (C := RX1) (T := TX1) (N := 8) hC hinX1 0 rfl rfl 0 (by decide) (by decide +kernel) rfl dX1_giveChain_21 ?_
        refine z_iload (pc := 24) hC 0 dX1_giveChain_24 rfl ?_
        refine z_iald (pc := 26) (v := (B (lcol s0 c0))) hC 1 0 rfl rfl (lcol_lt h2 (by omega)) (by decide) (rfl) dX1_giveChain_26 ?_
        refine z_istore (pc := 27) hC hNL [(7, .int (B (lcol s0 c0))), (6, .int (nI (lcol s0 c0))), (5, .int (nI c0)), (0, .ref (q 6)), (1, .int ax), (2, .int (nI r)), (3, .int (nI s0)), (4, .int (nI t0))] dX1_giveChain_27 (by decide) rfl ?_
        refine z_iconst (pc := 29) (v := (nI 0)) hC dX1_giveChain_29 (by decide +kernel) ?_
        refine z_istore (pc := 30) hC hNL [(8, .int (nI 0)), (7, .int (B (lcol s0 c0))), (6, .int (nI (lcol s0 c0))), (5, .int (nI c0)), (0, .ref (q 6)), (1, .int ax), (2, .int (nI r)), (3, .int (nI s0)), (4, .int (nI t0))] dX1_giveChain_30 (by decide) rfl ?_
        have L32 : ∀ (fu : Nat) (i : Nat) (w : GS) (hj : i ≤ n) (hg : n + 1 ≤ i + fu) (hw : w = gvCi n rc B ax r s0 t0 c0 v i) (hz : B (lcol s0 c0) = 0 → i = 0), Z K 0 0 [(q 6, .inr (2, [.ref (q 7), .ref (q 8), .ref (q 9), .ref (q 10), .int (nI n), .int fc, .int rc, .int w.2.2])), (q 7, .inl (cI, 168, .inl B)), (q 8, .inl (cI, 168, .inl w.1)), (q 9, .inl (cJ, 4032, .inr (.inl w.2.1)))] [(8, .int (nI i)), (7, .int (B (lcol s0 c0))), (6, .int (nI (lcol s0 c0))), (5, .int (nI c0)), (0, .ref (q 6)), (1, .int ax), (2, .int (nI r)), (3, .int (nI s0)), (4, .int (nI t0))] 32 [] := by
          intro fu
          induction fu with
          | zero =>
            intro i w hj hg hw hz
            exact absurd trivial (by omega)
          | succ fu ih32 =>
            intro i w hj hg hw hz
            refine z_iload (pc := 32) hC 0 dX1_giveChain_32 rfl ?_
            refine z_aload_n (pc := 34) hC 4 dX1_giveChain_34 rfl ?_
            refine z_get (pc := 35) (C := RX1) (T := TX1) (N := 8) hC hinX1 0 rfl rfl 4 (by decide) (by decide +kernel) rfl dX1_giveChain_35 ?_
            refine z_ncmp_ge (pc := 38) (tgt := 98) hC dX1_giveChain_38 (by decide) (by omega) (by omega) (fun h38 => ?_) (fun h38 => ?_)
            · refine z_iinc (pc := 98) (q := 3) (x := (nI c0)) (v := (nI (c0 + 1))) hC hNL [(5, .int (nI (c0 + 1))), (8, .int (nI i)), (7, .int (B (lcol s0 c0))), (6, .int (nI (lcol s0 c0))), (0, .ref (q 6)), (1, .int ax), (2, .int (nI r)), (3, .int (nI s0)), (4, .int (nI t0))] dX1_giveChain_98 rfl (nI_add _ _) (by decide) rfl ?_
              refine z_goto (pc := 101) (tgt := 3) hC dX1_giveChain_101 (by decide) ?_
              refine z_lv [0, 4, 5, 6, 7, 8] rfl ?_
              exact ih3 (c0 + 1) (w) (by omega) (by omega) (by first | exact gvC_x (by omega) hv hw hz | exact gvC_x2 h43 hv hw hz)
            · refine z_iload (pc := 41) hC 1 dX1_giveChain_41 rfl ?_
              refine z_if_eq (pc := 43) (tgt := 98) hC dX1_giveChain_43 (by decide) (fun h43 => ?_) (fun h43 => ?_)
              · refine z_iinc (pc := 98) (q := 3) (x := (nI c0)) (v := (nI (c0 + 1))) hC hNL [(5, .int (nI (c0 + 1))), (8, .int (nI i)), (7, .int (B (lcol s0 c0))), (6, .int (nI (lcol s0 c0))), (0, .ref (q 6)), (1, .int ax), (2, .int (nI r)), (3, .int (nI s0)), (4, .int (nI t0))] dX1_giveChain_98 rfl (nI_add _ _) (by decide) rfl ?_
                refine z_goto (pc := 101) (tgt := 3) hC dX1_giveChain_101 (by decide) ?_
                refine z_lv [0, 4, 5, 6, 7, 8] rfl ?_
                exact ih3 (c0 + 1) (w) (by omega) (by omega) (by first | exact gvC_x (by omega) hv hw hz | exact gvC_x2 h43 hv hw hz)
              · refine z_iload (pc := 46) hC 0 dX1_giveChain_46 rfl ?_
                refine z_iload (pc := 48) hC 1 dX1_giveChain_48 rfl ?_
                refine z_callSN_I (pc := 50) (y := yX3_isIn) (wy := wsX3_isIn) (rm := { frames := 0, cells := 0, slots := 0, locals := 0 }) (As := [.int (nI i), .int (B (lcol s0 c0))]) (rest := []) (na := 2)  (wc := []) (wc2 := []) hC hRm hDis hLis gX1_giveChain_X3_isIn_n112 (by decide +kernel) (by decide +kernel) (by decide +kernel) ⟨by decide +kernel, by decide +kernel⟩ rfl ⟨by decide, by decide⟩ ⟨by decide, by decide⟩ rfl (Nat.le_of_ble_eq_true rfl) (by decide +kernel) (c_X3_isIn _ _ cI cJ cZ (nI i) (B (lcol s0 c0)) ) [] [0, 1, 2, 3] [0, 1, 2, 3] [(q 6, .inr (2, [.ref (q 7), .ref (q 8), .ref (q 9), .ref (q 10), .int (nI n), .int fc, .int rc, .int w.2.2])), (q 7, .inl (cI, 168, .inl B)), (q 8, .inl (cI, 168, .inl w.1)), (q 9, .inl (cJ, 4032, .inr (.inl w.2.1)))] rfl (by decide) rfl (by decide) (by decide) [(q 6, .inr (2, [.ref (q 7), .ref (q 8), .ref (q 9), .ref (q 10), .int (nI n), .int fc, .int rc, .int w.2.2])), (q 7, .inl (cI, 168, .inl B)), (q 8, .inl (cI, 168, .inl w.1)), (q 9, .inl (cJ, 4032, .inr (.inl w.2.1)))] rfl (by decide) rfl dX1_giveChain_50 ?_
                refine z_bif_eq (pc := 53) (tgt := 92) hC dX1_giveChain_53 (by decide) (fun h53 => ?_) (fun h53 => ?_)
                · refine z_iinc (pc := 92) (q := 0) (x := (nI i)) (v := (nI (i + 1))) hC hNL [(8, .int (nI (i + 1))), (7, .int (B (lcol s0 c0))), (6, .int (nI (lcol s0 c0))), (5, .int (nI c0)), (0, .ref (q 6)), (1, .int ax), (2, .int (nI r)), (3, .int (nI s0)), (4, .int (nI t0))] dX1_giveChain_92 rfl (nI_add _ _) (by decide) rfl ?_
                  refine z_goto (pc := 95) (tgt := 32) hC dX1_giveChain_95 (by decide) ?_
                  exact ih32 (i + 1) (w) (by omega) (by omega) (by first | rw [gvCi_t h53, hw] | rw [gvCi_f h53, hw]) (fun h9 => absurd h9 h43)
                · refine z_iload_n (pc := 56) hC 6 dX1_giveChain_56 rfl ?_
                  refine z_iload (pc := 57) hC 0 dX1_giveChain_57 rfl ?_
                  refine z_callSN_I (pc := 59) (y := yX3_linkColumn) (wy := wsX3_linkColumn) (rm := { frames := 0, cells := 0, slots := 0, locals := 0 }) (As := [.int (nI r), .int (nI i)]) (rest := []) (na := 2)  (wc := []) (wc2 := []) hC hRm hDis hLis gX1_giveChain_X3_linkColumn_n92 (by decide +kernel) (by decide +kernel) (by decide +kernel) ⟨by decide +kernel, by decide +kernel⟩ rfl ⟨by decide, by decide⟩ ⟨by decide, by decide⟩ rfl (Nat.le_of_ble_eq_true rfl) (by decide +kernel) (c_X3_linkColumnN _ _ cI cJ cZ (r) (i) ) [] [0, 1, 2, 3] [0, 1, 2, 3] [(q 6, .inr (2, [.ref (q 7), .ref (q 8), .ref (q 9), .ref (q 10), .int (nI n), .int fc, .int rc, .int w.2.2])), (q 7, .inl (cI, 168, .inl B)), (q 8, .inl (cI, 168, .inl w.1)), (q 9, .inl (cJ, 4032, .inr (.inl w.2.1)))] rfl (by decide) rfl (by decide) (by decide) [(q 6, .inr (2, [.ref (q 7), .ref (q 8), .ref (q 9), .ref (q 10), .int (nI n), .int fc, .int rc, .int w.2.2])), (q 7, .inl (cI, 168, .inl B)), (q 8, .inl (cI, 168, .inl w.1)), (q 9, .inl (cJ, 4032, .inr (.inl w.2.1)))] rfl (by decide) rfl dX1_giveChain_59 ?_
                  refine z_istore (pc := 62) hC hNL [(9, .int (nI (lcol r i))), (8, .int (nI i)), (7, .int (B (lcol s0 c0))), (6, .int (nI (lcol s0 c0))), (5, .int (nI c0)), (0, .ref (q 6)), (1, .int ax), (2, .int (nI r)), (3, .int (nI s0)), (4, .int (nI t0))] dX1_giveChain_62 (by decide) rfl ?_
                  refine z_aload_n (pc := 64) hC 5 dX1_giveChain_64 rfl ?_
                  refine z_aload_n (pc := 65) hC 5 dX1_giveChain_65 rfl ?_
                  refine z_get (pc := 66) (C := RX1) (T := TX1) (N := 8) hC hinX1 0 rfl rfl 0 (by decide) (by decide +kernel) rfl dX1_giveChain_66 ?_
                  refine z_iload (pc := 69) hC 0 dX1_giveChain_69 rfl ?_
                  refine z_iald (pc := 71) (v := (B (lcol r i))) hC 1 0 rfl rfl (lcol_lt h1 (by omega)) (by decide) (rfl) dX1_giveChain_71 ?_
                  refine z_iload (pc := 72) hC 9 dX1_giveChain_72 rfl ?_
                  refine z_iload (pc := 74) hC 4 dX1_giveChain_74 rfl ?_
                  refine z_callSN_I (pc := 76) (y := yX3_linkColumn) (wy := wsX3_linkColumn) (rm := { frames := 0, cells := 0, slots := 0, locals := 0 }) (As := [.int (nI t0), .int (nI c0)]) (rest := [.int (B (lcol r i)), .ref (q 6)]) (na := 2)  (wc := []) (wc2 := []) hC hRm hDis hLis gX1_giveChain_X3_linkColumn_n92 (by decide +kernel) (by decide +kernel) (by decide +kernel) ⟨by decide +kernel, by decide +kernel⟩ rfl ⟨by decide, by decide⟩ ⟨by decide, by decide⟩ rfl (Nat.le_of_ble_eq_true rfl) (by decide +kernel) (c_X3_linkColumnN _ _ cI cJ cZ (t0) (c0) ) [] [0, 1, 2, 3] [0, 1, 2, 3] [(q 6, .inr (2, [.ref (q 7), .ref (q 8), .ref (q 9), .ref (q 10), .int (nI n), .int fc, .int rc, .int w.2.2])), (q 7, .inl (cI, 168, .inl B)), (q 8, .inl (cI, 168, .inl w.1)), (q 9, .inl (cJ, 4032, .inr (.inl w.2.1)))] rfl (by decide) rfl (by decide) (by decide) [(q 6, .inr (2, [.ref (q 7), .ref (q 8), .ref (q 9), .ref (q 10), .int (nI n), .int fc, .int rc, .int w.2.2])), (q 7, .inl (cI, 168, .inl B)), (q 8, .inl (cI, 168, .inl w.1)), (q 9, .inl (cJ, 4032, .inr (.inl w.2.1)))] rfl (by decide) rfl dX1_giveChain_76 ?_
                  refine z_iload_n (pc := 79) hC 6 dX1_giveChain_79 rfl ?_
                  refine z_iload (pc := 80) hC 0 dX1_giveChain_80 rfl ?_
                  refine z_iload (pc := 82) hC 1 dX1_giveChain_82 rfl ?_
                  refine z_iload (pc := 84) hC 3 dX1_giveChain_84 rfl ?_
                  refine z_callSN_I (pc := 86) (y := yX3_codeOf) (wy := wsX3_codeOf) (rm := { frames := 0, cells := 0, slots := 0, locals := 0 }) (As := [.int (nI i), .int (nI (lcol s0 c0))]) (rest := [.int (nI (lcol r i)), .int ax, .int (nI (lcol t0 c0)), .int (B (lcol r i)), .ref (q 6)]) (na := 2)  (wc := []) (wc2 := []) hC hRm hDis hLis gX1_giveChain_X3_codeOf_n116 (by decide +kernel) (by decide +kernel) (by decide +kernel) ⟨by decide +kernel, by decide +kernel⟩ rfl ⟨by decide, by decide⟩ ⟨by decide, by decide⟩ rfl (Nat.le_of_ble_eq_true rfl) (by decide +kernel) (c_X3_codeOfN _ _ cI cJ cZ (i) (lcol s0 c0) (Nat.lt_trans (lcol_lt h2 (show c0 < 24 by omega)) (by decide))) [] [0, 1, 2, 3] [0, 1, 2, 3] [(q 6, .inr (2, [.ref (q 7), .ref (q 8), .ref (q 9), .ref (q 10), .int (nI n), .int fc, .int rc, .int w.2.2])), (q 7, .inl (cI, 168, .inl B)), (q 8, .inl (cI, 168, .inl w.1)), (q 9, .inl (cJ, 4032, .inr (.inl w.2.1)))] rfl (by decide) rfl (by decide) (by decide) [(q 6, .inr (2, [.ref (q 7), .ref (q 8), .ref (q 9), .ref (q 10), .int (nI n), .int fc, .int rc, .int w.2.2])), (q 7, .inl (cI, 168, .inl B)), (q 8, .inl (cI, 168, .inl w.1)), (q 9, .inl (cJ, 4032, .inr (.inl w.2.1)))] rfl (by decide) rfl dX1_giveChain_86 ?_
                  refine z_callV_V (pc := 89) (y := yX1_give) (wy := wsX1_give) (rm := { frames := 1, cells := 0, slots := 0, locals := 21 }) (As := [.int (B (lcol r i)), .int (nI (lcol t0 c0)), .int ax, .int (nI (lcol r i)), .int (nI (cod i (lcol s0 c0)))]) (rest := []) (na := 5) (C := RX1) (T := TX1) (NF := 8) (ci := 2) (wc := [(q 6, .inr (2, [.ref (q 7), .ref (q 8), .ref (q 9), .ref (q 10), .int (nI n), .int fc, .int rc, .int w.2.2])), (q 8, .inl (cI, 168, .inl w.1)), (q 9, .inl (cJ, 4032, .inr (.inl w.2.1)))]) (wc2 := [(q 6, .inr (2, [.ref (q 7), .ref (q 8), .ref (q 9), .ref (q 10), .int (nI n), .int fc, .int rc, .int ((gv n rc (B (lcol r i)) (lcol t0 c0) ax (nI (lcol r i)) (nI (cod i (lcol s0 c0))) w).2.2)])), (q 8, .inl (cI, 168, .inl ((gv n rc (B (lcol r i)) (lcol t0 c0) ax (nI (lcol r i)) (nI (cod i (lcol s0 c0))) w).1))), (q 9, .inl (cJ, 4032, .inr (.inl ((gv n rc (B (lcol r i)) (lcol t0 c0) ax (nI (lcol r i)) (nI (cod i (lcol s0 c0))) w).2.1))))]) hC hRm hDis hLis 0 rfl rfl gX1_giveChain_X1_give ⟨rfl, by decide +kernel, by decide +kernel⟩ rfl ⟨by decide, by decide⟩ ⟨by decide, by decide⟩ rfl (Nat.le_of_ble_eq_true rfl) (by decide +kernel) (c_X1_give _ _ cI cJ cZ (q) (w) (n) (fc) (rc) (B (lcol r i)) (lcol t0 c0) (ax) (nI (lcol r i)) (nI (cod i (lcol s0 c0))) (lcol_lt h3 (by omega)) (hn)) [0, 2, 3] [1] [1, 0, 2, 3] [(q 7, .inl (cI, 168, .inl B))] rfl (by decide) rfl (by decide) (by decide) [(q 6, .inr (2, [.ref (q 7), .ref (q 8), .ref (q 9), .ref (q 10), .int (nI n), .int fc, .int rc, .int ((gv n rc (B (lcol r i)) (lcol t0 c0) ax (nI (lcol r i)) (nI (cod i (lcol s0 c0))) w).2.2)])), (q 7, .inl (cI, 168, .inl B)), (q 8, .inl (cI, 168, .inl ((gv n rc (B (lcol r i)) (lcol t0 c0) ax (nI (lcol r i)) (nI (cod i (lcol s0 c0))) w).1))), (q 9, .inl (cJ, 4032, .inr (.inl ((gv n rc (B (lcol r i)) (lcol t0 c0) ax (nI (lcol r i)) (nI (cod i (lcol s0 c0))) w).2.1))))] rfl (by decide) rfl dX1_giveChain_89 ?_
                  refine z_iinc (pc := 92) (q := 1) (x := (nI i)) (v := (nI (i + 1))) hC hNL [(8, .int (nI (i + 1))), (9, .int (nI (lcol r i))), (7, .int (B (lcol s0 c0))), (6, .int (nI (lcol s0 c0))), (5, .int (nI c0)), (0, .ref (q 6)), (1, .int ax), (2, .int (nI r)), (3, .int (nI s0)), (4, .int (nI t0))] dX1_giveChain_92 rfl (nI_add _ _) (by decide) rfl ?_
                  refine z_goto (pc := 95) (tgt := 32) hC dX1_giveChain_95 (by decide) ?_
                  refine z_lv [0, 2, 3, 4, 5, 6, 7, 8, 9] rfl ?_
                  exact ih32 (i + 1) (gv n rc (B (lcol r i)) (lcol t0 c0) ax (nI (lcol r i)) (nI (cod i (lcol s0 c0))) w) (by omega) (by omega) (by first | rw [gvCi_t h53, hw] | rw [gvCi_f h53, hw]) (fun h9 => absurd h9 h43)
        exact L32 (n + 1) (0) (v) (by omega) (by omega) (rfl) (fun _ => rfl)
  exact L3 (n + 1) (0) (u) (by omega) (by omega) (rfl)
end
section
set_option maxRecDepth 100000 in
set_option maxHeartbeats 4000000 in
theorem c_J7_fill_53178 (l : Launch) (D : va_G) (cI cJ cZ : ClassId) (h : Nat) (N0 : Nat) (f0 : Nat → Int32) (v0 : Int32) (hN : N0 < 2 ^ 31) : MV l yJ7_fill_53178 wsJ7_fill_53178 { frames := 0, cells := 0, slots := 0, locals := 0 } D (tyL cI cJ cZ) [.ref h, .int v0] [(h, .inl (cI, N0, .inl f0))] [(h, .inl (cI, N0, .inl (fun _ => v0)))] := by
  refine metV_of (cc := cJ7_fill_53178) (maxL := 4) (ret := none) (by decide +kernel) rfl (Nat.le_of_ble_eq_true rfl) ?_
  intro K hC hRm hNL hDis hLis hRT hIni hQ
  refine z_iconst (pc := 0) (v := (nI 0)) hC dJ7_fill_53178_0 (by decide +kernel) ?_
  refine z_istore_n (pc := 1) hC hNL [(2, .int (nI 0)), (0, .ref h), (1, .int v0)] dJ7_fill_53178_1 (by decide) rfl ?_
  refine z_aload_n (pc := 2) hC 1 dJ7_fill_53178_2 rfl ?_
  refine z_alen (pc := 3) (v := (nI N0)) hC 0 0 rfl rfl rfl dJ7_fill_53178_3 ?_
  refine z_istore_n (pc := 4) hC hNL [(3, .int (nI N0)), (2, .int (nI 0)), (0, .ref h), (1, .int v0)] dJ7_fill_53178_4 (by decide) rfl ?_
  have L5 : ∀ (fu : Nat) (i : Nat) (f : Nat → Int32) (hi : i ≤ N0) (hf : N0 + 1 ≤ i + fu) (hv : ∀ j, j < i → f j = v0), Z K 0 0 [(h, .inl (cI, N0, .inl f))] [(3, .int (nI N0)), (2, .int (nI i)), (0, .ref h), (1, .int v0)] 5 [] := by
    intro fu
    induction fu with
    | zero =>
      intro i f hi hf hv
      exact absurd trivial (by omega)
    | succ fu ih5 =>
      intro i f hi hf hv
      refine z_iload_n (pc := 5) hC 1 dJ7_fill_53178_5 rfl ?_
      refine z_iload_n (pc := 6) hC 0 dJ7_fill_53178_6 rfl ?_
      refine z_ncmp_ge (pc := 7) (tgt := 20) hC dJ7_fill_53178_7 (by decide) (by omega) (by omega) (fun h7 => ?_) (fun h7 => ?_)
      · refine z_arrI (f' := fun _ => v0) 0 rfl (fun j hj => hv j (by omega)) [(h, .inl (cI, N0, .inl (fun _ => v0)))] rfl ?_
        exact z_vret (pc := 20) hC hQ hRT (rfl) dJ7_fill_53178_20
      · refine z_aload_n (pc := 10) hC 2 dJ7_fill_53178_10 rfl ?_
        refine z_iload_n (pc := 11) hC 1 dJ7_fill_53178_11 rfl ?_
        refine z_iload_n (pc := 12) hC 3 dJ7_fill_53178_12 rfl ?_
        refine z_iast (pc := 13) hC 0 0 rfl rfl (by omega) (hN) [(h, .inl (cI, N0, .inl (upd f i v0)))] rfl dJ7_fill_53178_13 ?_
        refine z_iinc (pc := 14) (q := 1) (x := (nI i)) (v := (nI (i + 1))) hC hNL [(2, .int (nI (i + 1))), (3, .int (nI N0)), (0, .ref h), (1, .int v0)] dJ7_fill_53178_14 rfl (nI_add _ _) (by decide) rfl ?_
        refine z_goto (pc := 17) (tgt := 5) hC dJ7_fill_53178_17 (by decide) ?_
        refine z_lv [1, 0, 2, 3] rfl ?_
        exact ih5 (i + 1) (upd f i v0) (by omega) (by omega) (fun j hj => by
              by_cases e9 : j = i
              · rw [e9, pk_us]
              · rw [pk_un e9]; exact hv j (by omega))
  exact L5 (N0 + 1) (0) (f0) (by omega) (by omega) (fun j hj => absurd hj (Nat.not_lt_zero j))

set_option maxRecDepth 100000 in
set_option maxHeartbeats 4000000 in
theorem c_J7_fill_d0a16 (l : Launch) (D : va_G) (cI cJ cZ : ClassId) (h : Nat) (N0 : Nat) (f0 : Nat → Int64) (v0 : Int64) (hN : N0 < 2 ^ 31) : MV l yJ7_fill_d0a16 wsJ7_fill_d0a16 { frames := 0, cells := 0, slots := 0, locals := 0 } D (tyL cI cJ cZ) [.ref h, .long v0] [(h, .inl (cJ, N0, .inr (.inl f0)))] [(h, .inl (cJ, N0, .inr (.inl (fun _ => v0))))] := by
  refine metV_of (cc := cJ7_fill_d0a16) (maxL := 5) (ret := none) (by decide +kernel) rfl (Nat.le_of_ble_eq_true rfl) ?_
  intro K hC hRm hNL hDis hLis hRT hIni hQ
  refine z_iconst (pc := 0) (v := (nI 0)) hC dJ7_fill_d0a16_0 (by decide +kernel) ?_
  refine z_istore_n (pc := 1) hC hNL [(3, .int (nI 0)), (0, .ref h), (1, .long v0)] dJ7_fill_d0a16_1 (by decide) rfl ?_
  refine z_aload_n (pc := 2) hC 1 dJ7_fill_d0a16_2 rfl ?_
  refine z_alen (pc := 3) (v := (nI N0)) hC 0 1 rfl rfl rfl dJ7_fill_d0a16_3 ?_
  refine z_istore (pc := 4) hC hNL [(4, .int (nI N0)), (3, .int (nI 0)), (0, .ref h), (1, .long v0)] dJ7_fill_d0a16_4 (by decide) rfl ?_
  have L6 : ∀ (fu : Nat) (i : Nat) (f : Nat → Int64) (hi : i ≤ N0) (hf : N0 + 1 ≤ i + fu) (hv : ∀ j, j < i → f j = v0), Z K 0 0 [(h, .inl (cJ, N0, .inr (.inl f)))] [(4, .int (nI N0)), (3, .int (nI i)), (0, .ref h), (1, .long v0)] 6 [] := by
    intro fu
    induction fu with
    | zero =>
      intro i f hi hf hv
      exact absurd trivial (by omega)
    | succ fu ih6 =>
      intro i f hi hf hv
      refine z_iload_n (pc := 6) hC 1 dJ7_fill_d0a16_6 rfl ?_
      refine z_iload (pc := 7) hC 0 dJ7_fill_d0a16_7 rfl ?_
      refine z_ncmp_ge (pc := 9) (tgt := 22) hC dJ7_fill_d0a16_9 (by decide) (by omega) (by omega) (fun h9 => ?_) (fun h9 => ?_)
      · refine z_arrJ (f' := fun _ => v0) 0 rfl (fun j hj => hv j (by omega)) [(h, .inl (cJ, N0, .inr (.inl (fun _ => v0))))] rfl ?_
        exact z_vret (pc := 22) hC hQ hRT (rfl) dJ7_fill_d0a16_22
      · refine z_aload_n (pc := 12) hC 2 dJ7_fill_d0a16_12 rfl ?_
        refine z_iload_n (pc := 13) hC 1 dJ7_fill_d0a16_13 rfl ?_
        refine z_lload_n (pc := 14) hC 3 dJ7_fill_d0a16_14 rfl ?_
        refine z_last (pc := 15) hC 0 1 rfl rfl (by omega) (hN) [(h, .inl (cJ, N0, .inr (.inl (vp_updL f i v0))))] rfl dJ7_fill_d0a16_15 ?_
        refine z_iinc (pc := 16) (q := 1) (x := (nI i)) (v := (nI (i + 1))) hC hNL [(3, .int (nI (i + 1))), (4, .int (nI N0)), (0, .ref h), (1, .long v0)] dJ7_fill_d0a16_16 rfl (nI_add _ _) (by decide) rfl ?_
        refine z_goto (pc := 19) (tgt := 6) hC dJ7_fill_d0a16_19 (by decide) ?_
        refine z_lv [1, 0, 2, 3] rfl ?_
        exact ih6 (i + 1) (vp_updL f i v0) (by omega) (by omega) (fun j hj => by
              by_cases e9 : j = i
              · rw [e9, pk_uLs]
              · rw [pk_uLn e9]; exact hv j (by omega))
  exact L6 (N0 + 1) (0) (f0) (by omega) (by omega) (fun j hj => absurd hj (Nat.not_lt_zero j))

def clV (n : Nat) (x : Int32) : Prop := ∃ j : Nat, j < n ∧ x = nI j
def axV (n : Nat) (kd a b c : Int32) : Prop := (kd = nI 1 → clV n a ∧ clV n b) ∧ (kd = nI 2 → clV n a ∧ clV n b ∧ clV n c) ∧ (kd = nI 3 → clV n a ∧ clV 6 b ∧ clV n c) ∧ (kd = nI 4 → clV 6 a ∧ clV n b ∧ clV n c) ∧ (kd = nI 5 → clV 6 a ∧ clV 6 b) ∧ (kd = nI 6 → clV 6 a ∧ clV 6 b ∧ clV 6 c) ∧ (kd = nI 7 → clV 6 a)
def gv0 (n : Nat) (rc : Int32) (u : GS) : Nat → GS
  | 0 => u
  | i + 1 => gv n rc (bitI i) 0 (nI 255) (nI 4095) (nI 4095) (gv n rc (bitI i) i (nI 255) (nI 4095) (nI 4095) (gv0 n rc u i))
def gv7 (n : Nat) (rc : Int32) (Kd Aa : Nat → Int32) (u : GS) : Nat → GS
  | 0 => u
  | k + 1 => if Kd k = nI 7 then gvIt n rc (tn (Aa k)) (gv7 n rc Kd Aa u k) n else gv7 n rc Kd Aa u k
theorem gv7_t {n : Nat} {rc : Int32} {Kd Aa : Nat → Int32} {u : GS} {k : Nat} (h : Kd k = nI 7) : gv7 n rc Kd Aa u (k + 1) = gvIt n rc (tn (Aa k)) (gv7 n rc Kd Aa u k) n := if_pos h
theorem gv7_f {n : Nat} {rc : Int32} {Kd Aa : Nat → Int32} {u : GS} {k : Nat} (h : Kd k ≠ nI 7) : gv7 n rc Kd Aa u (k + 1) = gv7 n rc Kd Aa u k := if_neg h

set_option maxRecDepth 100000 in
set_option maxHeartbeats 4000000 in
theorem c_X1_giveAtFirst (l : Launch) (D : va_G) (cI cJ cZ : ClassId) (q : Nat → Nat) (u : GS) (n : Nat) (fc : Int32) (rc : Int32) (Kd : Nat → Int32) (Aa : Nat → Int32) (cnt : Nat) (hn : n ≤ 24) (hcnt : cnt ≤ 80) (hax : ∀ k, k < cnt → Kd k = nI 7 → clV 6 (Aa k)) : MV l yX1_giveAtFirst wsX1_giveAtFirst { frames := 3, cells := 0, slots := 0, locals := 71 } D (tyL cI cJ cZ) [.ref (q 6), .ref (q 1)] [(q 6, .inr (2, [.ref (q 7), .ref (q 8), .ref (q 9), .ref (q 10), .int (nI n), .int fc, .int rc, .int u.2.2])), (q 8, .inl (cI, 168, .inl u.1)), (q 9, .inl (cJ, 4032, .inr (.inl u.2.1))), (q 1, .inr (1, [.ref (q 2), .ref (q 3), .ref (q 4), .ref (q 5), .int (nI cnt)])), (q 2, .inl (cI, 80, .inl Kd)), (q 3, .inl (cI, 80, .inl Aa))] [(q 6, .inr (2, [.ref (q 7), .ref (q 8), .ref (q 9), .ref (q 10), .int (nI n), .int fc, .int rc, .int ((gv7 n rc Kd Aa (gv0 n rc u n) cnt).2.2)])), (q 8, .inl (cI, 168, .inl ((gv7 n rc Kd Aa (gv0 n rc u n) cnt).1))), (q 9, .inl (cJ, 4032, .inr (.inl ((gv7 n rc Kd Aa (gv0 n rc u n) cnt).2.1)))), (q 1, .inr (1, [.ref (q 2), .ref (q 3), .ref (q 4), .ref (q 5), .int (nI cnt)])), (q 2, .inl (cI, 80, .inl Kd)), (q 3, .inl (cI, 80, .inl Aa))] := by
  refine metV_of (cc := cX1_giveAtFirst) (maxL := 3) (ret := none) (by decide +kernel) rfl (Nat.le_of_ble_eq_true rfl) ?_
  intro K hC hRm hNL hDis hLis hRT hIni hQ
  have hinX0 : ∀ w ∈ wsX00, w ∈ wsX1_giveAtFirst := by decide +kernel
  have hinX1 : ∀ w ∈ wsX10, w ∈ wsX1_giveAtFirst := by decide +kernel
  refine z_iconst (pc := 0) (v := (nI 0)) hC dX1_giveAtFirst_0 (by decide +kernel) ?_
  refine z_istore_n (pc := 1) hC hNL [(2, .int (nI 0)), (0, .ref (q 6)), (1, .ref (q 1))] dX1_giveAtFirst_1 (by decide) rfl ?_
  have L2 : ∀ (fu : Nat) (i : Nat) (w : GS) (hi : i ≤ n) (hf : n + 1 ≤ i + fu) (hw : w = gv0 n rc u i), Z K 0 0 [(q 6, .inr (2, [.ref (q 7), .ref (q 8), .ref (q 9), .ref (q 10), .int (nI n), .int fc, .int rc, .int w.2.2])), (q 8, .inl (cI, 168, .inl w.1)), (q 9, .inl (cJ, 4032, .inr (.inl w.2.1))), (q 1, .inr (1, [.ref (q 2), .ref (q 3), .ref (q 4), .ref (q 5), .int (nI cnt)])), (q 2, .inl (cI, 80, .inl Kd)), (q 3, .inl (cI, 80, .inl Aa))] [(2, .int (nI i)), (0, .ref (q 6)), (1, .ref (q 1))] 2 [] := by
    intro fu
    induction fu with
    | zero =>
      intro i w hi hf hw
      exact absurd trivial (by omega)
    | succ fu ih2 =>
      intro i w hi hf hw
      refine z_iload_n (pc := 2) hC 0 dX1_giveAtFirst_2 rfl ?_
      refine z_aload_n (pc := 3) hC 1 dX1_giveAtFirst_3 rfl ?_
      refine z_get (pc := 4) (C := RX1) (T := TX1) (N := 8) hC hinX1 0 rfl rfl 4 (by decide) (by decide +kernel) rfl dX1_giveAtFirst_4 ?_
      refine z_ncmp_ge (pc := 7) (tgt := 50) hC dX1_giveAtFirst_7 (by decide) (by omega) (by omega) (fun h7 => ?_) (fun h7 => ?_)
      · refine z_iconst (pc := 50) (v := (nI 0)) hC dX1_giveAtFirst_50 (by decide +kernel) ?_
        refine z_istore_n (pc := 51) hC hNL [(2, .int (nI 0)), (0, .ref (q 6)), (1, .ref (q 1))] dX1_giveAtFirst_51 (by decide) rfl ?_
        have L52 : ∀ (fu : Nat) (i : Nat) (v : GS) (hi : i ≤ cnt) (hf : cnt + 1 ≤ i + fu) (hv : v = gv7 n rc Kd Aa (gv0 n rc u n) i), Z K 0 0 [(q 6, .inr (2, [.ref (q 7), .ref (q 8), .ref (q 9), .ref (q 10), .int (nI n), .int fc, .int rc, .int v.2.2])), (q 8, .inl (cI, 168, .inl v.1)), (q 9, .inl (cJ, 4032, .inr (.inl v.2.1))), (q 1, .inr (1, [.ref (q 2), .ref (q 3), .ref (q 4), .ref (q 5), .int (nI cnt)])), (q 2, .inl (cI, 80, .inl Kd)), (q 3, .inl (cI, 80, .inl Aa))] [(2, .int (nI i)), (0, .ref (q 6)), (1, .ref (q 1))] 52 [] := by
          intro fu
          induction fu with
          | zero =>
            intro i v hi hf hv
            exact absurd trivial (by omega)
          | succ fu ih52 =>
            intro i v hi hf hv
            refine z_iload_n (pc := 52) hC 0 dX1_giveAtFirst_52 rfl ?_
            refine z_aload_n (pc := 53) hC 2 dX1_giveAtFirst_53 rfl ?_
            refine z_getN (pc := 54) (C := RX0) (T := TX0) (N := 5) hC hinX0 3 rfl rfl 4 (by decide) (by decide +kernel) rfl dX1_giveAtFirst_54 ?_
            refine z_ncmp_ge (pc := 57) (tgt := 87) hC dX1_giveAtFirst_57 (by decide) (by omega) (by omega) (fun h57 => ?_) (fun h57 => ?_)
            · exact z_vret (pc := 87) hC hQ hRT (by rw [hv, show i = cnt by omega]) dX1_giveAtFirst_87
            · refine z_aload_n (pc := 60) hC 2 dX1_giveAtFirst_60 rfl ?_
              refine z_getN (pc := 61) (C := RX0) (T := TX0) (N := 5) hC hinX0 3 rfl rfl 0 (by decide) (by decide +kernel) rfl dX1_giveAtFirst_61 ?_
              refine z_iload_n (pc := 64) hC 0 dX1_giveAtFirst_64 rfl ?_
              refine z_iald (pc := 65) (v := (Kd i)) hC 4 0 rfl rfl (by omega) (by decide) (rfl) dX1_giveAtFirst_65 ?_
              refine z_bipush (pc := 66) (v := (nI 7)) hC dX1_giveAtFirst_66 (by decide +kernel) ?_
              refine z_icmp_ne (pc := 68) (tgt := 81) hC dX1_giveAtFirst_68 (by decide) (fun h68 => ?_) (fun h68 => ?_)
              · refine z_iinc (pc := 81) (q := 0) (x := (nI i)) (v := (nI (i + 1))) hC hNL [(2, .int (nI (i + 1))), (0, .ref (q 6)), (1, .ref (q 1))] dX1_giveAtFirst_81 rfl (nI_add _ _) (by decide) rfl ?_
                refine z_goto (pc := 84) (tgt := 52) hC dX1_giveAtFirst_84 (by decide) ?_
                exact ih52 (i + 1) (v) (by omega) (by omega) (by first | rw [gv7_t h68, er9, tn_nI (by omega), hv] | rw [gv7_f h68, hv])
              · refine z_aload_n (pc := 71) hC 1 dX1_giveAtFirst_71 rfl ?_
                refine z_aload_n (pc := 72) hC 2 dX1_giveAtFirst_72 rfl ?_
                refine z_getN (pc := 73) (C := RX0) (T := TX0) (N := 5) hC hinX0 3 rfl rfl 1 (by decide) (by decide +kernel) rfl dX1_giveAtFirst_73 ?_
                refine z_iload_n (pc := 76) hC 0 dX1_giveAtFirst_76 rfl ?_
                refine z_iald (pc := 77) (v := (Aa i)) hC 5 0 rfl rfl (by omega) (by decide) (rfl) dX1_giveAtFirst_77 ?_
                obtain ⟨r9, hr9, er9⟩ := hax i (by omega) h68
                refine z_topi (nI r9) er9 ?_
                refine z_callV_V (pc := 78) (y := yX1_giveOfItself) (wy := wsX1_giveOfItself) (rm := { frames := 2, cells := 0, slots := 0, locals := 49 }) (As := [.int (nI r9)]) (rest := []) (na := 1) (C := RX1) (T := TX1) (NF := 8) (ci := 2) (wc := [(q 6, .inr (2, [.ref (q 7), .ref (q 8), .ref (q 9), .ref (q 10), .int (nI n), .int fc, .int rc, .int v.2.2])), (q 8, .inl (cI, 168, .inl v.1)), (q 9, .inl (cJ, 4032, .inr (.inl v.2.1)))]) (wc2 := [(q 6, .inr (2, [.ref (q 7), .ref (q 8), .ref (q 9), .ref (q 10), .int (nI n), .int fc, .int rc, .int ((gvIt n rc r9 v n).2.2)])), (q 8, .inl (cI, 168, .inl ((gvIt n rc r9 v n).1))), (q 9, .inl (cJ, 4032, .inr (.inl ((gvIt n rc r9 v n).2.1))))]) hC hRm hDis hLis 0 rfl rfl gX1_giveAtFirst_X1_giveOfItself ⟨rfl, by decide +kernel, by decide +kernel⟩ rfl ⟨by decide, by decide⟩ ⟨by decide, by decide⟩ rfl (Nat.le_of_ble_eq_true rfl) (by decide +kernel) (c_X1_giveOfItself _ _ cI cJ cZ (q) (v) (n) (fc) (rc) (r9) (hr9) (hn)) [0, 1, 2] [3, 4, 5] [3, 4, 5, 0, 1, 2] [(q 1, .inr (1, [.ref (q 2), .ref (q 3), .ref (q 4), .ref (q 5), .int (nI cnt)])), (q 2, .inl (cI, 80, .inl Kd)), (q 3, .inl (cI, 80, .inl Aa))] rfl (by decide) rfl (by decide) (by decide) [(q 6, .inr (2, [.ref (q 7), .ref (q 8), .ref (q 9), .ref (q 10), .int (nI n), .int fc, .int rc, .int ((gvIt n rc r9 v n).2.2)])), (q 8, .inl (cI, 168, .inl ((gvIt n rc r9 v n).1))), (q 9, .inl (cJ, 4032, .inr (.inl ((gvIt n rc r9 v n).2.1)))), (q 1, .inr (1, [.ref (q 2), .ref (q 3), .ref (q 4), .ref (q 5), .int (nI cnt)])), (q 2, .inl (cI, 80, .inl Kd)), (q 3, .inl (cI, 80, .inl Aa))] rfl (by decide) rfl dX1_giveAtFirst_78 ?_
                refine z_iinc (pc := 81) (q := 0) (x := (nI i)) (v := (nI (i + 1))) hC hNL [(2, .int (nI (i + 1))), (0, .ref (q 6)), (1, .ref (q 1))] dX1_giveAtFirst_81 rfl (nI_add _ _) (by decide) rfl ?_
                refine z_goto (pc := 84) (tgt := 52) hC dX1_giveAtFirst_84 (by decide) ?_
                exact ih52 (i + 1) (gvIt n rc r9 v n) (by omega) (by omega) (by first | rw [gv7_t h68, er9, tn_nI (by omega), hv] | rw [gv7_f h68, hv])
        exact L52 (cnt + 1) (0) (w) (by omega) (by omega) (by rw [hw, show i = n by omega]; rfl)
      · refine z_aload_n (pc := 10) hC 1 dX1_giveAtFirst_10 rfl ?_
        refine z_iconst (pc := 11) (v := (nI 1)) hC dX1_giveAtFirst_11 (by decide +kernel) ?_
        refine z_iload_n (pc := 12) hC 0 dX1_giveAtFirst_12 rfl ?_
        refine z_ishl (pc := 13) (v := (bitI i)) hC dX1_giveAtFirst_13 (rfl) ?_
        refine z_iload_n (pc := 14) hC 0 dX1_giveAtFirst_14 rfl ?_
        refine z_sipush (pc := 15) (v := (nI 255)) hC dX1_giveAtFirst_15 (by decide +kernel) ?_
        refine z_sipush (pc := 18) (v := (nI 4095)) hC dX1_giveAtFirst_18 (by decide +kernel) ?_
        refine z_sipush (pc := 21) (v := (nI 4095)) hC dX1_giveAtFirst_21 (by decide +kernel) ?_
        refine z_callV_V (pc := 24) (y := yX1_give) (wy := wsX1_give) (rm := { frames := 1, cells := 0, slots := 0, locals := 21 }) (As := [.int (bitI i), .int (nI i), .int (nI 255), .int (nI 4095), .int (nI 4095)]) (rest := []) (na := 5) (C := RX1) (T := TX1) (NF := 8) (ci := 2) (wc := [(q 6, .inr (2, [.ref (q 7), .ref (q 8), .ref (q 9), .ref (q 10), .int (nI n), .int fc, .int rc, .int w.2.2])), (q 8, .inl (cI, 168, .inl w.1)), (q 9, .inl (cJ, 4032, .inr (.inl w.2.1)))]) (wc2 := [(q 6, .inr (2, [.ref (q 7), .ref (q 8), .ref (q 9), .ref (q 10), .int (nI n), .int fc, .int rc, .int ((gv n rc (bitI i) i (nI 255) (nI 4095) (nI 4095) w).2.2)])), (q 8, .inl (cI, 168, .inl ((gv n rc (bitI i) i (nI 255) (nI 4095) (nI 4095) w).1))), (q 9, .inl (cJ, 4032, .inr (.inl ((gv n rc (bitI i) i (nI 255) (nI 4095) (nI 4095) w).2.1))))]) hC hRm hDis hLis 0 rfl rfl gX1_giveAtFirst_X1_give ⟨rfl, by decide +kernel, by decide +kernel⟩ rfl ⟨by decide, by decide⟩ ⟨by decide, by decide⟩ rfl (Nat.le_of_ble_eq_true rfl) (by decide +kernel) (c_X1_give _ _ cI cJ cZ (q) (w) (n) (fc) (rc) (bitI i) (i) (nI 255) (nI 4095) (nI 4095) (by omega) (hn)) [0, 1, 2] [3, 4, 5] [3, 4, 5, 0, 1, 2] [(q 1, .inr (1, [.ref (q 2), .ref (q 3), .ref (q 4), .ref (q 5), .int (nI cnt)])), (q 2, .inl (cI, 80, .inl Kd)), (q 3, .inl (cI, 80, .inl Aa))] rfl (by decide) rfl (by decide) (by decide) [(q 6, .inr (2, [.ref (q 7), .ref (q 8), .ref (q 9), .ref (q 10), .int (nI n), .int fc, .int rc, .int ((gv n rc (bitI i) i (nI 255) (nI 4095) (nI 4095) w).2.2)])), (q 8, .inl (cI, 168, .inl ((gv n rc (bitI i) i (nI 255) (nI 4095) (nI 4095) w).1))), (q 9, .inl (cJ, 4032, .inr (.inl ((gv n rc (bitI i) i (nI 255) (nI 4095) (nI 4095) w).2.1)))), (q 1, .inr (1, [.ref (q 2), .ref (q 3), .ref (q 4), .ref (q 5), .int (nI cnt)])), (q 2, .inl (cI, 80, .inl Kd)), (q 3, .inl (cI, 80, .inl Aa))] rfl (by decide) rfl dX1_giveAtFirst_24 ?_
        refine z_aload_n (pc := 27) hC 1 dX1_giveAtFirst_27 rfl ?_
        refine z_iconst (pc := 28) (v := (nI 1)) hC dX1_giveAtFirst_28 (by decide +kernel) ?_
        refine z_iload_n (pc := 29) hC 0 dX1_giveAtFirst_29 rfl ?_
        refine z_ishl (pc := 30) (v := (bitI i)) hC dX1_giveAtFirst_30 (rfl) ?_
        refine z_iconst (pc := 31) (v := (nI 0)) hC dX1_giveAtFirst_31 (by decide +kernel) ?_
        refine z_sipush (pc := 32) (v := (nI 255)) hC dX1_giveAtFirst_32 (by decide +kernel) ?_
        refine z_sipush (pc := 35) (v := (nI 4095)) hC dX1_giveAtFirst_35 (by decide +kernel) ?_
        refine z_sipush (pc := 38) (v := (nI 4095)) hC dX1_giveAtFirst_38 (by decide +kernel) ?_
        refine z_callV_V (pc := 41) (y := yX1_give) (wy := wsX1_give) (rm := { frames := 1, cells := 0, slots := 0, locals := 21 }) (As := [.int (bitI i), .int (nI 0), .int (nI 255), .int (nI 4095), .int (nI 4095)]) (rest := []) (na := 5) (C := RX1) (T := TX1) (NF := 8) (ci := 2) (wc := [(q 6, .inr (2, [.ref (q 7), .ref (q 8), .ref (q 9), .ref (q 10), .int (nI n), .int fc, .int rc, .int ((gv n rc (bitI i) i (nI 255) (nI 4095) (nI 4095) w).2.2)])), (q 8, .inl (cI, 168, .inl ((gv n rc (bitI i) i (nI 255) (nI 4095) (nI 4095) w).1))), (q 9, .inl (cJ, 4032, .inr (.inl ((gv n rc (bitI i) i (nI 255) (nI 4095) (nI 4095) w).2.1))))]) (wc2 := [(q 6, .inr (2, [.ref (q 7), .ref (q 8), .ref (q 9), .ref (q 10), .int (nI n), .int fc, .int rc, .int ((gv n rc (bitI i) 0 (nI 255) (nI 4095) (nI 4095) (gv n rc (bitI i) i (nI 255) (nI 4095) (nI 4095) w)).2.2)])), (q 8, .inl (cI, 168, .inl ((gv n rc (bitI i) 0 (nI 255) (nI 4095) (nI 4095) (gv n rc (bitI i) i (nI 255) (nI 4095) (nI 4095) w)).1))), (q 9, .inl (cJ, 4032, .inr (.inl ((gv n rc (bitI i) 0 (nI 255) (nI 4095) (nI 4095) (gv n rc (bitI i) i (nI 255) (nI 4095) (nI 4095) w)).2.1))))]) hC hRm hDis hLis 0 rfl rfl gX1_giveAtFirst_X1_give ⟨rfl, by decide +kernel, by decide +kernel⟩ rfl ⟨by decide, by decide⟩ ⟨by decide, by decide⟩ rfl (Nat.le_of_ble_eq_true rfl) (by decide +kernel) (c_X1_give _ _ cI cJ cZ (q) (gv n rc (bitI i) i (nI 255) (nI 4095) (nI 4095) w) (n) (fc) (rc) (bitI i) (0) (nI 255) (nI 4095) (nI 4095) (by decide) (hn)) [0, 1, 2] [3, 4, 5] [3, 4, 5, 0, 1, 2] [(q 1, .inr (1, [.ref (q 2), .ref (q 3), .ref (q 4), .ref (q 5), .int (nI cnt)])), (q 2, .inl (cI, 80, .inl Kd)), (q 3, .inl (cI, 80, .inl Aa))] rfl (by decide) rfl (by decide) (by decide) [(q 6, .inr (2, [.ref (q 7), .ref (q 8), .ref (q 9), .ref (q 10), .int (nI n), .int fc, .int rc, .int ((gv n rc (bitI i) 0 (nI 255) (nI 4095) (nI 4095) (gv n rc (bitI i) i (nI 255) (nI 4095) (nI 4095) w)).2.2)])), (q 8, .inl (cI, 168, .inl ((gv n rc (bitI i) 0 (nI 255) (nI 4095) (nI 4095) (gv n rc (bitI i) i (nI 255) (nI 4095) (nI 4095) w)).1))), (q 9, .inl (cJ, 4032, .inr (.inl ((gv n rc (bitI i) 0 (nI 255) (nI 4095) (nI 4095) (gv n rc (bitI i) i (nI 255) (nI 4095) (nI 4095) w)).2.1)))), (q 1, .inr (1, [.ref (q 2), .ref (q 3), .ref (q 4), .ref (q 5), .int (nI cnt)])), (q 2, .inl (cI, 80, .inl Kd)), (q 3, .inl (cI, 80, .inl Aa))] rfl (by decide) rfl dX1_giveAtFirst_41 ?_
        refine z_iinc (pc := 44) (q := 0) (x := (nI i)) (v := (nI (i + 1))) hC hNL [(2, .int (nI (i + 1))), (0, .ref (q 6)), (1, .ref (q 1))] dX1_giveAtFirst_44 rfl (nI_add _ _) (by decide) rfl ?_
        refine z_goto (pc := 47) (tgt := 2) hC dX1_giveAtFirst_47 (by decide) ?_
        exact ih2 (i + 1) (gv n rc (bitI i) 0 (nI 255) (nI 4095) (nI 4095) (gv n rc (bitI i) i (nI 255) (nI 4095) (nI 4095) w)) (by omega) (by omega) (by rw [hw]; rfl)
  exact L2 (n + 1) (0) (u) (by omega) (by omega) (rfl)

def byAx (n : Nat) (rc : Int32) (B : Nat → Int32) (k : Nat) (kd : Int32) (a b c : Nat) (u : GS) : GS :=
  if kd = nI 1 then gv n rc (B a) b (nI k) (nI a) (nI 4095) u
  else if kd = nI 2 then gvBoth n rc B (nI k) a b c u
  else if kd = nI 3 then gv n rc (B a) (lcol b c) (nI k) (nI a) (nI 4095) u
  else if kd = nI 4 then gvWh n rc B (nI k) a b c u n
  else if kd = nI 5 then gvRo n rc B (nI k) a b u n
  else if kd = nI 6 then gvC n rc B (nI k) a b c u n
  else u
section BYAX
variable {n : Nat} {rc : Int32} {B : Nat → Int32} {k : Nat} {kd : Int32} {a b c : Nat} {u : GS}
theorem byAx_1 (h : kd = nI 1) : byAx n rc B k kd a b c u = gv n rc (B a) b (nI k) (nI a) (nI 4095) u := if_pos h
theorem byAx_2 (h : kd = nI 2) : byAx n rc B k kd a b c u = gvBoth n rc B (nI k) a b c u := by subst h; rfl
theorem byAx_3 (h : kd = nI 3) : byAx n rc B k kd a b c u = gv n rc (B a) (lcol b c) (nI k) (nI a) (nI 4095) u := by subst h; rfl
theorem byAx_4 (h : kd = nI 4) : byAx n rc B k kd a b c u = gvWh n rc B (nI k) a b c u n := by subst h; rfl
theorem byAx_5 (h : kd = nI 5) : byAx n rc B k kd a b c u = gvRo n rc B (nI k) a b u n := by subst h; rfl
theorem byAx_6 (h : kd = nI 6) : byAx n rc B k kd a b c u = gvC n rc B (nI k) a b c u n := by subst h; rfl
theorem byAx_n (h1 : ¬ kd = nI 1) (h2 : ¬ kd = nI 2) (h3 : ¬ kd = nI 3) (h4 : ¬ kd = nI 4) (h5 : ¬ kd = nI 5) (h6 : ¬ kd = nI 6) : byAx n rc B k kd a b c u = u := by
  unfold byAx
  rw [if_neg h1, if_neg h2, if_neg h3, if_neg h4, if_neg h5, if_neg h6]
end BYAX

set_option maxRecDepth 100000 in
set_option maxHeartbeats 4000000 in
theorem c_X1_giveByAxiom (l : Launch) (D : va_G) (cI cJ cZ : ClassId) (q : Nat → Nat) (B : Nat → Int32) (u : GS) (n : Nat) (fc : Int32) (rc : Int32) (Kd : Nat → Int32) (Aa : Nat → Int32) (Ab : Nat → Int32) (Ac : Nat → Int32) (cnt : Nat) (k : Nat) (hn : n ≤ 24) (hk : k < 80) (hax : axV n (Kd k) (Aa k) (Ab k) (Ac k)) : MV l yX1_giveByAxiom wsX1_giveByAxiom { frames := 3, cells := 0, slots := 0, locals := 78 } D (tyL cI cJ cZ) [.ref (q 6), .ref (q 1), .int (nI k)] [(q 6, .inr (2, [.ref (q 7), .ref (q 8), .ref (q 9), .ref (q 10), .int (nI n), .int fc, .int rc, .int u.2.2])), (q 7, .inl (cI, 168, .inl B)), (q 8, .inl (cI, 168, .inl u.1)), (q 9, .inl (cJ, 4032, .inr (.inl u.2.1))), (q 1, .inr (1, [.ref (q 2), .ref (q 3), .ref (q 4), .ref (q 5), .int (nI cnt)])), (q 2, .inl (cI, 80, .inl Kd)), (q 3, .inl (cI, 80, .inl Aa)), (q 4, .inl (cI, 80, .inl Ab)), (q 5, .inl (cI, 80, .inl Ac))] [(q 6, .inr (2, [.ref (q 7), .ref (q 8), .ref (q 9), .ref (q 10), .int (nI n), .int fc, .int rc, .int ((byAx n rc B k (Kd k) (tn (Aa k)) (tn (Ab k)) (tn (Ac k)) u).2.2)])), (q 7, .inl (cI, 168, .inl B)), (q 8, .inl (cI, 168, .inl ((byAx n rc B k (Kd k) (tn (Aa k)) (tn (Ab k)) (tn (Ac k)) u).1))), (q 9, .inl (cJ, 4032, .inr (.inl ((byAx n rc B k (Kd k) (tn (Aa k)) (tn (Ab k)) (tn (Ac k)) u).2.1)))), (q 1, .inr (1, [.ref (q 2), .ref (q 3), .ref (q 4), .ref (q 5), .int (nI cnt)])), (q 2, .inl (cI, 80, .inl Kd)), (q 3, .inl (cI, 80, .inl Aa)), (q 4, .inl (cI, 80, .inl Ab)), (q 5, .inl (cI, 80, .inl Ac))] := by
  refine metV_of (cc := cX1_giveByAxiom) (maxL := 6) (ret := none) (by decide +kernel) rfl (Nat.le_of_ble_eq_true rfl) ?_
  intro K hC hRm hNL hDis hLis hRT hIni hQ
  have hinX0 : ∀ w ∈ wsX00, w ∈ wsX1_giveByAxiom := by decide +kernel
  have hinX1 : ∀ w ∈ wsX10, w ∈ wsX1_giveByAxiom := by decide +kernel
  refine z_aload_n (pc := 0) hC 1 dX1_giveByAxiom_0 rfl ?_
  refine z_getN (pc := 1) (C := RX0) (T := TX0) (N := 5) hC hinX0 4 rfl rfl 1 (by decide) (by decide +kernel) rfl dX1_giveByAxiom_1 ?_
  refine z_iload_n (pc := 4) hC 2 dX1_giveByAxiom_4 rfl ?_
  refine z_iald (pc := 5) (v := (Aa k)) hC 6 0 rfl rfl (by omega) (by decide) (rfl) dX1_giveByAxiom_5 ?_
  refine z_istore_n (pc := 6) hC hNL [(3, .int (Aa k)), (0, .ref (q 6)), (1, .ref (q 1)), (2, .int (nI k))] dX1_giveByAxiom_6 (by decide) rfl ?_
  refine z_aload_n (pc := 7) hC 2 dX1_giveByAxiom_7 rfl ?_
  refine z_getN (pc := 8) (C := RX0) (T := TX0) (N := 5) hC hinX0 4 rfl rfl 2 (by decide) (by decide +kernel) rfl dX1_giveByAxiom_8 ?_
  refine z_iload_n (pc := 11) hC 3 dX1_giveByAxiom_11 rfl ?_
  refine z_iald (pc := 12) (v := (Ab k)) hC 7 0 rfl rfl (by omega) (by decide) (rfl) dX1_giveByAxiom_12 ?_
  refine z_istore (pc := 13) hC hNL [(4, .int (Ab k)), (3, .int (Aa k)), (0, .ref (q 6)), (1, .ref (q 1)), (2, .int (nI k))] dX1_giveByAxiom_13 (by decide) rfl ?_
  refine z_aload_n (pc := 15) hC 3 dX1_giveByAxiom_15 rfl ?_
  refine z_getN (pc := 16) (C := RX0) (T := TX0) (N := 5) hC hinX0 4 rfl rfl 3 (by decide) (by decide +kernel) rfl dX1_giveByAxiom_16 ?_
  refine z_iload_n (pc := 19) hC 4 dX1_giveByAxiom_19 rfl ?_
  refine z_iald (pc := 20) (v := (Ac k)) hC 8 0 rfl rfl (by omega) (by decide) (rfl) dX1_giveByAxiom_20 ?_
  refine z_istore (pc := 21) hC hNL [(5, .int (Ac k)), (4, .int (Ab k)), (3, .int (Aa k)), (0, .ref (q 6)), (1, .ref (q 1)), (2, .int (nI k))] dX1_giveByAxiom_21 (by decide) rfl ?_
  refine z_aload_n (pc := 23) hC 4 dX1_giveByAxiom_23 rfl ?_
  refine z_getN (pc := 24) (C := RX0) (T := TX0) (N := 5) hC hinX0 4 rfl rfl 0 (by decide) (by decide +kernel) rfl dX1_giveByAxiom_24 ?_
  refine z_iload_n (pc := 27) hC 5 dX1_giveByAxiom_27 rfl ?_
  refine z_iald (pc := 28) (v := (Kd k)) hC 5 0 rfl rfl (by omega) (by decide) (rfl) dX1_giveByAxiom_28 ?_
  by_cases e29_1 : (Kd k) = nI 1
  · refine z_tableIn (pc := 29) (x := (Kd k)) (off := 39) (tgt := 68) hC dX1_giveByAxiom_29 (by rw [e29_1]; decide +kernel) (by rw [e29_1]; decide +kernel) (by rw [e29_1]; decide +kernel) (by decide) ?_
    obtain ⟨⟨ja, hja, ea⟩, jb, hjb, eb⟩ := hax.1 e29_1
    refine z_lveq [(5, .int (Ac k)), (4, .int (nI jb)), (3, .int (nI ja)), (0, .ref (q 6)), (1, .ref (q 1)), (2, .int (nI k))] (by rw [ea, eb]) ?_
    refine z_aload_n (pc := 68) hC 3 dX1_giveByAxiom_68 rfl ?_
    refine z_aload_n (pc := 69) hC 3 dX1_giveByAxiom_69 rfl ?_
    refine z_get (pc := 70) (C := RX1) (T := TX1) (N := 8) hC hinX1 0 rfl rfl 0 (by decide) (by decide +kernel) rfl dX1_giveByAxiom_70 ?_
    refine z_iload_n (pc := 73) hC 2 dX1_giveByAxiom_73 rfl ?_
    refine z_iald (pc := 74) (v := (B ja)) hC 1 0 rfl rfl (by omega) (by decide) (rfl) dX1_giveByAxiom_74 ?_
    refine z_iload (pc := 75) hC 1 dX1_giveByAxiom_75 rfl ?_
    refine z_iload_n (pc := 77) hC 5 dX1_giveByAxiom_77 rfl ?_
    refine z_iload_n (pc := 78) hC 2 dX1_giveByAxiom_78 rfl ?_
    refine z_sipush (pc := 79) (v := (nI 4095)) hC dX1_giveByAxiom_79 (by decide +kernel) ?_
    refine z_callV_V (pc := 82) (y := yX1_give) (wy := wsX1_give) (rm := { frames := 1, cells := 0, slots := 0, locals := 21 }) (As := [.int (B ja), .int (nI jb), .int (nI k), .int (nI ja), .int (nI 4095)]) (rest := []) (na := 5) (C := RX1) (T := TX1) (NF := 8) (ci := 2) (wc := [(q 6, .inr (2, [.ref (q 7), .ref (q 8), .ref (q 9), .ref (q 10), .int (nI n), .int fc, .int rc, .int u.2.2])), (q 8, .inl (cI, 168, .inl u.1)), (q 9, .inl (cJ, 4032, .inr (.inl u.2.1)))]) (wc2 := [(q 6, .inr (2, [.ref (q 7), .ref (q 8), .ref (q 9), .ref (q 10), .int (nI n), .int fc, .int rc, .int ((gv n rc (B ja) jb (nI k) (nI ja) (nI 4095) u).2.2)])), (q 8, .inl (cI, 168, .inl ((gv n rc (B ja) jb (nI k) (nI ja) (nI 4095) u).1))), (q 9, .inl (cJ, 4032, .inr (.inl ((gv n rc (B ja) jb (nI k) (nI ja) (nI 4095) u).2.1))))]) hC hRm hDis hLis 0 rfl rfl gX1_giveByAxiom_X1_give ⟨rfl, by decide +kernel, by decide +kernel⟩ rfl ⟨by decide, by decide⟩ ⟨by decide, by decide⟩ rfl (Nat.le_of_ble_eq_true rfl) (by decide +kernel) (c_X1_give _ _ cI cJ cZ (q) (u) (n) (fc) (rc) (B ja) (jb) (nI k) (nI ja) (nI 4095) (by omega) (hn)) [0, 2, 3] [1, 4, 5, 6, 7, 8] [6, 0, 7, 8, 1, 2, 3, 4, 5] [(q 7, .inl (cI, 168, .inl B)), (q 1, .inr (1, [.ref (q 2), .ref (q 3), .ref (q 4), .ref (q 5), .int (nI cnt)])), (q 2, .inl (cI, 80, .inl Kd)), (q 3, .inl (cI, 80, .inl Aa)), (q 4, .inl (cI, 80, .inl Ab)), (q 5, .inl (cI, 80, .inl Ac))] rfl (by decide) rfl (by decide) (by decide) [(q 6, .inr (2, [.ref (q 7), .ref (q 8), .ref (q 9), .ref (q 10), .int (nI n), .int fc, .int rc, .int ((gv n rc (B ja) jb (nI k) (nI ja) (nI 4095) u).2.2)])), (q 7, .inl (cI, 168, .inl B)), (q 8, .inl (cI, 168, .inl ((gv n rc (B ja) jb (nI k) (nI ja) (nI 4095) u).1))), (q 9, .inl (cJ, 4032, .inr (.inl ((gv n rc (B ja) jb (nI k) (nI ja) (nI 4095) u).2.1)))), (q 1, .inr (1, [.ref (q 2), .ref (q 3), .ref (q 4), .ref (q 5), .int (nI cnt)])), (q 2, .inl (cI, 80, .inl Kd)), (q 3, .inl (cI, 80, .inl Aa)), (q 4, .inl (cI, 80, .inl Ab)), (q 5, .inl (cI, 80, .inl Ac))] rfl (by decide) rfl dX1_giveByAxiom_82 ?_
    refine z_goto (pc := 85) (tgt := 163) hC dX1_giveByAxiom_85 (by decide) ?_
    exact z_vret (pc := 163) hC hQ hRT (by
    first
    | rw [byAx_1 e29_1, ea, eb, tn_nI (by omega), tn_nI (by omega)]
    | rw [byAx_2 e29_2, ea, eb, ec, tn_nI (by omega), tn_nI (by omega), tn_nI (by omega)]
    | rw [byAx_3 e29_3, ea, eb, ec, tn_nI (by omega), tn_nI (by omega), tn_nI (by omega)]
    | rw [byAx_4 e29_4, ea, eb, ec, tn_nI (by omega), tn_nI (by omega), tn_nI (by omega)]
    | rw [byAx_5 e29_5, ea, eb, tn_nI (by omega), tn_nI (by omega)]
    | rw [byAx_6 e29_6, ea, eb, ec, tn_nI (by omega), tn_nI (by omega), tn_nI (by omega)]
    | rw [byAx_n e29_1 e29_2 e29_3 e29_4 e29_5 e29_6]) dX1_giveByAxiom_163
  by_cases e29_2 : (Kd k) = nI 2
  · refine z_tableIn (pc := 29) (x := (Kd k)) (off := 59) (tgt := 88) hC dX1_giveByAxiom_29 (by rw [e29_2]; decide +kernel) (by rw [e29_2]; decide +kernel) (by rw [e29_2]; decide +kernel) (by decide) ?_
    obtain ⟨⟨ja, hja, ea⟩, ⟨jb, hjb, eb⟩, jc, hjc, ec⟩ := hax.2.1 e29_2
    refine z_lveq [(5, .int (nI jc)), (4, .int (nI jb)), (3, .int (nI ja)), (0, .ref (q 6)), (1, .ref (q 1)), (2, .int (nI k))] (by rw [ea, eb, ec]) ?_
    refine z_aload_n (pc := 88) hC 3 dX1_giveByAxiom_88 rfl ?_
    refine z_iload_n (pc := 89) hC 5 dX1_giveByAxiom_89 rfl ?_
    refine z_iload_n (pc := 90) hC 2 dX1_giveByAxiom_90 rfl ?_
    refine z_iload (pc := 91) hC 1 dX1_giveByAxiom_91 rfl ?_
    refine z_iload (pc := 93) hC 0 dX1_giveByAxiom_93 rfl ?_
    refine z_callV_V (pc := 95) (y := yX1_giveToBoth) (wy := wsX1_giveToBoth) (rm := { frames := 2, cells := 0, slots := 0, locals := 49 }) (As := [.int (nI k), .int (nI ja), .int (nI jb), .int (nI jc)]) (rest := []) (na := 4) (C := RX1) (T := TX1) (NF := 8) (ci := 2) (wc := [(q 6, .inr (2, [.ref (q 7), .ref (q 8), .ref (q 9), .ref (q 10), .int (nI n), .int fc, .int rc, .int u.2.2])), (q 7, .inl (cI, 168, .inl B)), (q 8, .inl (cI, 168, .inl u.1)), (q 9, .inl (cJ, 4032, .inr (.inl u.2.1)))]) (wc2 := [(q 6, .inr (2, [.ref (q 7), .ref (q 8), .ref (q 9), .ref (q 10), .int (nI n), .int fc, .int rc, .int ((gvBoth n rc B (nI k) ja jb jc u).2.2)])), (q 7, .inl (cI, 168, .inl B)), (q 8, .inl (cI, 168, .inl ((gvBoth n rc B (nI k) ja jb jc u).1))), (q 9, .inl (cJ, 4032, .inr (.inl ((gvBoth n rc B (nI k) ja jb jc u).2.1))))]) hC hRm hDis hLis 0 rfl rfl gX1_giveByAxiom_X1_giveToBoth ⟨rfl, by decide +kernel, by decide +kernel⟩ rfl ⟨by decide, by decide⟩ ⟨by decide, by decide⟩ rfl (Nat.le_of_ble_eq_true rfl) (by decide +kernel) (c_X1_giveToBoth _ _ cI cJ cZ (q) (B) (u) (n) (fc) (rc) (nI k) (ja) (jb) (jc) (by omega) (by omega) (by omega) (by omega)) [0, 1, 2, 3] [4, 5, 6, 7, 8] [5, 6, 7, 8, 0, 1, 2, 3, 4] [(q 1, .inr (1, [.ref (q 2), .ref (q 3), .ref (q 4), .ref (q 5), .int (nI cnt)])), (q 2, .inl (cI, 80, .inl Kd)), (q 3, .inl (cI, 80, .inl Aa)), (q 4, .inl (cI, 80, .inl Ab)), (q 5, .inl (cI, 80, .inl Ac))] rfl (by decide) rfl (by decide) (by decide) [(q 6, .inr (2, [.ref (q 7), .ref (q 8), .ref (q 9), .ref (q 10), .int (nI n), .int fc, .int rc, .int ((gvBoth n rc B (nI k) ja jb jc u).2.2)])), (q 7, .inl (cI, 168, .inl B)), (q 8, .inl (cI, 168, .inl ((gvBoth n rc B (nI k) ja jb jc u).1))), (q 9, .inl (cJ, 4032, .inr (.inl ((gvBoth n rc B (nI k) ja jb jc u).2.1)))), (q 1, .inr (1, [.ref (q 2), .ref (q 3), .ref (q 4), .ref (q 5), .int (nI cnt)])), (q 2, .inl (cI, 80, .inl Kd)), (q 3, .inl (cI, 80, .inl Aa)), (q 4, .inl (cI, 80, .inl Ab)), (q 5, .inl (cI, 80, .inl Ac))] rfl (by decide) rfl dX1_giveByAxiom_95 ?_
    refine z_goto (pc := 98) (tgt := 163) hC dX1_giveByAxiom_98 (by decide) ?_
    exact z_vret (pc := 163) hC hQ hRT (by
    first
    | rw [byAx_1 e29_1, ea, eb, tn_nI (by omega), tn_nI (by omega)]
    | rw [byAx_2 e29_2, ea, eb, ec, tn_nI (by omega), tn_nI (by omega), tn_nI (by omega)]
    | rw [byAx_3 e29_3, ea, eb, ec, tn_nI (by omega), tn_nI (by omega), tn_nI (by omega)]
    | rw [byAx_4 e29_4, ea, eb, ec, tn_nI (by omega), tn_nI (by omega), tn_nI (by omega)]
    | rw [byAx_5 e29_5, ea, eb, tn_nI (by omega), tn_nI (by omega)]
    | rw [byAx_6 e29_6, ea, eb, ec, tn_nI (by omega), tn_nI (by omega), tn_nI (by omega)]
    | rw [byAx_n e29_1 e29_2 e29_3 e29_4 e29_5 e29_6]) dX1_giveByAxiom_163
  by_cases e29_3 : (Kd k) = nI 3
  · refine z_tableIn (pc := 29) (x := (Kd k)) (off := 72) (tgt := 101) hC dX1_giveByAxiom_29 (by rw [e29_3]; decide +kernel) (by rw [e29_3]; decide +kernel) (by rw [e29_3]; decide +kernel) (by decide) ?_
    obtain ⟨⟨ja, hja, ea⟩, ⟨jb, hjb, eb⟩, jc, hjc, ec⟩ := hax.2.2.1 e29_3
    refine z_lveq [(5, .int (nI jc)), (4, .int (nI jb)), (3, .int (nI ja)), (0, .ref (q 6)), (1, .ref (q 1)), (2, .int (nI k))] (by rw [ea, eb, ec]) ?_
    refine z_aload_n (pc := 101) hC 3 dX1_giveByAxiom_101 rfl ?_
    refine z_aload_n (pc := 102) hC 3 dX1_giveByAxiom_102 rfl ?_
    refine z_get (pc := 103) (C := RX1) (T := TX1) (N := 8) hC hinX1 0 rfl rfl 0 (by decide) (by decide +kernel) rfl dX1_giveByAxiom_103 ?_
    refine z_iload_n (pc := 106) hC 2 dX1_giveByAxiom_106 rfl ?_
    refine z_iald (pc := 107) (v := (B ja)) hC 1 0 rfl rfl (by omega) (by decide) (rfl) dX1_giveByAxiom_107 ?_
    refine z_iload (pc := 108) hC 1 dX1_giveByAxiom_108 rfl ?_
    refine z_iload (pc := 110) hC 0 dX1_giveByAxiom_110 rfl ?_
    refine z_callSN_I (pc := 112) (y := yX3_linkColumn) (wy := wsX3_linkColumn) (rm := { frames := 0, cells := 0, slots := 0, locals := 0 }) (As := [.int (nI jb), .int (nI jc)]) (rest := [.int (B ja), .ref (q 6)]) (na := 2)  (wc := []) (wc2 := []) hC hRm hDis hLis gX1_giveByAxiom_X3_linkColumn_n92 (by decide +kernel) (by decide +kernel) (by decide +kernel) ⟨by decide +kernel, by decide +kernel⟩ rfl ⟨by decide, by decide⟩ ⟨by decide, by decide⟩ rfl (Nat.le_of_ble_eq_true rfl) (by decide +kernel) (c_X3_linkColumnN _ _ cI cJ cZ (jb) (jc) ) [] [0, 1, 2, 3, 4, 5, 6, 7, 8] [0, 1, 2, 3, 4, 5, 6, 7, 8] [(q 6, .inr (2, [.ref (q 7), .ref (q 8), .ref (q 9), .ref (q 10), .int (nI n), .int fc, .int rc, .int u.2.2])), (q 7, .inl (cI, 168, .inl B)), (q 8, .inl (cI, 168, .inl u.1)), (q 9, .inl (cJ, 4032, .inr (.inl u.2.1))), (q 1, .inr (1, [.ref (q 2), .ref (q 3), .ref (q 4), .ref (q 5), .int (nI cnt)])), (q 2, .inl (cI, 80, .inl Kd)), (q 3, .inl (cI, 80, .inl Aa)), (q 4, .inl (cI, 80, .inl Ab)), (q 5, .inl (cI, 80, .inl Ac))] rfl (by decide) rfl (by decide) (by decide) [(q 6, .inr (2, [.ref (q 7), .ref (q 8), .ref (q 9), .ref (q 10), .int (nI n), .int fc, .int rc, .int u.2.2])), (q 7, .inl (cI, 168, .inl B)), (q 8, .inl (cI, 168, .inl u.1)), (q 9, .inl (cJ, 4032, .inr (.inl u.2.1))), (q 1, .inr (1, [.ref (q 2), .ref (q 3), .ref (q 4), .ref (q 5), .int (nI cnt)])), (q 2, .inl (cI, 80, .inl Kd)), (q 3, .inl (cI, 80, .inl Aa)), (q 4, .inl (cI, 80, .inl Ab)), (q 5, .inl (cI, 80, .inl Ac))] rfl (by decide) rfl dX1_giveByAxiom_112 ?_
    refine z_iload_n (pc := 115) hC 5 dX1_giveByAxiom_115 rfl ?_
    refine z_iload_n (pc := 116) hC 2 dX1_giveByAxiom_116 rfl ?_
    refine z_sipush (pc := 117) (v := (nI 4095)) hC dX1_giveByAxiom_117 (by decide +kernel) ?_
    refine z_callV_V (pc := 120) (y := yX1_give) (wy := wsX1_give) (rm := { frames := 1, cells := 0, slots := 0, locals := 21 }) (As := [.int (B ja), .int (nI (lcol jb jc)), .int (nI k), .int (nI ja), .int (nI 4095)]) (rest := []) (na := 5) (C := RX1) (T := TX1) (NF := 8) (ci := 2) (wc := [(q 6, .inr (2, [.ref (q 7), .ref (q 8), .ref (q 9), .ref (q 10), .int (nI n), .int fc, .int rc, .int u.2.2])), (q 8, .inl (cI, 168, .inl u.1)), (q 9, .inl (cJ, 4032, .inr (.inl u.2.1)))]) (wc2 := [(q 6, .inr (2, [.ref (q 7), .ref (q 8), .ref (q 9), .ref (q 10), .int (nI n), .int fc, .int rc, .int ((gv n rc (B ja) (lcol jb jc) (nI k) (nI ja) (nI 4095) u).2.2)])), (q 8, .inl (cI, 168, .inl ((gv n rc (B ja) (lcol jb jc) (nI k) (nI ja) (nI 4095) u).1))), (q 9, .inl (cJ, 4032, .inr (.inl ((gv n rc (B ja) (lcol jb jc) (nI k) (nI ja) (nI 4095) u).2.1))))]) hC hRm hDis hLis 0 rfl rfl gX1_giveByAxiom_X1_give ⟨rfl, by decide +kernel, by decide +kernel⟩ rfl ⟨by decide, by decide⟩ ⟨by decide, by decide⟩ rfl (Nat.le_of_ble_eq_true rfl) (by decide +kernel) (c_X1_give _ _ cI cJ cZ (q) (u) (n) (fc) (rc) (B ja) (lcol jb jc) (nI k) (nI ja) (nI 4095) (lcol_lt (by omega) (by omega)) (hn)) [0, 2, 3] [1, 4, 5, 6, 7, 8] [6, 0, 7, 8, 1, 2, 3, 4, 5] [(q 7, .inl (cI, 168, .inl B)), (q 1, .inr (1, [.ref (q 2), .ref (q 3), .ref (q 4), .ref (q 5), .int (nI cnt)])), (q 2, .inl (cI, 80, .inl Kd)), (q 3, .inl (cI, 80, .inl Aa)), (q 4, .inl (cI, 80, .inl Ab)), (q 5, .inl (cI, 80, .inl Ac))] rfl (by decide) rfl (by decide) (by decide) [(q 6, .inr (2, [.ref (q 7), .ref (q 8), .ref (q 9), .ref (q 10), .int (nI n), .int fc, .int rc, .int ((gv n rc (B ja) (lcol jb jc) (nI k) (nI ja) (nI 4095) u).2.2)])), (q 7, .inl (cI, 168, .inl B)), (q 8, .inl (cI, 168, .inl ((gv n rc (B ja) (lcol jb jc) (nI k) (nI ja) (nI 4095) u).1))), (q 9, .inl (cJ, 4032, .inr (.inl ((gv n rc (B ja) (lcol jb jc) (nI k) (nI ja) (nI 4095) u).2.1)))), (q 1, .inr (1, [.ref (q 2), .ref (q 3), .ref (q 4), .ref (q 5), .int (nI cnt)])), (q 2, .inl (cI, 80, .inl Kd)), (q 3, .inl (cI, 80, .inl Aa)), (q 4, .inl (cI, 80, .inl Ab)), (q 5, .inl (cI, 80, .inl Ac))] rfl (by decide) rfl dX1_giveByAxiom_120 ?_
    refine z_goto (pc := 123) (tgt := 163) hC dX1_giveByAxiom_123 (by decide) ?_
    exact z_vret (pc := 163) hC hQ hRT (by
    first
    | rw [byAx_1 e29_1, ea, eb, tn_nI (by omega), tn_nI (by omega)]
    | rw [byAx_2 e29_2, ea, eb, ec, tn_nI (by omega), tn_nI (by omega), tn_nI (by omega)]
    | rw [byAx_3 e29_3, ea, eb, ec, tn_nI (by omega), tn_nI (by omega), tn_nI (by omega)]
    | rw [byAx_4 e29_4, ea, eb, ec, tn_nI (by omega), tn_nI (by omega), tn_nI (by omega)]
    | rw [byAx_5 e29_5, ea, eb, tn_nI (by omega), tn_nI (by omega)]
    | rw [byAx_6 e29_6, ea, eb, ec, tn_nI (by omega), tn_nI (by omega), tn_nI (by omega)]
    | rw [byAx_n e29_1 e29_2 e29_3 e29_4 e29_5 e29_6]) dX1_giveByAxiom_163
  by_cases e29_4 : (Kd k) = nI 4
  · refine z_tableIn (pc := 29) (x := (Kd k)) (off := 97) (tgt := 126) hC dX1_giveByAxiom_29 (by rw [e29_4]; decide +kernel) (by rw [e29_4]; decide +kernel) (by rw [e29_4]; decide +kernel) (by decide) ?_
    obtain ⟨⟨ja, hja, ea⟩, ⟨jb, hjb, eb⟩, jc, hjc, ec⟩ := hax.2.2.2.1 e29_4
    refine z_lveq [(5, .int (nI jc)), (4, .int (nI jb)), (3, .int (nI ja)), (0, .ref (q 6)), (1, .ref (q 1)), (2, .int (nI k))] (by rw [ea, eb, ec]) ?_
    refine z_aload_n (pc := 126) hC 3 dX1_giveByAxiom_126 rfl ?_
    refine z_iload_n (pc := 127) hC 5 dX1_giveByAxiom_127 rfl ?_
    refine z_iload_n (pc := 128) hC 2 dX1_giveByAxiom_128 rfl ?_
    refine z_iload (pc := 129) hC 1 dX1_giveByAxiom_129 rfl ?_
    refine z_iload (pc := 131) hC 0 dX1_giveByAxiom_131 rfl ?_
    refine z_callV_V (pc := 133) (y := yX1_giveToWhatHas) (wy := wsX1_giveToWhatHas) (rm := { frames := 2, cells := 0, slots := 0, locals := 49 }) (As := [.int (nI k), .int (nI ja), .int (nI jb), .int (nI jc)]) (rest := []) (na := 4) (C := RX1) (T := TX1) (NF := 8) (ci := 2) (wc := [(q 6, .inr (2, [.ref (q 7), .ref (q 8), .ref (q 9), .ref (q 10), .int (nI n), .int fc, .int rc, .int u.2.2])), (q 7, .inl (cI, 168, .inl B)), (q 8, .inl (cI, 168, .inl u.1)), (q 9, .inl (cJ, 4032, .inr (.inl u.2.1)))]) (wc2 := [(q 6, .inr (2, [.ref (q 7), .ref (q 8), .ref (q 9), .ref (q 10), .int (nI n), .int fc, .int rc, .int ((gvWh n rc B (nI k) ja jb jc u n).2.2)])), (q 7, .inl (cI, 168, .inl B)), (q 8, .inl (cI, 168, .inl ((gvWh n rc B (nI k) ja jb jc u n).1))), (q 9, .inl (cJ, 4032, .inr (.inl ((gvWh n rc B (nI k) ja jb jc u n).2.1))))]) hC hRm hDis hLis 0 rfl rfl gX1_giveByAxiom_X1_giveToWhatHas ⟨rfl, by decide +kernel, by decide +kernel⟩ rfl ⟨by decide, by decide⟩ ⟨by decide, by decide⟩ rfl (Nat.le_of_ble_eq_true rfl) (by decide +kernel) (c_X1_giveToWhatHas _ _ cI cJ cZ (q) (B) (u) (n) (fc) (rc) (nI k) (ja) (jb) (jc) (by omega) (by omega) (by omega) (by omega)) [0, 1, 2, 3] [4, 5, 6, 7, 8] [5, 6, 7, 8, 0, 1, 2, 3, 4] [(q 1, .inr (1, [.ref (q 2), .ref (q 3), .ref (q 4), .ref (q 5), .int (nI cnt)])), (q 2, .inl (cI, 80, .inl Kd)), (q 3, .inl (cI, 80, .inl Aa)), (q 4, .inl (cI, 80, .inl Ab)), (q 5, .inl (cI, 80, .inl Ac))] rfl (by decide) rfl (by decide) (by decide) [(q 6, .inr (2, [.ref (q 7), .ref (q 8), .ref (q 9), .ref (q 10), .int (nI n), .int fc, .int rc, .int ((gvWh n rc B (nI k) ja jb jc u n).2.2)])), (q 7, .inl (cI, 168, .inl B)), (q 8, .inl (cI, 168, .inl ((gvWh n rc B (nI k) ja jb jc u n).1))), (q 9, .inl (cJ, 4032, .inr (.inl ((gvWh n rc B (nI k) ja jb jc u n).2.1)))), (q 1, .inr (1, [.ref (q 2), .ref (q 3), .ref (q 4), .ref (q 5), .int (nI cnt)])), (q 2, .inl (cI, 80, .inl Kd)), (q 3, .inl (cI, 80, .inl Aa)), (q 4, .inl (cI, 80, .inl Ab)), (q 5, .inl (cI, 80, .inl Ac))] rfl (by decide) rfl dX1_giveByAxiom_133 ?_
    refine z_goto (pc := 136) (tgt := 163) hC dX1_giveByAxiom_136 (by decide) ?_
    exact z_vret (pc := 163) hC hQ hRT (by
    first
    | rw [byAx_1 e29_1, ea, eb, tn_nI (by omega), tn_nI (by omega)]
    | rw [byAx_2 e29_2, ea, eb, ec, tn_nI (by omega), tn_nI (by omega), tn_nI (by omega)]
    | rw [byAx_3 e29_3, ea, eb, ec, tn_nI (by omega), tn_nI (by omega), tn_nI (by omega)]
    | rw [byAx_4 e29_4, ea, eb, ec, tn_nI (by omega), tn_nI (by omega), tn_nI (by omega)]
    | rw [byAx_5 e29_5, ea, eb, tn_nI (by omega), tn_nI (by omega)]
    | rw [byAx_6 e29_6, ea, eb, ec, tn_nI (by omega), tn_nI (by omega), tn_nI (by omega)]
    | rw [byAx_n e29_1 e29_2 e29_3 e29_4 e29_5 e29_6]) dX1_giveByAxiom_163
  by_cases e29_5 : (Kd k) = nI 5
  · refine z_tableIn (pc := 29) (x := (Kd k)) (off := 110) (tgt := 139) hC dX1_giveByAxiom_29 (by rw [e29_5]; decide +kernel) (by rw [e29_5]; decide +kernel) (by rw [e29_5]; decide +kernel) (by decide) ?_
    obtain ⟨⟨ja, hja, ea⟩, jb, hjb, eb⟩ := hax.2.2.2.2.1 e29_5
    refine z_lveq [(5, .int (Ac k)), (4, .int (nI jb)), (3, .int (nI ja)), (0, .ref (q 6)), (1, .ref (q 1)), (2, .int (nI k))] (by rw [ea, eb]) ?_
    refine z_aload_n (pc := 139) hC 3 dX1_giveByAxiom_139 rfl ?_
    refine z_iload_n (pc := 140) hC 5 dX1_giveByAxiom_140 rfl ?_
    refine z_iload_n (pc := 141) hC 2 dX1_giveByAxiom_141 rfl ?_
    refine z_iload (pc := 142) hC 1 dX1_giveByAxiom_142 rfl ?_
    refine z_callV_V (pc := 144) (y := yX1_giveRole) (wy := wsX1_giveRole) (rm := { frames := 2, cells := 0, slots := 0, locals := 49 }) (As := [.int (nI k), .int (nI ja), .int (nI jb)]) (rest := []) (na := 3) (C := RX1) (T := TX1) (NF := 8) (ci := 2) (wc := [(q 6, .inr (2, [.ref (q 7), .ref (q 8), .ref (q 9), .ref (q 10), .int (nI n), .int fc, .int rc, .int u.2.2])), (q 7, .inl (cI, 168, .inl B)), (q 8, .inl (cI, 168, .inl u.1)), (q 9, .inl (cJ, 4032, .inr (.inl u.2.1)))]) (wc2 := [(q 6, .inr (2, [.ref (q 7), .ref (q 8), .ref (q 9), .ref (q 10), .int (nI n), .int fc, .int rc, .int ((gvRo n rc B (nI k) ja jb u n).2.2)])), (q 7, .inl (cI, 168, .inl B)), (q 8, .inl (cI, 168, .inl ((gvRo n rc B (nI k) ja jb u n).1))), (q 9, .inl (cJ, 4032, .inr (.inl ((gvRo n rc B (nI k) ja jb u n).2.1))))]) hC hRm hDis hLis 0 rfl rfl gX1_giveByAxiom_X1_giveRole ⟨rfl, by decide +kernel, by decide +kernel⟩ rfl ⟨by decide, by decide⟩ ⟨by decide, by decide⟩ rfl (Nat.le_of_ble_eq_true rfl) (by decide +kernel) (c_X1_giveRole _ _ cI cJ cZ (q) (B) (u) (n) (fc) (rc) (nI k) (ja) (jb) (by omega) (by omega) (by omega)) [0, 1, 2, 3] [4, 5, 6, 7, 8] [5, 6, 7, 8, 0, 1, 2, 3, 4] [(q 1, .inr (1, [.ref (q 2), .ref (q 3), .ref (q 4), .ref (q 5), .int (nI cnt)])), (q 2, .inl (cI, 80, .inl Kd)), (q 3, .inl (cI, 80, .inl Aa)), (q 4, .inl (cI, 80, .inl Ab)), (q 5, .inl (cI, 80, .inl Ac))] rfl (by decide) rfl (by decide) (by decide) [(q 6, .inr (2, [.ref (q 7), .ref (q 8), .ref (q 9), .ref (q 10), .int (nI n), .int fc, .int rc, .int ((gvRo n rc B (nI k) ja jb u n).2.2)])), (q 7, .inl (cI, 168, .inl B)), (q 8, .inl (cI, 168, .inl ((gvRo n rc B (nI k) ja jb u n).1))), (q 9, .inl (cJ, 4032, .inr (.inl ((gvRo n rc B (nI k) ja jb u n).2.1)))), (q 1, .inr (1, [.ref (q 2), .ref (q 3), .ref (q 4), .ref (q 5), .int (nI cnt)])), (q 2, .inl (cI, 80, .inl Kd)), (q 3, .inl (cI, 80, .inl Aa)), (q 4, .inl (cI, 80, .inl Ab)), (q 5, .inl (cI, 80, .inl Ac))] rfl (by decide) rfl dX1_giveByAxiom_144 ?_
    refine z_goto (pc := 147) (tgt := 163) hC dX1_giveByAxiom_147 (by decide) ?_
    exact z_vret (pc := 163) hC hQ hRT (by
    first
    | rw [byAx_1 e29_1, ea, eb, tn_nI (by omega), tn_nI (by omega)]
    | rw [byAx_2 e29_2, ea, eb, ec, tn_nI (by omega), tn_nI (by omega), tn_nI (by omega)]
    | rw [byAx_3 e29_3, ea, eb, ec, tn_nI (by omega), tn_nI (by omega), tn_nI (by omega)]
    | rw [byAx_4 e29_4, ea, eb, ec, tn_nI (by omega), tn_nI (by omega), tn_nI (by omega)]
    | rw [byAx_5 e29_5, ea, eb, tn_nI (by omega), tn_nI (by omega)]
    | rw [byAx_6 e29_6, ea, eb, ec, tn_nI (by omega), tn_nI (by omega), tn_nI (by omega)]
    | rw [byAx_n e29_1 e29_2 e29_3 e29_4 e29_5 e29_6]) dX1_giveByAxiom_163
  by_cases e29_6 : (Kd k) = nI 6
  · refine z_tableIn (pc := 29) (x := (Kd k)) (off := 121) (tgt := 150) hC dX1_giveByAxiom_29 (by rw [e29_6]; decide +kernel) (by rw [e29_6]; decide +kernel) (by rw [e29_6]; decide +kernel) (by decide) ?_
    obtain ⟨⟨ja, hja, ea⟩, ⟨jb, hjb, eb⟩, jc, hjc, ec⟩ := hax.2.2.2.2.2.1 e29_6
    refine z_lveq [(5, .int (nI jc)), (4, .int (nI jb)), (3, .int (nI ja)), (0, .ref (q 6)), (1, .ref (q 1)), (2, .int (nI k))] (by rw [ea, eb, ec]) ?_
    refine z_aload_n (pc := 150) hC 3 dX1_giveByAxiom_150 rfl ?_
    refine z_iload_n (pc := 151) hC 5 dX1_giveByAxiom_151 rfl ?_
    refine z_iload_n (pc := 152) hC 2 dX1_giveByAxiom_152 rfl ?_
    refine z_iload (pc := 153) hC 1 dX1_giveByAxiom_153 rfl ?_
    refine z_iload (pc := 155) hC 0 dX1_giveByAxiom_155 rfl ?_
    refine z_callV_V (pc := 157) (y := yX1_giveChain) (wy := wsX1_giveChain) (rm := { frames := 2, cells := 0, slots := 0, locals := 49 }) (As := [.int (nI k), .int (nI ja), .int (nI jb), .int (nI jc)]) (rest := []) (na := 4) (C := RX1) (T := TX1) (NF := 8) (ci := 2) (wc := [(q 6, .inr (2, [.ref (q 7), .ref (q 8), .ref (q 9), .ref (q 10), .int (nI n), .int fc, .int rc, .int u.2.2])), (q 7, .inl (cI, 168, .inl B)), (q 8, .inl (cI, 168, .inl u.1)), (q 9, .inl (cJ, 4032, .inr (.inl u.2.1)))]) (wc2 := [(q 6, .inr (2, [.ref (q 7), .ref (q 8), .ref (q 9), .ref (q 10), .int (nI n), .int fc, .int rc, .int ((gvC n rc B (nI k) ja jb jc u n).2.2)])), (q 7, .inl (cI, 168, .inl B)), (q 8, .inl (cI, 168, .inl ((gvC n rc B (nI k) ja jb jc u n).1))), (q 9, .inl (cJ, 4032, .inr (.inl ((gvC n rc B (nI k) ja jb jc u n).2.1))))]) hC hRm hDis hLis 0 rfl rfl gX1_giveByAxiom_X1_giveChain ⟨rfl, by decide +kernel, by decide +kernel⟩ rfl ⟨by decide, by decide⟩ ⟨by decide, by decide⟩ rfl (Nat.le_of_ble_eq_true rfl) (by decide +kernel) (c_X1_giveChain _ _ cI cJ cZ (q) (B) (u) (n) (fc) (rc) (nI k) (ja) (jb) (jc) (by omega) (by omega) (by omega) (by omega)) [0, 1, 2, 3] [4, 5, 6, 7, 8] [5, 6, 7, 8, 0, 1, 2, 3, 4] [(q 1, .inr (1, [.ref (q 2), .ref (q 3), .ref (q 4), .ref (q 5), .int (nI cnt)])), (q 2, .inl (cI, 80, .inl Kd)), (q 3, .inl (cI, 80, .inl Aa)), (q 4, .inl (cI, 80, .inl Ab)), (q 5, .inl (cI, 80, .inl Ac))] rfl (by decide) rfl (by decide) (by decide) [(q 6, .inr (2, [.ref (q 7), .ref (q 8), .ref (q 9), .ref (q 10), .int (nI n), .int fc, .int rc, .int ((gvC n rc B (nI k) ja jb jc u n).2.2)])), (q 7, .inl (cI, 168, .inl B)), (q 8, .inl (cI, 168, .inl ((gvC n rc B (nI k) ja jb jc u n).1))), (q 9, .inl (cJ, 4032, .inr (.inl ((gvC n rc B (nI k) ja jb jc u n).2.1)))), (q 1, .inr (1, [.ref (q 2), .ref (q 3), .ref (q 4), .ref (q 5), .int (nI cnt)])), (q 2, .inl (cI, 80, .inl Kd)), (q 3, .inl (cI, 80, .inl Aa)), (q 4, .inl (cI, 80, .inl Ab)), (q 5, .inl (cI, 80, .inl Ac))] rfl (by decide) rfl dX1_giveByAxiom_157 ?_
    refine z_goto (pc := 160) (tgt := 163) hC dX1_giveByAxiom_160 (by decide) ?_
    exact z_vret (pc := 163) hC hQ hRT (by
    first
    | rw [byAx_1 e29_1, ea, eb, tn_nI (by omega), tn_nI (by omega)]
    | rw [byAx_2 e29_2, ea, eb, ec, tn_nI (by omega), tn_nI (by omega), tn_nI (by omega)]
    | rw [byAx_3 e29_3, ea, eb, ec, tn_nI (by omega), tn_nI (by omega), tn_nI (by omega)]
    | rw [byAx_4 e29_4, ea, eb, ec, tn_nI (by omega), tn_nI (by omega), tn_nI (by omega)]
    | rw [byAx_5 e29_5, ea, eb, tn_nI (by omega), tn_nI (by omega)]
    | rw [byAx_6 e29_6, ea, eb, ec, tn_nI (by omega), tn_nI (by omega), tn_nI (by omega)]
    | rw [byAx_n e29_1 e29_2 e29_3 e29_4 e29_5 e29_6]) dX1_giveByAxiom_163
  refine z_tableOut (pc := 29) (x := (Kd k)) (tgt := 163) hC dX1_giveByAxiom_29 (by have q0 := sw_ne e29_1 (by decide); have q1 := sw_ne e29_2 (by decide); have q2 := sw_ne e29_3 (by decide); have q3 := sw_ne e29_4 (by decide); have q4 := sw_ne e29_5 (by decide); have q5 := sw_ne e29_6 (by decide); omega) (by decide) ?_
  exact z_vret (pc := 163) hC hQ hRT (by
    first
    | rw [byAx_1 e29_1, ea, eb, tn_nI (by omega), tn_nI (by omega)]
    | rw [byAx_2 e29_2, ea, eb, ec, tn_nI (by omega), tn_nI (by omega), tn_nI (by omega)]
    | rw [byAx_3 e29_3, ea, eb, ec, tn_nI (by omega), tn_nI (by omega), tn_nI (by omega)]
    | rw [byAx_4 e29_4, ea, eb, ec, tn_nI (by omega), tn_nI (by omega), tn_nI (by omega)]
    | rw [byAx_5 e29_5, ea, eb, tn_nI (by omega), tn_nI (by omega)]
    | rw [byAx_6 e29_6, ea, eb, ec, tn_nI (by omega), tn_nI (by omega), tn_nI (by omega)]
    | rw [byAx_n e29_1 e29_2 e29_3 e29_4 e29_5 e29_6]) dX1_giveByAxiom_163
end
section
/-! the order of facts: listFactsOf, listColumns, endRound -/
abbrev OS : Type := (Nat → Int32) × Nat
def lfo (B N0 : Nat → Int32) (a fr : Nat) (o : OS) : Nat → OS
  | 0 => o
  | t + 1 => if inB (nI a) (N0 (fr + t) &&& (B (fr + t) ^^^ (-1))) = true ∧ (lfo B N0 a fr o t).2 < 4032 then (upd (lfo B N0 a fr o t).1 (lfo B N0 a fr o t).2 (nI (cod a (fr + t))), (lfo B N0 a fr o t).2 + 1) else lfo B N0 a fr o t
theorem lfo_t {B N0 : Nat → Int32} {a fr : Nat} {o : OS} {t : Nat} (h1 : inB (nI a) (N0 (fr + t) &&& (B (fr + t) ^^^ (-1))) = true) (h2 : (lfo B N0 a fr o t).2 < 4032) : lfo B N0 a fr o (t + 1) = (upd (lfo B N0 a fr o t).1 (lfo B N0 a fr o t).2 (nI (cod a (fr + t))), (lfo B N0 a fr o t).2 + 1) := if_pos ⟨h1, h2⟩
theorem lfo_f {B N0 : Nat → Int32} {a fr : Nat} {o : OS} {t : Nat} (h1 : inB (nI a) (N0 (fr + t) &&& (B (fr + t) ^^^ (-1))) = false) : lfo B N0 a fr o (t + 1) = lfo B N0 a fr o t := if_neg (fun h => by rw [h1] at h; exact absurd h.1 (by decide))
theorem lfo_g {B N0 : Nat → Int32} {a fr : Nat} {o : OS} {t : Nat} (h1 : 4032 ≤ (lfo B N0 a fr o t).2) : lfo B N0 a fr o (t + 1) = lfo B N0 a fr o t := if_neg (fun h => absurd h.2 (by omega))
theorem lfo_le {B N0 : Nat → Int32} {a fr : Nat} {o : OS} (h : o.2 ≤ 4032) : ∀ t : Nat, (lfo B N0 a fr o t).2 ≤ 4032
  | 0 => h
  | t + 1 => by
    have := lfo_le (B := B) (N0 := N0) (a := a) (fr := fr) h t
    unfold lfo
    split
    · rename_i h1; exact h1.2
    · exact this
def lcs (B N0 : Nat → Int32) (ga : Int32) (fr en : Nat) (o : OS) : Nat → OS
  | 0 => o
  | i + 1 => if inB (nI i) ga = true then lfo B N0 i fr (lcs B N0 ga fr en o i) (en - fr) else lcs B N0 ga fr en o i
theorem lcs_t {B N0 : Nat → Int32} {ga : Int32} {fr en : Nat} {o : OS} {i : Nat} (h : inB (nI i) ga = true) : lcs B N0 ga fr en o (i + 1) = lfo B N0 i fr (lcs B N0 ga fr en o i) (en - fr) := if_pos h
theorem lcs_f {B N0 : Nat → Int32} {ga : Int32} {fr en : Nat} {o : OS} {i : Nat} (h : inB (nI i) ga = false) : lcs B N0 ga fr en o (i + 1) = lcs B N0 ga fr en o i := if_neg (by rw [h]; decide)
theorem lcs_le {B N0 : Nat → Int32} {ga : Int32} {fr en : Nat} {o : OS} (h : o.2 ≤ 4032) : ∀ i : Nat, (lcs B N0 ga fr en o i).2 ≤ 4032
  | 0 => h
  | i + 1 => by
    have := lcs_le (B := B) (N0 := N0) (ga := ga) (fr := fr) (en := en) h i
    unfold lcs
    split
    · exact lfo_le this _
    · exact this
def erO (n : Nat) (B N0 : Nat → Int32) (ga : Int32) (o : OS) : OS := if ga = 0 then o else lcs B N0 ga 24 168 (lcs B N0 ga 0 24 o n) n
def erR (ga : Int32) (r : Nat) : Nat := if ga = 0 then r else r + 1
theorem erO_le {n : Nat} {B N0 : Nat → Int32} {ga : Int32} {o : OS} (h : o.2 ≤ 4032) : (erO n B N0 ga o).2 ≤ 4032 := by
  unfold erO
  split
  · exact h
  · exact lcs_le (lcs_le h n) n
theorem erO_e {n : Nat} {B N0 : Nat → Int32} {ga : Int32} {o : OS} (h : ga = 0) : erO n B N0 ga o = o := if_pos h
theorem erO_n {n : Nat} {B N0 : Nat → Int32} {ga : Int32} {o : OS} (h : ga ≠ 0) : erO n B N0 ga o = lcs B N0 ga 24 168 (lcs B N0 ga 0 24 o n) n := if_neg h
theorem erR_e {ga : Int32} {r : Nat} (h : ga = 0) : erR ga r = r := if_pos h
theorem erR_n {ga : Int32} {r : Nat} (h : ga ≠ 0) : erR ga r = r + 1 := if_neg h

set_option maxRecDepth 100000 in
set_option maxHeartbeats 4000000 in
theorem c_X1_listFactsOf (l : Launch) (D : va_G) (cI cJ cZ : ClassId) (q : Nat → Nat) (B : Nat → Int32) (N0 : Nat → Int32) (o : OS) (n : Nat) (rc : Int32) (ga : Int32) (a : Nat) (fr : Nat) (en : Nat) (ha : a < 24) (h1 : fr ≤ en) (h2 : en ≤ 168) (ho : o.2 ≤ 4032) : MV l yX1_listFactsOf wsX1_listFactsOf { frames := 1, cells := 0, slots := 0, locals := 21 } D (tyL cI cJ cZ) [.ref (q 6), .int (nI a), .int (nI fr), .int (nI en)] [(q 6, .inr (2, [.ref (q 7), .ref (q 8), .ref (q 9), .ref (q 10), .int (nI n), .int (nI (o.2)), .int rc, .int ga])), (q 7, .inl (cI, 168, .inl B)), (q 8, .inl (cI, 168, .inl N0)), (q 10, .inl (cI, 4032, .inl o.1))] [(q 6, .inr (2, [.ref (q 7), .ref (q 8), .ref (q 9), .ref (q 10), .int (nI n), .int (nI ((lfo B N0 a fr o (en - fr)).2)), .int rc, .int ga])), (q 7, .inl (cI, 168, .inl B)), (q 8, .inl (cI, 168, .inl N0)), (q 10, .inl (cI, 4032, .inl ((lfo B N0 a fr o (en - fr)).1)))] := by
  refine metV_of (cc := cX1_listFactsOf) (maxL := 5) (ret := none) (by decide +kernel) rfl (Nat.le_of_ble_eq_true rfl) ?_
  intro K hC hRm hNL hDis hLis hRT hIni hQ
  have hinX1 : ∀ w ∈ wsX10, w ∈ wsX1_listFactsOf := by decide +kernel
  refine z_iload_n (pc := 0) hC 2 dX1_listFactsOf_0 rfl ?_
  refine z_istore (pc := 1) hC hNL [(4, .int (nI fr)), (0, .ref (q 6)), (1, .int (nI a)), (2, .int (nI fr)), (3, .int (nI en))] dX1_listFactsOf_1 (by decide) rfl ?_
  have L3 : ∀ (fu : Nat) (t : Nat) (w : OS) (hi : fr + t ≤ en) (hf : en - fr + 1 ≤ t + fu) (hwl : w.2 ≤ 4032) (hw : w = lfo B N0 a fr o t), Z K 0 0 [(q 6, .inr (2, [.ref (q 7), .ref (q 8), .ref (q 9), .ref (q 10), .int (nI n), .int (nI (w.2)), .int rc, .int ga])), (q 7, .inl (cI, 168, .inl B)), (q 8, .inl (cI, 168, .inl N0)), (q 10, .inl (cI, 4032, .inl w.1))] [(4, .int (nI (fr + t))), (0, .ref (q 6)), (1, .int (nI a)), (2, .int (nI fr)), (3, .int (nI en))] 3 [] := by
    intro fu
    induction fu with
    | zero =>
      intro t w hi hf hwl hw
      exact absurd trivial (by omega)
    | succ fu ih3 =>
      intro t w hi hf hwl hw
      refine z_iload (pc := 3) hC 0 dX1_listFactsOf_3 rfl ?_
      refine z_iload_n (pc := 5) hC 4 dX1_listFactsOf_5 rfl ?_
      refine z_ncmp_ge (pc := 6) (tgt := 74) hC dX1_listFactsOf_6 (by decide) (by omega) (by omega) (fun h6 => ?_) (fun h6 => ?_)
      · exact z_vret (pc := 74) hC hQ hRT (by rw [hw, show t = en - fr by omega]) dX1_listFactsOf_74
      · refine z_iload_n (pc := 9) hC 2 dX1_listFactsOf_9 rfl ?_
        refine z_aload_n (pc := 10) hC 1 dX1_listFactsOf_10 rfl ?_
        refine z_get (pc := 11) (C := RX1) (T := TX1) (N := 8) hC hinX1 0 rfl rfl 1 (by decide) (by decide +kernel) rfl dX1_listFactsOf_11 ?_
        refine z_iload (pc := 14) hC 0 dX1_listFactsOf_14 rfl ?_
        refine z_iald (pc := 16) (v := (N0 (fr + t))) hC 2 0 rfl rfl (by omega) (by decide) (rfl) dX1_listFactsOf_16 ?_
        refine z_aload_n (pc := 17) hC 1 dX1_listFactsOf_17 rfl ?_
        refine z_get (pc := 18) (C := RX1) (T := TX1) (N := 8) hC hinX1 0 rfl rfl 0 (by decide) (by decide +kernel) rfl dX1_listFactsOf_18 ?_
        refine z_iload (pc := 21) hC 0 dX1_listFactsOf_21 rfl ?_
        refine z_iald (pc := 23) (v := (B (fr + t))) hC 1 0 rfl rfl (by omega) (by decide) (rfl) dX1_listFactsOf_23 ?_
        refine z_iconst (pc := 24) (v := (-1)) hC dX1_listFactsOf_24 (by decide +kernel) ?_
        refine z_ixor (pc := 25) (v := ((B (fr + t)) ^^^ (-1))) hC dX1_listFactsOf_25 (rfl) ?_
        refine z_iand (pc := 26) (v := ((N0 (fr + t)) &&& ((B (fr + t)) ^^^ (-1)))) hC dX1_listFactsOf_26 (rfl) ?_
        refine z_callSN_I (pc := 27) (y := yX3_isIn) (wy := wsX3_isIn) (rm := { frames := 0, cells := 0, slots := 0, locals := 0 }) (As := [.int (nI a), .int ((N0 (fr + t)) &&& ((B (fr + t)) ^^^ (-1)))]) (rest := []) (na := 2)  (wc := []) (wc2 := []) hC hRm hDis hLis gX1_listFactsOf_X3_isIn_n112 (by decide +kernel) (by decide +kernel) (by decide +kernel) ⟨by decide +kernel, by decide +kernel⟩ rfl ⟨by decide, by decide⟩ ⟨by decide, by decide⟩ rfl (Nat.le_of_ble_eq_true rfl) (by decide +kernel) (c_X3_isIn _ _ cI cJ cZ (nI a) ((N0 (fr + t)) &&& ((B (fr + t)) ^^^ (-1))) ) [] [0, 1, 2, 3] [0, 1, 2, 3] [(q 6, .inr (2, [.ref (q 7), .ref (q 8), .ref (q 9), .ref (q 10), .int (nI n), .int (nI (w.2)), .int rc, .int ga])), (q 7, .inl (cI, 168, .inl B)), (q 8, .inl (cI, 168, .inl N0)), (q 10, .inl (cI, 4032, .inl w.1))] rfl (by decide) rfl (by decide) (by decide) [(q 6, .inr (2, [.ref (q 7), .ref (q 8), .ref (q 9), .ref (q 10), .int (nI n), .int (nI (w.2)), .int rc, .int ga])), (q 7, .inl (cI, 168, .inl B)), (q 8, .inl (cI, 168, .inl N0)), (q 10, .inl (cI, 4032, .inl w.1))] rfl (by decide) rfl dX1_listFactsOf_27 ?_
        refine z_bif_eq (pc := 30) (tgt := 68) hC dX1_listFactsOf_30 (by decide) (fun h30 => ?_) (fun h30 => ?_)
        · refine z_iinc (pc := 68) (q := 0) (x := (nI (fr + t))) (v := (nI (fr + t + 1))) hC hNL [(4, .int (nI (fr + t + 1))), (0, .ref (q 6)), (1, .int (nI a)), (2, .int (nI fr)), (3, .int (nI en))] dX1_listFactsOf_68 rfl (nI_add _ _) (by decide) rfl ?_
          refine z_goto (pc := 71) (tgt := 3) hC dX1_listFactsOf_71 (by decide) ?_
          exact ih3 (t + 1) (w) (by omega) (by omega) (by first | exact hwl | (show w.2 + 1 ≤ 4032; omega)) (by first | rw [lfo_f h30, hw] | rw [lfo_g (by rw [← hw]; exact h40), hw] | rw [lfo_t h30 (by rw [← hw]; exact h40), hw])
        · refine z_aload_n (pc := 33) hC 1 dX1_listFactsOf_33 rfl ?_
          refine z_get (pc := 34) (C := RX1) (T := TX1) (N := 8) hC hinX1 0 rfl rfl 5 (by decide) (by decide +kernel) rfl dX1_listFactsOf_34 ?_
          refine z_sipush (pc := 37) (v := (nI 4032)) hC dX1_listFactsOf_37 (by decide +kernel) ?_
          refine z_ncmp_ge (pc := 40) (tgt := 68) hC dX1_listFactsOf_40 (by decide) (by omega) (by omega) (fun h40 => ?_) (fun h40 => ?_)
          · refine z_iinc (pc := 68) (q := 0) (x := (nI (fr + t))) (v := (nI (fr + t + 1))) hC hNL [(4, .int (nI (fr + t + 1))), (0, .ref (q 6)), (1, .int (nI a)), (2, .int (nI fr)), (3, .int (nI en))] dX1_listFactsOf_68 rfl (nI_add _ _) (by decide) rfl ?_
            refine z_goto (pc := 71) (tgt := 3) hC dX1_listFactsOf_71 (by decide) ?_
            exact ih3 (t + 1) (w) (by omega) (by omega) (by first | exact hwl | (show w.2 + 1 ≤ 4032; omega)) (by first | rw [lfo_f h30, hw] | rw [lfo_g (by rw [← hw]; exact h40), hw] | rw [lfo_t h30 (by rw [← hw]; exact h40), hw])
          · refine z_aload_n (pc := 43) hC 1 dX1_listFactsOf_43 rfl ?_
            refine z_get (pc := 44) (C := RX1) (T := TX1) (N := 8) hC hinX1 0 rfl rfl 3 (by decide) (by decide +kernel) rfl dX1_listFactsOf_44 ?_
            refine z_aload_n (pc := 47) hC 1 dX1_listFactsOf_47 rfl ?_
            refine z_get (pc := 48) (C := RX1) (T := TX1) (N := 8) hC hinX1 0 rfl rfl 5 (by decide) (by decide +kernel) rfl dX1_listFactsOf_48 ?_
            refine z_iload_n (pc := 51) hC 2 dX1_listFactsOf_51 rfl ?_
            refine z_iload (pc := 52) hC 0 dX1_listFactsOf_52 rfl ?_
            refine z_callSN_I (pc := 54) (y := yX3_codeOf) (wy := wsX3_codeOf) (rm := { frames := 0, cells := 0, slots := 0, locals := 0 }) (As := [.int (nI a), .int (nI (fr + t))]) (rest := [.int (nI (w.2)), .ref (q 10)]) (na := 2)  (wc := []) (wc2 := []) hC hRm hDis hLis gX1_listFactsOf_X3_codeOf_n116 (by decide +kernel) (by decide +kernel) (by decide +kernel) ⟨by decide +kernel, by decide +kernel⟩ rfl ⟨by decide, by decide⟩ ⟨by decide, by decide⟩ rfl (Nat.le_of_ble_eq_true rfl) (by decide +kernel) (c_X3_codeOfN _ _ cI cJ cZ (a) (fr + t) (by omega)) [] [0, 1, 2, 3] [0, 1, 2, 3] [(q 6, .inr (2, [.ref (q 7), .ref (q 8), .ref (q 9), .ref (q 10), .int (nI n), .int (nI (w.2)), .int rc, .int ga])), (q 7, .inl (cI, 168, .inl B)), (q 8, .inl (cI, 168, .inl N0)), (q 10, .inl (cI, 4032, .inl w.1))] rfl (by decide) rfl (by decide) (by decide) [(q 6, .inr (2, [.ref (q 7), .ref (q 8), .ref (q 9), .ref (q 10), .int (nI n), .int (nI (w.2)), .int rc, .int ga])), (q 7, .inl (cI, 168, .inl B)), (q 8, .inl (cI, 168, .inl N0)), (q 10, .inl (cI, 4032, .inl w.1))] rfl (by decide) rfl dX1_listFactsOf_54 ?_
            refine z_iast (pc := 57) hC 3 0 rfl rfl (by omega) (by decide) [(q 6, .inr (2, [.ref (q 7), .ref (q 8), .ref (q 9), .ref (q 10), .int (nI n), .int (nI (w.2)), .int rc, .int ga])), (q 7, .inl (cI, 168, .inl B)), (q 8, .inl (cI, 168, .inl N0)), (q 10, .inl (cI, 4032, .inl (upd w.1 w.2 (nI (cod a (fr + t))))))] rfl dX1_listFactsOf_57 ?_
            refine z_aload_n (pc := 58) hC 1 dX1_listFactsOf_58 rfl ?_
            refine z_dup (pc := 59) hC dX1_listFactsOf_59 rfl ?_
            refine z_get (pc := 60) (C := RX1) (T := TX1) (N := 8) hC hinX1 0 rfl rfl 5 (by decide) (by decide +kernel) rfl dX1_listFactsOf_60 ?_
            refine z_iconst (pc := 63) (v := (nI 1)) hC dX1_listFactsOf_63 (by decide +kernel) ?_
            refine z_iadd (pc := 64) (v := (nI (w.2 + 1))) hC dX1_listFactsOf_64 (nI_add _ _) ?_
            refine z_put (pc := 65) (C := RX1) (T := TX1) (N := 8) hC hinX1 0 rfl rfl 5 (by decide) tyX1 tyX1_ok nmX1 (by decide +kernel) rfl (rfl) (rfl) (Nat.le_of_ble_eq_true rfl) [(q 6, .inr (2, [.ref (q 7), .ref (q 8), .ref (q 9), .ref (q 10), .int (nI n), .int (nI (w.2 + 1)), .int rc, .int ga])), (q 7, .inl (cI, 168, .inl B)), (q 8, .inl (cI, 168, .inl N0)), (q 10, .inl (cI, 4032, .inl (upd w.1 w.2 (nI (cod a (fr + t))))))] rfl dX1_listFactsOf_65 ?_
            refine z_iinc (pc := 68) (q := 0) (x := (nI (fr + t))) (v := (nI (fr + t + 1))) hC hNL [(4, .int (nI (fr + t + 1))), (0, .ref (q 6)), (1, .int (nI a)), (2, .int (nI fr)), (3, .int (nI en))] dX1_listFactsOf_68 rfl (nI_add _ _) (by decide) rfl ?_
            refine z_goto (pc := 71) (tgt := 3) hC dX1_listFactsOf_71 (by decide) ?_
            exact ih3 (t + 1) ((upd w.1 w.2 (nI (cod a (fr + t))), w.2 + 1)) (by omega) (by omega) (by first | exact hwl | (show w.2 + 1 ≤ 4032; omega)) (by first | rw [lfo_f h30, hw] | rw [lfo_g (by rw [← hw]; exact h40), hw] | rw [lfo_t h30 (by rw [← hw]; exact h40), hw])
  exact L3 (en - fr + 1) (0) (o) (by omega) (by omega) (ho) (rfl)

set_option maxRecDepth 100000 in
set_option maxHeartbeats 4000000 in
theorem c_X1_listColumns (l : Launch) (D : va_G) (cI cJ cZ : ClassId) (q : Nat → Nat) (B : Nat → Int32) (N0 : Nat → Int32) (o : OS) (n : Nat) (rc : Int32) (ga : Int32) (fr : Nat) (en : Nat) (hn : n ≤ 24) (h1 : fr ≤ en) (h2 : en ≤ 168) (ho : o.2 ≤ 4032) : MV l yX1_listColumns wsX1_listColumns { frames := 2, cells := 0, slots := 0, locals := 45 } D (tyL cI cJ cZ) [.ref (q 6), .int (nI fr), .int (nI en)] [(q 6, .inr (2, [.ref (q 7), .ref (q 8), .ref (q 9), .ref (q 10), .int (nI n), .int (nI (o.2)), .int rc, .int ga])), (q 7, .inl (cI, 168, .inl B)), (q 8, .inl (cI, 168, .inl N0)), (q 10, .inl (cI, 4032, .inl o.1))] [(q 6, .inr (2, [.ref (q 7), .ref (q 8), .ref (q 9), .ref (q 10), .int (nI n), .int (nI ((lcs B N0 ga fr en o n).2)), .int rc, .int ga])), (q 7, .inl (cI, 168, .inl B)), (q 8, .inl (cI, 168, .inl N0)), (q 10, .inl (cI, 4032, .inl ((lcs B N0 ga fr en o n).1)))] := by
  refine metV_of (cc := cX1_listColumns) (maxL := 4) (ret := none) (by decide +kernel) rfl (Nat.le_of_ble_eq_true rfl) ?_
  intro K hC hRm hNL hDis hLis hRT hIni hQ
  have hinX1 : ∀ w ∈ wsX10, w ∈ wsX1_listColumns := by decide +kernel
  refine z_iconst (pc := 0) (v := (nI 0)) hC dX1_listColumns_0 (by decide +kernel) ?_
  refine z_istore_n (pc := 1) hC hNL [(3, .int (nI 0)), (0, .ref (q 6)), (1, .int (nI fr)), (2, .int (nI en))] dX1_listColumns_1 (by decide) rfl ?_
  have L2 : ∀ (fu : Nat) (i : Nat) (w : OS) (hi : i ≤ n) (hf : n + 1 ≤ i + fu) (hwl : w.2 ≤ 4032) (hw : w = lcs B N0 ga fr en o i), Z K 0 0 [(q 6, .inr (2, [.ref (q 7), .ref (q 8), .ref (q 9), .ref (q 10), .int (nI n), .int (nI (w.2)), .int rc, .int ga])), (q 7, .inl (cI, 168, .inl B)), (q 8, .inl (cI, 168, .inl N0)), (q 10, .inl (cI, 4032, .inl w.1))] [(3, .int (nI i)), (0, .ref (q 6)), (1, .int (nI fr)), (2, .int (nI en))] 2 [] := by
    intro fu
    induction fu with
    | zero =>
      intro i w hi hf hwl hw
      exact absurd trivial (by omega)
    | succ fu ih2 =>
      intro i w hi hf hwl hw
      refine z_iload_n (pc := 2) hC 0 dX1_listColumns_2 rfl ?_
      refine z_aload_n (pc := 3) hC 1 dX1_listColumns_3 rfl ?_
      refine z_get (pc := 4) (C := RX1) (T := TX1) (N := 8) hC hinX1 0 rfl rfl 4 (by decide) (by decide +kernel) rfl dX1_listColumns_4 ?_
      refine z_ncmp_ge (pc := 7) (tgt := 34) hC dX1_listColumns_7 (by decide) (by omega) (by omega) (fun h7 => ?_) (fun h7 => ?_)
      · exact z_vret (pc := 34) hC hQ hRT (by rw [hw, show i = n by omega]) dX1_listColumns_34
      · refine z_iload_n (pc := 10) hC 0 dX1_listColumns_10 rfl ?_
        refine z_aload_n (pc := 11) hC 1 dX1_listColumns_11 rfl ?_
        refine z_get (pc := 12) (C := RX1) (T := TX1) (N := 8) hC hinX1 0 rfl rfl 7 (by decide) (by decide +kernel) rfl dX1_listColumns_12 ?_
        refine z_callSN_I (pc := 15) (y := yX3_isIn) (wy := wsX3_isIn) (rm := { frames := 0, cells := 0, slots := 0, locals := 0 }) (As := [.int (nI i), .int ga]) (rest := []) (na := 2)  (wc := []) (wc2 := []) hC hRm hDis hLis gX1_listColumns_X3_isIn_n112 (by decide +kernel) (by decide +kernel) (by decide +kernel) ⟨by decide +kernel, by decide +kernel⟩ rfl ⟨by decide, by decide⟩ ⟨by decide, by decide⟩ rfl (Nat.le_of_ble_eq_true rfl) (by decide +kernel) (c_X3_isIn _ _ cI cJ cZ (nI i) (ga) ) [] [0, 1, 2, 3] [0, 1, 2, 3] [(q 6, .inr (2, [.ref (q 7), .ref (q 8), .ref (q 9), .ref (q 10), .int (nI n), .int (nI (w.2)), .int rc, .int ga])), (q 7, .inl (cI, 168, .inl B)), (q 8, .inl (cI, 168, .inl N0)), (q 10, .inl (cI, 4032, .inl w.1))] rfl (by decide) rfl (by decide) (by decide) [(q 6, .inr (2, [.ref (q 7), .ref (q 8), .ref (q 9), .ref (q 10), .int (nI n), .int (nI (w.2)), .int rc, .int ga])), (q 7, .inl (cI, 168, .inl B)), (q 8, .inl (cI, 168, .inl N0)), (q 10, .inl (cI, 4032, .inl w.1))] rfl (by decide) rfl dX1_listColumns_15 ?_
        refine z_bif_eq (pc := 18) (tgt := 28) hC dX1_listColumns_18 (by decide) (fun h18 => ?_) (fun h18 => ?_)
        · refine z_iinc (pc := 28) (q := 0) (x := (nI i)) (v := (nI (i + 1))) hC hNL [(3, .int (nI (i + 1))), (0, .ref (q 6)), (1, .int (nI fr)), (2, .int (nI en))] dX1_listColumns_28 rfl (nI_add _ _) (by decide) rfl ?_
          refine z_goto (pc := 31) (tgt := 2) hC dX1_listColumns_31 (by decide) ?_
          exact ih2 (i + 1) (w) (by omega) (by omega) (by first | exact hwl | exact lfo_le hwl _) (by first | rw [lcs_t h18, hw] | rw [lcs_f h18, hw])
        · refine z_aload_n (pc := 21) hC 1 dX1_listColumns_21 rfl ?_
          refine z_iload_n (pc := 22) hC 0 dX1_listColumns_22 rfl ?_
          refine z_iload_n (pc := 23) hC 2 dX1_listColumns_23 rfl ?_
          refine z_iload_n (pc := 24) hC 3 dX1_listColumns_24 rfl ?_
          refine z_callV_V (pc := 25) (y := yX1_listFactsOf) (wy := wsX1_listFactsOf) (rm := { frames := 1, cells := 0, slots := 0, locals := 21 }) (As := [.int (nI i), .int (nI fr), .int (nI en)]) (rest := []) (na := 3) (C := RX1) (T := TX1) (NF := 8) (ci := 2) (wc := [(q 6, .inr (2, [.ref (q 7), .ref (q 8), .ref (q 9), .ref (q 10), .int (nI n), .int (nI (w.2)), .int rc, .int ga])), (q 7, .inl (cI, 168, .inl B)), (q 8, .inl (cI, 168, .inl N0)), (q 10, .inl (cI, 4032, .inl w.1))]) (wc2 := [(q 6, .inr (2, [.ref (q 7), .ref (q 8), .ref (q 9), .ref (q 10), .int (nI n), .int (nI ((lfo B N0 i fr w (en - fr)).2)), .int rc, .int ga])), (q 7, .inl (cI, 168, .inl B)), (q 8, .inl (cI, 168, .inl N0)), (q 10, .inl (cI, 4032, .inl ((lfo B N0 i fr w (en - fr)).1)))]) hC hRm hDis hLis 0 rfl rfl gX1_listColumns_X1_listFactsOf ⟨rfl, by decide +kernel, by decide +kernel⟩ rfl ⟨by decide, by decide⟩ ⟨by decide, by decide⟩ rfl (Nat.le_of_ble_eq_true rfl) (by decide +kernel) (c_X1_listFactsOf _ _ cI cJ cZ (q) (B) (N0) (w) (n) (rc) (ga) (i) (fr) (en) (by omega) (by omega) (by omega) (hwl)) [0, 1, 2, 3] [] [0, 1, 2, 3] [] rfl (by decide) rfl (by decide) (by decide) [(q 6, .inr (2, [.ref (q 7), .ref (q 8), .ref (q 9), .ref (q 10), .int (nI n), .int (nI ((lfo B N0 i fr w (en - fr)).2)), .int rc, .int ga])), (q 7, .inl (cI, 168, .inl B)), (q 8, .inl (cI, 168, .inl N0)), (q 10, .inl (cI, 4032, .inl ((lfo B N0 i fr w (en - fr)).1)))] rfl (by decide) rfl dX1_listColumns_25 ?_
          refine z_iinc (pc := 28) (q := 0) (x := (nI i)) (v := (nI (i + 1))) hC hNL [(3, .int (nI (i + 1))), (0, .ref (q 6)), (1, .int (nI fr)), (2, .int (nI en))] dX1_listColumns_28 rfl (nI_add _ _) (by decide) rfl ?_
          refine z_goto (pc := 31) (tgt := 2) hC dX1_listColumns_31 (by decide) ?_
          exact ih2 (i + 1) (lfo B N0 i fr w (en - fr)) (by omega) (by omega) (by first | exact hwl | exact lfo_le hwl _) (by first | rw [lcs_t h18, hw] | rw [lcs_f h18, hw])
  exact L2 (n + 1) (0) (o) (by omega) (by omega) (ho) (rfl)

set_option maxRecDepth 100000 in
set_option maxHeartbeats 4000000 in
theorem c_X1_endRound (l : Launch) (D : va_G) (cI cJ cZ : ClassId) (q : Nat → Nat) (B : Nat → Int32) (N0 : Nat → Int32) (o : OS) (n : Nat) (r : Nat) (ga : Int32) (hn : n ≤ 24) (ho : o.2 ≤ 4032) : MV l yX1_endRound wsX1_endRound { frames := 3, cells := 0, slots := 0, locals := 68 } D (tyL cI cJ cZ) [.ref (q 6)] [(q 6, .inr (2, [.ref (q 7), .ref (q 8), .ref (q 9), .ref (q 10), .int (nI n), .int (nI (o.2)), .int (nI r), .int ga])), (q 7, .inl (cI, 168, .inl B)), (q 8, .inl (cI, 168, .inl N0)), (q 10, .inl (cI, 4032, .inl o.1))] [(q 6, .inr (2, [.ref (q 7), .ref (q 8), .ref (q 9), .ref (q 10), .int (nI n), .int (nI ((erO n B N0 ga o).2)), .int (nI (erR ga r)), .int ga])), (q 7, .inl (cI, 168, .inl B)), (q 8, .inl (cI, 168, .inl N0)), (q 10, .inl (cI, 4032, .inl ((erO n B N0 ga o).1)))] := by
  refine metV_of (cc := cX1_endRound) (maxL := 1) (ret := none) (by decide +kernel) rfl (Nat.le_of_ble_eq_true rfl) ?_
  intro K hC hRm hNL hDis hLis hRT hIni hQ
  have hinX1 : ∀ w ∈ wsX10, w ∈ wsX1_endRound := by decide +kernel
  refine z_aload_n (pc := 0) hC 0 dX1_endRound_0 rfl ?_
  refine z_get (pc := 1) (C := RX1) (T := TX1) (N := 8) hC hinX1 0 rfl rfl 7 (by decide) (by decide +kernel) rfl dX1_endRound_1 ?_
  refine z_if_ne (pc := 4) (tgt := 8) hC dX1_endRound_4 (by decide) (fun h4 => ?_) (fun h4 => ?_)
  · refine z_aload_n (pc := 8) hC 0 dX1_endRound_8 rfl ?_
    refine z_iconst (pc := 9) (v := (nI 0)) hC dX1_endRound_9 (by decide +kernel) ?_
    refine z_bipush (pc := 10) (v := (nI 24)) hC dX1_endRound_10 (by decide +kernel) ?_
    refine z_callV_V (pc := 12) (y := yX1_listColumns) (wy := wsX1_listColumns) (rm := { frames := 2, cells := 0, slots := 0, locals := 45 }) (As := [.int (nI 0), .int (nI 24)]) (rest := []) (na := 2) (C := RX1) (T := TX1) (NF := 8) (ci := 2) (wc := [(q 6, .inr (2, [.ref (q 7), .ref (q 8), .ref (q 9), .ref (q 10), .int (nI n), .int (nI (o.2)), .int (nI r), .int ga])), (q 7, .inl (cI, 168, .inl B)), (q 8, .inl (cI, 168, .inl N0)), (q 10, .inl (cI, 4032, .inl o.1))]) (wc2 := [(q 6, .inr (2, [.ref (q 7), .ref (q 8), .ref (q 9), .ref (q 10), .int (nI n), .int (nI ((lcs B N0 ga 0 24 o n).2)), .int (nI r), .int ga])), (q 7, .inl (cI, 168, .inl B)), (q 8, .inl (cI, 168, .inl N0)), (q 10, .inl (cI, 4032, .inl ((lcs B N0 ga 0 24 o n).1)))]) hC hRm hDis hLis 0 rfl rfl gX1_endRound_X1_listColumns ⟨rfl, by decide +kernel, by decide +kernel⟩ rfl ⟨by decide, by decide⟩ ⟨by decide, by decide⟩ rfl (Nat.le_of_ble_eq_true rfl) (by decide +kernel) (c_X1_listColumns _ _ cI cJ cZ (q) (B) (N0) (o) (n) (nI r) (ga) (0) (24) (hn) (by decide) (by decide) (ho)) [0, 1, 2, 3] [] [0, 1, 2, 3] [] rfl (by decide) rfl (by decide) (by decide) [(q 6, .inr (2, [.ref (q 7), .ref (q 8), .ref (q 9), .ref (q 10), .int (nI n), .int (nI ((lcs B N0 ga 0 24 o n).2)), .int (nI r), .int ga])), (q 7, .inl (cI, 168, .inl B)), (q 8, .inl (cI, 168, .inl N0)), (q 10, .inl (cI, 4032, .inl ((lcs B N0 ga 0 24 o n).1)))] rfl (by decide) rfl dX1_endRound_12 ?_
    refine z_aload_n (pc := 15) hC 0 dX1_endRound_15 rfl ?_
    refine z_bipush (pc := 16) (v := (nI 24)) hC dX1_endRound_16 (by decide +kernel) ?_
    refine z_sipush (pc := 18) (v := (nI 168)) hC dX1_endRound_18 (by decide +kernel) ?_
    refine z_callV_V (pc := 21) (y := yX1_listColumns) (wy := wsX1_listColumns) (rm := { frames := 2, cells := 0, slots := 0, locals := 45 }) (As := [.int (nI 24), .int (nI 168)]) (rest := []) (na := 2) (C := RX1) (T := TX1) (NF := 8) (ci := 2) (wc := [(q 6, .inr (2, [.ref (q 7), .ref (q 8), .ref (q 9), .ref (q 10), .int (nI n), .int (nI ((lcs B N0 ga 0 24 o n).2)), .int (nI r), .int ga])), (q 7, .inl (cI, 168, .inl B)), (q 8, .inl (cI, 168, .inl N0)), (q 10, .inl (cI, 4032, .inl ((lcs B N0 ga 0 24 o n).1)))]) (wc2 := [(q 6, .inr (2, [.ref (q 7), .ref (q 8), .ref (q 9), .ref (q 10), .int (nI n), .int (nI ((lcs B N0 ga 24 168 (lcs B N0 ga 0 24 o n) n).2)), .int (nI r), .int ga])), (q 7, .inl (cI, 168, .inl B)), (q 8, .inl (cI, 168, .inl N0)), (q 10, .inl (cI, 4032, .inl ((lcs B N0 ga 24 168 (lcs B N0 ga 0 24 o n) n).1)))]) hC hRm hDis hLis 0 rfl rfl gX1_endRound_X1_listColumns ⟨rfl, by decide +kernel, by decide +kernel⟩ rfl ⟨by decide, by decide⟩ ⟨by decide, by decide⟩ rfl (Nat.le_of_ble_eq_true rfl) (by decide +kernel) (c_X1_listColumns _ _ cI cJ cZ (q) (B) (N0) (lcs B N0 ga 0 24 o n) (n) (nI r) (ga) (24) (168) (hn) (by decide) (by decide) (lcs_le ho n)) [0, 1, 2, 3] [] [0, 1, 2, 3] [] rfl (by decide) rfl (by decide) (by decide) [(q 6, .inr (2, [.ref (q 7), .ref (q 8), .ref (q 9), .ref (q 10), .int (nI n), .int (nI ((lcs B N0 ga 24 168 (lcs B N0 ga 0 24 o n) n).2)), .int (nI r), .int ga])), (q 7, .inl (cI, 168, .inl B)), (q 8, .inl (cI, 168, .inl N0)), (q 10, .inl (cI, 4032, .inl ((lcs B N0 ga 24 168 (lcs B N0 ga 0 24 o n) n).1)))] rfl (by decide) rfl dX1_endRound_21 ?_
    refine z_aload_n (pc := 24) hC 0 dX1_endRound_24 rfl ?_
    refine z_dup (pc := 25) hC dX1_endRound_25 rfl ?_
    refine z_get (pc := 26) (C := RX1) (T := TX1) (N := 8) hC hinX1 0 rfl rfl 6 (by decide) (by decide +kernel) rfl dX1_endRound_26 ?_
    refine z_iconst (pc := 29) (v := (nI 1)) hC dX1_endRound_29 (by decide +kernel) ?_
    refine z_iadd (pc := 30) (v := (nI (r + 1))) hC dX1_endRound_30 (nI_add _ _) ?_
    refine z_put (pc := 31) (C := RX1) (T := TX1) (N := 8) hC hinX1 0 rfl rfl 6 (by decide) tyX1 tyX1_ok nmX1 (by decide +kernel) rfl (rfl) (rfl) (Nat.le_of_ble_eq_true rfl) [(q 6, .inr (2, [.ref (q 7), .ref (q 8), .ref (q 9), .ref (q 10), .int (nI n), .int (nI ((lcs B N0 ga 24 168 (lcs B N0 ga 0 24 o n) n).2)), .int (nI (r + 1)), .int ga])), (q 7, .inl (cI, 168, .inl B)), (q 8, .inl (cI, 168, .inl N0)), (q 10, .inl (cI, 4032, .inl ((lcs B N0 ga 24 168 (lcs B N0 ga 0 24 o n) n).1)))] rfl dX1_endRound_31 ?_
    exact z_vret (pc := 34) hC hQ hRT (by rw [erO_n h4, erR_n h4]) dX1_endRound_34
  · exact z_vret (pc := 7) hC hQ hRT (by rw [erO_e h4, erR_e h4]) dX1_endRound_7

set_option maxRecDepth 100000 in
set_option maxHeartbeats 4000000 in
theorem c_X1_clear (l : Launch) (D : va_G) (cI cJ cZ : ClassId) (q : Nat → Nat) (B : Nat → Int32) (N0 : Nat → Int32) (G0 : Nat → Int64) (c0 : Int32) (fc : Int32) (rc : Int32) (ga : Int32) (n : Nat) : MV l yX1_clear wsX1_clear { frames := 1, cells := 0, slots := 0, locals := 24 } D (tyL cI cJ cZ) [.ref (q 6), .int (nI n)] [(q 6, .inr (2, [.ref (q 7), .ref (q 8), .ref (q 9), .ref (q 10), .int c0, .int fc, .int rc, .int ga])), (q 7, .inl (cI, 168, .inl B)), (q 8, .inl (cI, 168, .inl N0)), (q 9, .inl (cJ, 4032, .inr (.inl G0)))] [(q 6, .inr (2, [.ref (q 7), .ref (q 8), .ref (q 9), .ref (q 10), .int (nI n), .int (nI 0), .int (nI 0), .int (nI 0)])), (q 7, .inl (cI, 168, .inl (fun _ => nI 0))), (q 8, .inl (cI, 168, .inl (fun _ => nI 0))), (q 9, .inl (cJ, 4032, .inr (.inl (fun _ => (-1)))))] := by
  refine metV_of (cc := cX1_clear) (maxL := 2) (ret := none) (by decide +kernel) rfl (Nat.le_of_ble_eq_true rfl) ?_
  intro K hC hRm hNL hDis hLis hRT hIni hQ
  have hinX1 : ∀ w ∈ wsX10, w ∈ wsX1_clear := by decide +kernel
  refine z_aload_n (pc := 0) hC 0 dX1_clear_0 rfl ?_
  refine z_get (pc := 1) (C := RX1) (T := TX1) (N := 8) hC hinX1 0 rfl rfl 0 (by decide) (by decide +kernel) rfl dX1_clear_1 ?_
  refine z_iconst (pc := 4) (v := (nI 0)) hC dX1_clear_4 (by decide +kernel) ?_
  refine z_callS_V (pc := 5) (y := yJ7_fill_53178) (wy := wsJ7_fill_53178) (rm := { frames := 0, cells := 0, slots := 0, locals := 0 }) (As := [.ref (q 7), .int (nI 0)]) (rest := []) (na := 2)  (wc := [(q 7, .inl (cI, 168, .inl B))]) (wc2 := [(q 7, .inl (cI, 168, .inl (fun _ => (nI 0))))]) hC hRm hDis hLis gX1_clear_J7_fill_53178 ⟨by decide +kernel, by decide +kernel⟩ rfl ⟨by decide, by decide⟩ ⟨by decide, by decide⟩ rfl (Nat.le_of_ble_eq_true rfl) (by decide +kernel) (c_J7_fill_53178 _ _ cI cJ cZ (q 7) (168) (B) (nI 0) (by decide)) [1] [0, 2, 3] [0, 3, 1, 2] [(q 6, .inr (2, [.ref (q 7), .ref (q 8), .ref (q 9), .ref (q 10), .int c0, .int fc, .int rc, .int ga])), (q 8, .inl (cI, 168, .inl N0)), (q 9, .inl (cJ, 4032, .inr (.inl G0)))] rfl (by decide) rfl (by decide) (by decide) [(q 6, .inr (2, [.ref (q 7), .ref (q 8), .ref (q 9), .ref (q 10), .int c0, .int fc, .int rc, .int ga])), (q 7, .inl (cI, 168, .inl (fun _ => (nI 0)))), (q 8, .inl (cI, 168, .inl N0)), (q 9, .inl (cJ, 4032, .inr (.inl G0)))] rfl (by decide) rfl dX1_clear_5 ?_
  refine z_aload_n (pc := 8) hC 0 dX1_clear_8 rfl ?_
  refine z_get (pc := 9) (C := RX1) (T := TX1) (N := 8) hC hinX1 0 rfl rfl 1 (by decide) (by decide +kernel) rfl dX1_clear_9 ?_
  refine z_iconst (pc := 12) (v := (nI 0)) hC dX1_clear_12 (by decide +kernel) ?_
  refine z_callS_V (pc := 13) (y := yJ7_fill_53178) (wy := wsJ7_fill_53178) (rm := { frames := 0, cells := 0, slots := 0, locals := 0 }) (As := [.ref (q 8), .int (nI 0)]) (rest := []) (na := 2)  (wc := [(q 8, .inl (cI, 168, .inl N0))]) (wc2 := [(q 8, .inl (cI, 168, .inl (fun _ => (nI 0))))]) hC hRm hDis hLis gX1_clear_J7_fill_53178 ⟨by decide +kernel, by decide +kernel⟩ rfl ⟨by decide, by decide⟩ ⟨by decide, by decide⟩ rfl (Nat.le_of_ble_eq_true rfl) (by decide +kernel) (c_J7_fill_53178 _ _ cI cJ cZ (q 8) (168) (N0) (nI 0) (by decide)) [2] [0, 1, 3] [0, 1, 3, 2] [(q 6, .inr (2, [.ref (q 7), .ref (q 8), .ref (q 9), .ref (q 10), .int c0, .int fc, .int rc, .int ga])), (q 7, .inl (cI, 168, .inl (fun _ => (nI 0)))), (q 9, .inl (cJ, 4032, .inr (.inl G0)))] rfl (by decide) rfl (by decide) (by decide) [(q 6, .inr (2, [.ref (q 7), .ref (q 8), .ref (q 9), .ref (q 10), .int c0, .int fc, .int rc, .int ga])), (q 7, .inl (cI, 168, .inl (fun _ => (nI 0)))), (q 8, .inl (cI, 168, .inl (fun _ => (nI 0)))), (q 9, .inl (cJ, 4032, .inr (.inl G0)))] rfl (by decide) rfl dX1_clear_13 ?_
  refine z_aload_n (pc := 16) hC 0 dX1_clear_16 rfl ?_
  refine z_get (pc := 17) (C := RX1) (T := TX1) (N := 8) hC hinX1 0 rfl rfl 2 (by decide) (by decide +kernel) rfl dX1_clear_17 ?_
  refine z_ldc2 (pc := 20) (v := -1) hC (by decide +kernel) dX1_clear_20 ?_
  refine z_callS_V (pc := 23) (y := yJ7_fill_d0a16) (wy := wsJ7_fill_d0a16) (rm := { frames := 0, cells := 0, slots := 0, locals := 0 }) (As := [.ref (q 9), .long (-1)]) (rest := []) (na := 2)  (wc := [(q 9, .inl (cJ, 4032, .inr (.inl G0)))]) (wc2 := [(q 9, .inl (cJ, 4032, .inr (.inl (fun _ => (-1)))))]) hC hRm hDis hLis gX1_clear_J7_fill_d0a16 ⟨by decide +kernel, by decide +kernel⟩ rfl ⟨by decide, by decide⟩ ⟨by decide, by decide⟩ rfl (Nat.le_of_ble_eq_true rfl) (by decide +kernel) (c_J7_fill_d0a16 _ _ cI cJ cZ (q 9) (4032) (G0) (-1) (by decide)) [3] [0, 1, 2] [0, 1, 2, 3] [(q 6, .inr (2, [.ref (q 7), .ref (q 8), .ref (q 9), .ref (q 10), .int c0, .int fc, .int rc, .int ga])), (q 7, .inl (cI, 168, .inl (fun _ => (nI 0)))), (q 8, .inl (cI, 168, .inl (fun _ => (nI 0))))] rfl (by decide) rfl (by decide) (by decide) [(q 6, .inr (2, [.ref (q 7), .ref (q 8), .ref (q 9), .ref (q 10), .int c0, .int fc, .int rc, .int ga])), (q 7, .inl (cI, 168, .inl (fun _ => (nI 0)))), (q 8, .inl (cI, 168, .inl (fun _ => (nI 0)))), (q 9, .inl (cJ, 4032, .inr (.inl (fun _ => (-1)))))] rfl (by decide) rfl dX1_clear_23 ?_
  refine z_aload_n (pc := 26) hC 0 dX1_clear_26 rfl ?_
  refine z_iload_n (pc := 27) hC 1 dX1_clear_27 rfl ?_
  refine z_put (pc := 28) (C := RX1) (T := TX1) (N := 8) hC hinX1 0 rfl rfl 4 (by decide) tyX1 tyX1_ok nmX1 (by decide +kernel) rfl (rfl) (rfl) (Nat.le_of_ble_eq_true rfl) [(q 6, .inr (2, [.ref (q 7), .ref (q 8), .ref (q 9), .ref (q 10), .int (nI n), .int fc, .int rc, .int ga])), (q 7, .inl (cI, 168, .inl (fun _ => (nI 0)))), (q 8, .inl (cI, 168, .inl (fun _ => (nI 0)))), (q 9, .inl (cJ, 4032, .inr (.inl (fun _ => (-1)))))] rfl dX1_clear_28 ?_
  refine z_aload_n (pc := 31) hC 0 dX1_clear_31 rfl ?_
  refine z_iconst (pc := 32) (v := (nI 0)) hC dX1_clear_32 (by decide +kernel) ?_
  refine z_put (pc := 33) (C := RX1) (T := TX1) (N := 8) hC hinX1 0 rfl rfl 5 (by decide) tyX1 tyX1_ok nmX1 (by decide +kernel) rfl (rfl) (rfl) (Nat.le_of_ble_eq_true rfl) [(q 6, .inr (2, [.ref (q 7), .ref (q 8), .ref (q 9), .ref (q 10), .int (nI n), .int (nI 0), .int rc, .int ga])), (q 7, .inl (cI, 168, .inl (fun _ => (nI 0)))), (q 8, .inl (cI, 168, .inl (fun _ => (nI 0)))), (q 9, .inl (cJ, 4032, .inr (.inl (fun _ => (-1)))))] rfl dX1_clear_33 ?_
  refine z_aload_n (pc := 36) hC 0 dX1_clear_36 rfl ?_
  refine z_iconst (pc := 37) (v := (nI 0)) hC dX1_clear_37 (by decide +kernel) ?_
  refine z_put (pc := 38) (C := RX1) (T := TX1) (N := 8) hC hinX1 0 rfl rfl 6 (by decide) tyX1 tyX1_ok nmX1 (by decide +kernel) rfl (rfl) (rfl) (Nat.le_of_ble_eq_true rfl) [(q 6, .inr (2, [.ref (q 7), .ref (q 8), .ref (q 9), .ref (q 10), .int (nI n), .int (nI 0), .int (nI 0), .int ga])), (q 7, .inl (cI, 168, .inl (fun _ => (nI 0)))), (q 8, .inl (cI, 168, .inl (fun _ => (nI 0)))), (q 9, .inl (cJ, 4032, .inr (.inl (fun _ => (-1)))))] rfl dX1_clear_38 ?_
  refine z_aload_n (pc := 41) hC 0 dX1_clear_41 rfl ?_
  refine z_iconst (pc := 42) (v := (nI 0)) hC dX1_clear_42 (by decide +kernel) ?_
  refine z_put (pc := 43) (C := RX1) (T := TX1) (N := 8) hC hinX1 0 rfl rfl 7 (by decide) tyX1 tyX1_ok nmX1 (by decide +kernel) rfl (rfl) (rfl) (Nat.le_of_ble_eq_true rfl) [(q 6, .inr (2, [.ref (q 7), .ref (q 8), .ref (q 9), .ref (q 10), .int (nI n), .int (nI 0), .int (nI 0), .int (nI 0)])), (q 7, .inl (cI, 168, .inl (fun _ => (nI 0)))), (q 8, .inl (cI, 168, .inl (fun _ => (nI 0)))), (q 9, .inl (cJ, 4032, .inr (.inl (fun _ => (-1)))))] rfl dX1_clear_43 ?_
  exact z_vret (pc := 46) hC hQ hRT (rfl) dX1_clear_46

/-! fill: the rounds -/
def fAx (n : Nat) (rc : Int32) (B Kd Aa Ab Ac : Nat → Int32) (u : GS) : Nat → GS
  | 0 => u
  | k + 1 => byAx n rc B k (Kd k) (tn (Aa k)) (tn (Ab k)) (tn (Ac k)) (fAx n rc B Kd Aa Ab Ac u k)
def fBo (n : Nat) (rc : Int32) (B : Nat → Int32) (u : GS) : Nat → GS
  | 0 => u
  | r + 1 => gvWh n rc B (nI 100) r 1 1 (fBo n rc B u r) n
abbrev FS : Type := GS × (Nat → Int32) × OS × Nat
/-- what a round gives: (now, grounds, gainers) -/
def fGive (n cnt : Nat) (Kd Aa Ab Ac : Nat → Int32) (x : FS) : GS := fBo n (nI x.2.2.2) x.1.1 (fAx n (nI x.2.2.2) x.1.1 Kd Aa Ab Ac (x.1.1, x.1.2.1, nI 0) cnt) 6
def fRound (n cnt : Nat) (Kd Aa Ab Ac : Nat → Int32) (x : FS) : FS := (fGive n cnt Kd Aa Ab Ac x, x.1.1, erO n x.1.1 (fGive n cnt Kd Aa Ab Ac x).1 (fGive n cnt Kd Aa Ab Ac x).2.2 x.2.2.1, erR (fGive n cnt Kd Aa Ab Ac x).2.2 x.2.2.2)
def fLoop (n cnt : Nat) (Kd Aa Ab Ac : Nat → Int32) : Nat → FS → FS
  | 0, x => x
  | f + 1, x => if x.1.2.2 = 0 then x else fLoop n cnt Kd Aa Ab Ac f (fRound n cnt Kd Aa Ab Ac x)
def fFirst (n cnt : Nat) (Kd Aa : Nat → Int32) : GS := gv7 n (nI 0) Kd Aa (gv0 n (nI 0) (fun _ => nI 0, fun _ => (-1), nI 0) n) cnt
def fStart (n cnt : Nat) (Kd Aa : Nat → Int32) (O : Nat → Int32) : FS := (fFirst n cnt Kd Aa, fun _ => nI 0, erO n (fun _ => nI 0) (fFirst n cnt Kd Aa).1 (fFirst n cnt Kd Aa).2.2 (O, 0), erR (fFirst n cnt Kd Aa).2.2 0)
def fillF (n cnt : Nat) (Kd Aa Ab Ac : Nat → Int32) (O : Nat → Int32) : FS := fLoop n cnt Kd Aa Ab Ac 4031 (fStart n cnt Kd Aa O)
theorem fLoop_e {n cnt : Nat} {Kd Aa Ab Ac : Nat → Int32} {f : Nat} {x : FS} (h : x.1.2.2 = 0) : fLoop n cnt Kd Aa Ab Ac f x = x := by
  cases f with
  | zero => rfl
  | succ f => exact if_pos h
theorem fLoop_n {n cnt : Nat} {Kd Aa Ab Ac : Nat → Int32} {f : Nat} {x : FS} (hf : 1 ≤ f) (h : ¬ x.1.2.2 = 0) : fLoop n cnt Kd Aa Ab Ac f x = fLoop n cnt Kd Aa Ab Ac (f - 1) (fRound n cnt Kd Aa Ab Ac x) := by
  obtain ⟨g, rfl⟩ : ∃ g, f = g + 1 := ⟨f - 1, by omega⟩
  exact if_neg h

set_option maxRecDepth 100000 in
set_option maxHeartbeats 4000000 in
theorem c_X1_fill (l : Launch) (D : va_G) (cI cJ cZ : ClassId) (q : Nat → Nat) (B : Nat → Int32) (N0 : Nat → Int32) (G0 : Nat → Int64) (O : Nat → Int32) (c0 : Int32) (fc : Int32) (rc : Int32) (ga : Int32) (Kd : Nat → Int32) (Aa : Nat → Int32) (Ab : Nat → Int32) (Ac : Nat → Int32) (cnt : Nat) (n : Nat) (hn : n ≤ 24) (hcnt : cnt ≤ 80) (hax : ∀ k, k < cnt → axV n (Kd k) (Aa k) (Ab k) (Ac k)) : MV l yX1_fill wsX1_fill { frames := 4, cells := 0, slots := 0, locals := 103 } D (tyL cI cJ cZ) [.ref (q 6), .ref (q 1), .int (nI n)] [(q 6, .inr (2, [.ref (q 7), .ref (q 8), .ref (q 9), .ref (q 10), .int c0, .int fc, .int rc, .int ga])), (q 7, .inl (cI, 168, .inl B)), (q 8, .inl (cI, 168, .inl N0)), (q 9, .inl (cJ, 4032, .inr (.inl G0))), (q 10, .inl (cI, 4032, .inl O)), (q 1, .inr (1, [.ref (q 2), .ref (q 3), .ref (q 4), .ref (q 5), .int (nI cnt)])), (q 2, .inl (cI, 80, .inl Kd)), (q 3, .inl (cI, 80, .inl Aa)), (q 4, .inl (cI, 80, .inl Ab)), (q 5, .inl (cI, 80, .inl Ac))] [(q 6, .inr (2, [.ref (q 7), .ref (q 8), .ref (q 9), .ref (q 10), .int (nI n), .int (nI ((fillF n cnt Kd Aa Ab Ac O).2.2.1.2)), .int (nI ((fillF n cnt Kd Aa Ab Ac O).2.2.2)), .int ((fillF n cnt Kd Aa Ab Ac O).1.2.2)])), (q 7, .inl (cI, 168, .inl ((fillF n cnt Kd Aa Ab Ac O).2.1))), (q 8, .inl (cI, 168, .inl ((fillF n cnt Kd Aa Ab Ac O).1.1))), (q 9, .inl (cJ, 4032, .inr (.inl ((fillF n cnt Kd Aa Ab Ac O).1.2.1)))), (q 10, .inl (cI, 4032, .inl ((fillF n cnt Kd Aa Ab Ac O).2.2.1.1))), (q 1, .inr (1, [.ref (q 2), .ref (q 3), .ref (q 4), .ref (q 5), .int (nI cnt)])), (q 2, .inl (cI, 80, .inl Kd)), (q 3, .inl (cI, 80, .inl Aa)), (q 4, .inl (cI, 80, .inl Ab)), (q 5, .inl (cI, 80, .inl Ac))] := by
  refine metV_of (cc := cX1_fill) (maxL := 5) (ret := none) (by decide +kernel) rfl (Nat.le_of_ble_eq_true rfl) ?_
  intro K hC hRm hNL hDis hLis hRT hIni hQ
  have hinX0 : ∀ w ∈ wsX00, w ∈ wsX1_fill := by decide +kernel
  have hinX1 : ∀ w ∈ wsX10, w ∈ wsX1_fill := by decide +kernel
  refine z_aload_n (pc := 0) hC 0 dX1_fill_0 rfl ?_
  refine z_iload_n (pc := 1) hC 2 dX1_fill_1 rfl ?_
  refine z_callV_V (pc := 2) (y := yX1_clear) (wy := wsX1_clear) (rm := { frames := 1, cells := 0, slots := 0, locals := 24 }) (As := [.int (nI n)]) (rest := []) (na := 1) (C := RX1) (T := TX1) (NF := 8) (ci := 2) (wc := [(q 6, .inr (2, [.ref (q 7), .ref (q 8), .ref (q 9), .ref (q 10), .int c0, .int fc, .int rc, .int ga])), (q 7, .inl (cI, 168, .inl B)), (q 8, .inl (cI, 168, .inl N0)), (q 9, .inl (cJ, 4032, .inr (.inl G0)))]) (wc2 := [(q 6, .inr (2, [.ref (q 7), .ref (q 8), .ref (q 9), .ref (q 10), .int (nI n), .int (nI 0), .int (nI 0), .int (nI 0)])), (q 7, .inl (cI, 168, .inl (fun _ => nI 0))), (q 8, .inl (cI, 168, .inl (fun _ => nI 0))), (q 9, .inl (cJ, 4032, .inr (.inl (fun _ => (-1)))))]) hC hRm hDis hLis 0 rfl rfl gX1_fill_X1_clear ⟨rfl, by decide +kernel, by decide +kernel⟩ rfl ⟨by decide, by decide⟩ ⟨by decide, by decide⟩ rfl (Nat.le_of_ble_eq_true rfl) (by decide +kernel) (c_X1_clear _ _ cI cJ cZ (q) (B) (N0) (G0) (c0) (fc) (rc) (ga) (n) ) [0, 1, 2, 3] [4, 5, 6, 7, 8, 9] [6, 7, 8, 9, 0, 1, 2, 3, 4, 5] [(q 10, .inl (cI, 4032, .inl O)), (q 1, .inr (1, [.ref (q 2), .ref (q 3), .ref (q 4), .ref (q 5), .int (nI cnt)])), (q 2, .inl (cI, 80, .inl Kd)), (q 3, .inl (cI, 80, .inl Aa)), (q 4, .inl (cI, 80, .inl Ab)), (q 5, .inl (cI, 80, .inl Ac))] rfl (by decide) rfl (by decide) (by decide) [(q 6, .inr (2, [.ref (q 7), .ref (q 8), .ref (q 9), .ref (q 10), .int (nI n), .int (nI 0), .int (nI 0), .int (nI 0)])), (q 7, .inl (cI, 168, .inl (fun _ => nI 0))), (q 8, .inl (cI, 168, .inl (fun _ => nI 0))), (q 9, .inl (cJ, 4032, .inr (.inl (fun _ => (-1))))), (q 10, .inl (cI, 4032, .inl O)), (q 1, .inr (1, [.ref (q 2), .ref (q 3), .ref (q 4), .ref (q 5), .int (nI cnt)])), (q 2, .inl (cI, 80, .inl Kd)), (q 3, .inl (cI, 80, .inl Aa)), (q 4, .inl (cI, 80, .inl Ab)), (q 5, .inl (cI, 80, .inl Ac))] rfl (by decide) rfl dX1_fill_2 ?_
  refine z_aload_n (pc := 5) hC 0 dX1_fill_5 rfl ?_
  refine z_aload_n (pc := 6) hC 1 dX1_fill_6 rfl ?_
  refine z_callV_V (pc := 7) (y := yX1_giveAtFirst) (wy := wsX1_giveAtFirst) (rm := { frames := 3, cells := 0, slots := 0, locals := 71 }) (As := [.ref (q 1)]) (rest := []) (na := 1) (C := RX1) (T := TX1) (NF := 8) (ci := 2) (wc := [(q 6, .inr (2, [.ref (q 7), .ref (q 8), .ref (q 9), .ref (q 10), .int (nI n), .int (nI 0), .int (nI 0), .int (nI 0)])), (q 8, .inl (cI, 168, .inl (fun _ => nI 0))), (q 9, .inl (cJ, 4032, .inr (.inl (fun _ => (-1))))), (q 1, .inr (1, [.ref (q 2), .ref (q 3), .ref (q 4), .ref (q 5), .int (nI cnt)])), (q 2, .inl (cI, 80, .inl Kd)), (q 3, .inl (cI, 80, .inl Aa))]) (wc2 := [(q 6, .inr (2, [.ref (q 7), .ref (q 8), .ref (q 9), .ref (q 10), .int (nI n), .int (nI 0), .int (nI 0), .int ((gv7 n (nI 0) Kd Aa (gv0 n (nI 0) (fun _ => nI 0, fun _ => (-1), nI 0) n) cnt).2.2)])), (q 8, .inl (cI, 168, .inl ((gv7 n (nI 0) Kd Aa (gv0 n (nI 0) (fun _ => nI 0, fun _ => (-1), nI 0) n) cnt).1))), (q 9, .inl (cJ, 4032, .inr (.inl ((gv7 n (nI 0) Kd Aa (gv0 n (nI 0) (fun _ => nI 0, fun _ => (-1), nI 0) n) cnt).2.1)))), (q 1, .inr (1, [.ref (q 2), .ref (q 3), .ref (q 4), .ref (q 5), .int (nI cnt)])), (q 2, .inl (cI, 80, .inl Kd)), (q 3, .inl (cI, 80, .inl Aa))]) hC hRm hDis hLis 0 rfl rfl gX1_fill_X1_giveAtFirst ⟨rfl, by decide +kernel, by decide +kernel⟩ rfl ⟨by decide, by decide⟩ ⟨by decide, by decide⟩ rfl (Nat.le_of_ble_eq_true rfl) (by decide +kernel) (c_X1_giveAtFirst _ _ cI cJ cZ (q) ((fun _ => nI 0, fun _ => (-1), nI 0)) (n) (nI 0) (nI 0) (Kd) (Aa) (cnt) (hn) (hcnt) (fun k hk e => (hax k hk).2.2.2.2.2.2 e)) [0, 2, 3, 5, 6, 7] [1, 4, 8, 9] [4, 0, 5, 6, 1, 7, 8, 9, 2, 3] [(q 7, .inl (cI, 168, .inl (fun _ => nI 0))), (q 10, .inl (cI, 4032, .inl O)), (q 4, .inl (cI, 80, .inl Ab)), (q 5, .inl (cI, 80, .inl Ac))] rfl (by decide) rfl (by decide) (by decide) [(q 6, .inr (2, [.ref (q 7), .ref (q 8), .ref (q 9), .ref (q 10), .int (nI n), .int (nI 0), .int (nI 0), .int ((gv7 n (nI 0) Kd Aa (gv0 n (nI 0) (fun _ => nI 0, fun _ => (-1), nI 0) n) cnt).2.2)])), (q 7, .inl (cI, 168, .inl (fun _ => nI 0))), (q 8, .inl (cI, 168, .inl ((gv7 n (nI 0) Kd Aa (gv0 n (nI 0) (fun _ => nI 0, fun _ => (-1), nI 0) n) cnt).1))), (q 9, .inl (cJ, 4032, .inr (.inl ((gv7 n (nI 0) Kd Aa (gv0 n (nI 0) (fun _ => nI 0, fun _ => (-1), nI 0) n) cnt).2.1)))), (q 10, .inl (cI, 4032, .inl O)), (q 1, .inr (1, [.ref (q 2), .ref (q 3), .ref (q 4), .ref (q 5), .int (nI cnt)])), (q 2, .inl (cI, 80, .inl Kd)), (q 3, .inl (cI, 80, .inl Aa)), (q 4, .inl (cI, 80, .inl Ab)), (q 5, .inl (cI, 80, .inl Ac))] rfl (by decide) rfl dX1_fill_7 ?_
  refine z_aload_n (pc := 10) hC 0 dX1_fill_10 rfl ?_
  refine z_callV_V (pc := 11) (y := yX1_endRound) (wy := wsX1_endRound) (rm := { frames := 3, cells := 0, slots := 0, locals := 68 }) (As := []) (rest := []) (na := 0) (C := RX1) (T := TX1) (NF := 8) (ci := 2) (wc := [(q 6, .inr (2, [.ref (q 7), .ref (q 8), .ref (q 9), .ref (q 10), .int (nI n), .int (nI 0), .int (nI 0), .int ((gv7 n (nI 0) Kd Aa (gv0 n (nI 0) (fun _ => nI 0, fun _ => (-1), nI 0) n) cnt).2.2)])), (q 7, .inl (cI, 168, .inl (fun _ => nI 0))), (q 8, .inl (cI, 168, .inl ((gv7 n (nI 0) Kd Aa (gv0 n (nI 0) (fun _ => nI 0, fun _ => (-1), nI 0) n) cnt).1))), (q 10, .inl (cI, 4032, .inl O))]) (wc2 := [(q 6, .inr (2, [.ref (q 7), .ref (q 8), .ref (q 9), .ref (q 10), .int (nI n), .int (nI ((erO n (fun _ => nI 0) ((gv7 n (nI 0) Kd Aa (gv0 n (nI 0) (fun _ => nI 0, fun _ => (-1), nI 0) n) cnt).1) ((gv7 n (nI 0) Kd Aa (gv0 n (nI 0) (fun _ => nI 0, fun _ => (-1), nI 0) n) cnt).2.2) (O, 0)).2)), .int (nI (erR ((gv7 n (nI 0) Kd Aa (gv0 n (nI 0) (fun _ => nI 0, fun _ => (-1), nI 0) n) cnt).2.2) 0)), .int ((gv7 n (nI 0) Kd Aa (gv0 n (nI 0) (fun _ => nI 0, fun _ => (-1), nI 0) n) cnt).2.2)])), (q 7, .inl (cI, 168, .inl (fun _ => nI 0))), (q 8, .inl (cI, 168, .inl ((gv7 n (nI 0) Kd Aa (gv0 n (nI 0) (fun _ => nI 0, fun _ => (-1), nI 0) n) cnt).1))), (q 10, .inl (cI, 4032, .inl ((erO n (fun _ => nI 0) ((gv7 n (nI 0) Kd Aa (gv0 n (nI 0) (fun _ => nI 0, fun _ => (-1), nI 0) n) cnt).1) ((gv7 n (nI 0) Kd Aa (gv0 n (nI 0) (fun _ => nI 0, fun _ => (-1), nI 0) n) cnt).2.2) (O, 0)).1)))]) hC hRm hDis hLis 0 rfl rfl gX1_fill_X1_endRound ⟨rfl, by decide +kernel, by decide +kernel⟩ rfl ⟨by decide, by decide⟩ ⟨by decide, by decide⟩ rfl (Nat.le_of_ble_eq_true rfl) (by decide +kernel) (c_X1_endRound _ _ cI cJ cZ (q) (fun _ => nI 0) ((gv7 n (nI 0) Kd Aa (gv0 n (nI 0) (fun _ => nI 0, fun _ => (-1), nI 0) n) cnt).1) ((O, 0)) (n) (0) ((gv7 n (nI 0) Kd Aa (gv0 n (nI 0) (fun _ => nI 0, fun _ => (-1), nI 0) n) cnt).2.2) (hn) (Nat.zero_le 4032)) [0, 1, 2, 4] [3, 5, 6, 7, 8, 9] [6, 7, 8, 0, 9, 1, 2, 3, 4, 5] [(q 9, .inl (cJ, 4032, .inr (.inl ((gv7 n (nI 0) Kd Aa (gv0 n (nI 0) (fun _ => nI 0, fun _ => (-1), nI 0) n) cnt).2.1)))), (q 1, .inr (1, [.ref (q 2), .ref (q 3), .ref (q 4), .ref (q 5), .int (nI cnt)])), (q 2, .inl (cI, 80, .inl Kd)), (q 3, .inl (cI, 80, .inl Aa)), (q 4, .inl (cI, 80, .inl Ab)), (q 5, .inl (cI, 80, .inl Ac))] rfl (by decide) rfl (by decide) (by decide) [(q 6, .inr (2, [.ref (q 7), .ref (q 8), .ref (q 9), .ref (q 10), .int (nI n), .int (nI ((erO n (fun _ => nI 0) ((gv7 n (nI 0) Kd Aa (gv0 n (nI 0) (fun _ => nI 0, fun _ => (-1), nI 0) n) cnt).1) ((gv7 n (nI 0) Kd Aa (gv0 n (nI 0) (fun _ => nI 0, fun _ => (-1), nI 0) n) cnt).2.2) (O, 0)).2)), .int (nI (erR ((gv7 n (nI 0) Kd Aa (gv0 n (nI 0) (fun _ => nI 0, fun _ => (-1), nI 0) n) cnt).2.2) 0)), .int ((gv7 n (nI 0) Kd Aa (gv0 n (nI 0) (fun _ => nI 0, fun _ => (-1), nI 0) n) cnt).2.2)])), (q 7, .inl (cI, 168, .inl (fun _ => nI 0))), (q 8, .inl (cI, 168, .inl ((gv7 n (nI 0) Kd Aa (gv0 n (nI 0) (fun _ => nI 0, fun _ => (-1), nI 0) n) cnt).1))), (q 9, .inl (cJ, 4032, .inr (.inl ((gv7 n (nI 0) Kd Aa (gv0 n (nI 0) (fun _ => nI 0, fun _ => (-1), nI 0) n) cnt).2.1)))), (q 10, .inl (cI, 4032, .inl ((erO n (fun _ => nI 0) ((gv7 n (nI 0) Kd Aa (gv0 n (nI 0) (fun _ => nI 0, fun _ => (-1), nI 0) n) cnt).1) ((gv7 n (nI 0) Kd Aa (gv0 n (nI 0) (fun _ => nI 0, fun _ => (-1), nI 0) n) cnt).2.2) (O, 0)).1))), (q 1, .inr (1, [.ref (q 2), .ref (q 3), .ref (q 4), .ref (q 5), .int (nI cnt)])), (q 2, .inl (cI, 80, .inl Kd)), (q 3, .inl (cI, 80, .inl Aa)), (q 4, .inl (cI, 80, .inl Ab)), (q 5, .inl (cI, 80, .inl Ac))] rfl (by decide) rfl dX1_fill_11 ?_
  refine z_iconst (pc := 14) (v := (nI 1)) hC dX1_fill_14 (by decide +kernel) ?_
  refine z_istore_n (pc := 15) hC hNL [(3, .int (nI 1)), (0, .ref (q 6)), (1, .ref (q 1)), (2, .int (nI n))] dX1_fill_15 (by decide) rfl ?_
  have L16 : ∀ (fu : Nat) (j : Nat) (x : FS) (hj : 1 ≤ j) (hi : j ≤ 4032) (hf : 4033 ≤ j + fu) (hfc : x.2.2.1.2 ≤ 4032) (hX : fillF n cnt Kd Aa Ab Ac O = fLoop n cnt Kd Aa Ab Ac (4032 - j) x), Z K 0 0 [(q 6, .inr (2, [.ref (q 7), .ref (q 8), .ref (q 9), .ref (q 10), .int (nI n), .int (nI ((x).2.2.1.2)), .int (nI ((x).2.2.2)), .int ((x).1.2.2)])), (q 7, .inl (cI, 168, .inl ((x).2.1))), (q 8, .inl (cI, 168, .inl ((x).1.1))), (q 9, .inl (cJ, 4032, .inr (.inl ((x).1.2.1)))), (q 10, .inl (cI, 4032, .inl ((x).2.2.1.1))), (q 1, .inr (1, [.ref (q 2), .ref (q 3), .ref (q 4), .ref (q 5), .int (nI cnt)])), (q 2, .inl (cI, 80, .inl Kd)), (q 3, .inl (cI, 80, .inl Aa)), (q 4, .inl (cI, 80, .inl Ab)), (q 5, .inl (cI, 80, .inl Ac))] [(3, .int (nI j)), (0, .ref (q 6)), (1, .ref (q 1)), (2, .int (nI n))] 16 [] := by
    intro fu
    induction fu with
    | zero =>
      intro j x hj hi hf hfc hX
      exact absurd trivial (by omega)
    | succ fu ih16 =>
      intro j x hj hi hf hfc hX
      refine z_iload_n (pc := 16) hC 0 dX1_fill_16 rfl ?_
      refine z_sipush (pc := 17) (v := (nI 4032)) hC dX1_fill_17 (by decide +kernel) ?_
      refine z_ncmp_ge (pc := 20) (tgt := 112) hC dX1_fill_20 (by decide) (by omega) (by omega) (fun h20 => ?_) (fun h20 => ?_)
      · exact z_vret (pc := 112) hC hQ hRT (by first | rw [hX, show 4032 - j = 0 by omega]; rfl | rw [hX, fLoop_e h27]) dX1_fill_112
      · refine z_aload_n (pc := 23) hC 1 dX1_fill_23 rfl ?_
        refine z_get (pc := 24) (C := RX1) (T := TX1) (N := 8) hC hinX1 0 rfl rfl 7 (by decide) (by decide +kernel) rfl dX1_fill_24 ?_
        refine z_if_eq (pc := 27) (tgt := 112) hC dX1_fill_27 (by decide) (fun h27 => ?_) (fun h27 => ?_)
        · exact z_vret (pc := 112) hC hQ hRT (by first | rw [hX, show 4032 - j = 0 by omega]; rfl | rw [hX, fLoop_e h27]) dX1_fill_112
        · refine z_aload_n (pc := 30) hC 1 dX1_fill_30 rfl ?_
          refine z_get (pc := 31) (C := RX1) (T := TX1) (N := 8) hC hinX1 0 rfl rfl 1 (by decide) (by decide +kernel) rfl dX1_fill_31 ?_
          refine z_iconst (pc := 34) (v := (nI 0)) hC dX1_fill_34 (by decide +kernel) ?_
          refine z_aload_n (pc := 35) hC 1 dX1_fill_35 rfl ?_
          refine z_get (pc := 36) (C := RX1) (T := TX1) (N := 8) hC hinX1 0 rfl rfl 0 (by decide) (by decide +kernel) rfl dX1_fill_36 ?_
          refine z_iconst (pc := 39) (v := (nI 0)) hC dX1_fill_39 (by decide +kernel) ?_
          refine z_sipush (pc := 40) (v := (nI 168)) hC dX1_fill_40 (by decide +kernel) ?_
          refine z_copyi (pc := 43) hC hRm (by decide +kernel) (by decide +kernel) (by decide +kernel) (by decide +kernel) 2 1 0 0 rfl rfl rfl rfl (by omega) (by omega) (by decide) (by decide) (by decide) (by decide +kernel) [(q 6, .inr (2, [.ref (q 7), .ref (q 8), .ref (q 9), .ref (q 10), .int (nI n), .int (nI ((x).2.2.1.2)), .int (nI ((x).2.2.2)), .int ((x).1.2.2)])), (q 7, .inl (cI, 168, .inl (va_cpy ((x).1.1) ((x).2.1) 0 0 168))), (q 8, .inl (cI, 168, .inl ((x).1.1))), (q 9, .inl (cJ, 4032, .inr (.inl ((x).1.2.1)))), (q 10, .inl (cI, 4032, .inl ((x).2.2.1.1))), (q 1, .inr (1, [.ref (q 2), .ref (q 3), .ref (q 4), .ref (q 5), .int (nI cnt)])), (q 2, .inl (cI, 80, .inl Kd)), (q 3, .inl (cI, 80, .inl Aa)), (q 4, .inl (cI, 80, .inl Ab)), (q 5, .inl (cI, 80, .inl Ac))] rfl dX1_fill_43 ?_
          refine z_arrI (f' := x.1.1) 1 rfl (fun j hj => sb_cpy0 hj) [(q 6, .inr (2, [.ref (q 7), .ref (q 8), .ref (q 9), .ref (q 10), .int (nI n), .int (nI ((x).2.2.1.2)), .int (nI ((x).2.2.2)), .int ((x).1.2.2)])), (q 7, .inl (cI, 168, .inl x.1.1)), (q 8, .inl (cI, 168, .inl ((x).1.1))), (q 9, .inl (cJ, 4032, .inr (.inl ((x).1.2.1)))), (q 10, .inl (cI, 4032, .inl ((x).2.2.1.1))), (q 1, .inr (1, [.ref (q 2), .ref (q 3), .ref (q 4), .ref (q 5), .int (nI cnt)])), (q 2, .inl (cI, 80, .inl Kd)), (q 3, .inl (cI, 80, .inl Aa)), (q 4, .inl (cI, 80, .inl Ab)), (q 5, .inl (cI, 80, .inl Ac))] rfl ?_
          refine z_aload_n (pc := 46) hC 1 dX1_fill_46 rfl ?_
          refine z_iconst (pc := 47) (v := (nI 0)) hC dX1_fill_47 (by decide +kernel) ?_
          refine z_put (pc := 48) (C := RX1) (T := TX1) (N := 8) hC hinX1 0 rfl rfl 7 (by decide) tyX1 tyX1_ok nmX1 (by decide +kernel) rfl (rfl) (rfl) (Nat.le_of_ble_eq_true rfl) [(q 6, .inr (2, [.ref (q 7), .ref (q 8), .ref (q 9), .ref (q 10), .int (nI n), .int (nI ((x).2.2.1.2)), .int (nI ((x).2.2.2)), .int (nI 0)])), (q 7, .inl (cI, 168, .inl x.1.1)), (q 8, .inl (cI, 168, .inl ((x).1.1))), (q 9, .inl (cJ, 4032, .inr (.inl ((x).1.2.1)))), (q 10, .inl (cI, 4032, .inl ((x).2.2.1.1))), (q 1, .inr (1, [.ref (q 2), .ref (q 3), .ref (q 4), .ref (q 5), .int (nI cnt)])), (q 2, .inl (cI, 80, .inl Kd)), (q 3, .inl (cI, 80, .inl Aa)), (q 4, .inl (cI, 80, .inl Ab)), (q 5, .inl (cI, 80, .inl Ac))] rfl dX1_fill_48 ?_
          refine z_iconst (pc := 51) (v := (nI 0)) hC dX1_fill_51 (by decide +kernel) ?_
          refine z_istore (pc := 52) hC hNL [(4, .int (nI 0)), (3, .int (nI j)), (0, .ref (q 6)), (1, .ref (q 1)), (2, .int (nI n))] dX1_fill_52 (by decide) rfl ?_
          have L54 : ∀ (fu : Nat) (k : Nat) (w : GS) (hk : k ≤ cnt) (hf2 : cnt + 1 ≤ k + fu) (hw : w = fAx n (nI x.2.2.2) x.1.1 Kd Aa Ab Ac (x.1.1, x.1.2.1, nI 0) k), Z K 0 0 [(q 6, .inr (2, [.ref (q 7), .ref (q 8), .ref (q 9), .ref (q 10), .int (nI n), .int (nI ((x).2.2.1.2)), .int (nI ((x).2.2.2)), .int w.2.2])), (q 7, .inl (cI, 168, .inl x.1.1)), (q 8, .inl (cI, 168, .inl w.1)), (q 9, .inl (cJ, 4032, .inr (.inl w.2.1))), (q 10, .inl (cI, 4032, .inl ((x).2.2.1.1))), (q 1, .inr (1, [.ref (q 2), .ref (q 3), .ref (q 4), .ref (q 5), .int (nI cnt)])), (q 2, .inl (cI, 80, .inl Kd)), (q 3, .inl (cI, 80, .inl Aa)), (q 4, .inl (cI, 80, .inl Ab)), (q 5, .inl (cI, 80, .inl Ac))] [(4, .int (nI k)), (3, .int (nI j)), (0, .ref (q 6)), (1, .ref (q 1)), (2, .int (nI n))] 54 [] := by
            intro fu
            induction fu with
            | zero =>
              intro k w hk hf2 hw
              exact absurd trivial (by omega)
            | succ fu ih54 =>
              intro k w hk hf2 hw
              refine z_iload (pc := 54) hC 0 dX1_fill_54 rfl ?_
              refine z_aload_n (pc := 56) hC 3 dX1_fill_56 rfl ?_
              refine z_getN (pc := 57) (C := RX0) (T := TX0) (N := 5) hC hinX0 5 rfl rfl 4 (by decide) (by decide +kernel) rfl dX1_fill_57 ?_
              refine z_ncmp_ge (pc := 60) (tgt := 76) hC dX1_fill_60 (by decide) (by omega) (by omega) (fun h60 => ?_) (fun h60 => ?_)
              · refine z_iconst (pc := 76) (v := (nI 0)) hC dX1_fill_76 (by decide +kernel) ?_
                refine z_istore (pc := 77) hC hNL [(4, .int (nI 0)), (3, .int (nI j)), (0, .ref (q 6)), (1, .ref (q 1)), (2, .int (nI n))] dX1_fill_77 (by decide) rfl ?_
                have L79 : ∀ (fu : Nat) (r9 : Nat) (v : GS) (hr9 : r9 ≤ 6) (hf3 : 7 ≤ r9 + fu) (hv : v = fBo n (nI x.2.2.2) x.1.1 (fAx n (nI x.2.2.2) x.1.1 Kd Aa Ab Ac (x.1.1, x.1.2.1, nI 0) cnt) r9), Z K 0 0 [(q 6, .inr (2, [.ref (q 7), .ref (q 8), .ref (q 9), .ref (q 10), .int (nI n), .int (nI ((x).2.2.1.2)), .int (nI ((x).2.2.2)), .int v.2.2])), (q 7, .inl (cI, 168, .inl x.1.1)), (q 8, .inl (cI, 168, .inl v.1)), (q 9, .inl (cJ, 4032, .inr (.inl v.2.1))), (q 10, .inl (cI, 4032, .inl ((x).2.2.1.1))), (q 1, .inr (1, [.ref (q 2), .ref (q 3), .ref (q 4), .ref (q 5), .int (nI cnt)])), (q 2, .inl (cI, 80, .inl Kd)), (q 3, .inl (cI, 80, .inl Aa)), (q 4, .inl (cI, 80, .inl Ab)), (q 5, .inl (cI, 80, .inl Ac))] [(4, .int (nI r9)), (3, .int (nI j)), (0, .ref (q 6)), (1, .ref (q 1)), (2, .int (nI n))] 79 [] := by
                  intro fu
                  induction fu with
                  | zero =>
                    intro r9 v hr9 hf3 hv
                    exact absurd trivial (by omega)
                  | succ fu ih79 =>
                    intro r9 v hr9 hf3 hv
                    refine z_iload (pc := 79) hC 0 dX1_fill_79 rfl ?_
                    refine z_bipush (pc := 81) (v := (nI 6)) hC dX1_fill_81 (by decide +kernel) ?_
                    refine z_ncmp_ge (pc := 83) (tgt := 102) hC dX1_fill_83 (by decide) (by omega) (by omega) (fun h83 => ?_) (fun h83 => ?_)
                    · have e9 : r9 = 6 := by omega
                      subst e9
                      have ev : v = fGive n cnt Kd Aa Ab Ac x := hv
                      subst ev
                      refine z_aload_n (pc := 102) hC 2 dX1_fill_102 rfl ?_
                      refine z_callV_V (pc := 103) (y := yX1_endRound) (wy := wsX1_endRound) (rm := { frames := 3, cells := 0, slots := 0, locals := 68 }) (As := []) (rest := []) (na := 0) (C := RX1) (T := TX1) (NF := 8) (ci := 2) (wc := [(q 6, .inr (2, [.ref (q 7), .ref (q 8), .ref (q 9), .ref (q 10), .int (nI n), .int (nI ((x).2.2.1.2)), .int (nI ((x).2.2.2)), .int ((fGive n cnt Kd Aa Ab Ac x).2.2)])), (q 7, .inl (cI, 168, .inl x.1.1)), (q 8, .inl (cI, 168, .inl ((fGive n cnt Kd Aa Ab Ac x).1))), (q 10, .inl (cI, 4032, .inl ((x).2.2.1.1)))]) (wc2 := [(q 6, .inr (2, [.ref (q 7), .ref (q 8), .ref (q 9), .ref (q 10), .int (nI n), .int (nI ((erO n x.1.1 ((fGive n cnt Kd Aa Ab Ac x).1) ((fGive n cnt Kd Aa Ab Ac x).2.2) x.2.2.1).2)), .int (nI (erR ((fGive n cnt Kd Aa Ab Ac x).2.2) x.2.2.2)), .int ((fGive n cnt Kd Aa Ab Ac x).2.2)])), (q 7, .inl (cI, 168, .inl x.1.1)), (q 8, .inl (cI, 168, .inl ((fGive n cnt Kd Aa Ab Ac x).1))), (q 10, .inl (cI, 4032, .inl ((erO n x.1.1 ((fGive n cnt Kd Aa Ab Ac x).1) ((fGive n cnt Kd Aa Ab Ac x).2.2) x.2.2.1).1)))]) hC hRm hDis hLis 0 rfl rfl gX1_fill_X1_endRound ⟨rfl, by decide +kernel, by decide +kernel⟩ rfl ⟨by decide, by decide⟩ ⟨by decide, by decide⟩ rfl (Nat.le_of_ble_eq_true rfl) (by decide +kernel) (c_X1_endRound _ _ cI cJ cZ (q) (x.1.1) ((fGive n cnt Kd Aa Ab Ac x).1) (x.2.2.1) (n) (x.2.2.2) ((fGive n cnt Kd Aa Ab Ac x).2.2) (hn) (hfc)) [0, 1, 2, 4] [3, 5, 6, 7, 8, 9] [6, 7, 8, 0, 9, 1, 2, 3, 4, 5] [(q 9, .inl (cJ, 4032, .inr (.inl ((fGive n cnt Kd Aa Ab Ac x).2.1)))), (q 1, .inr (1, [.ref (q 2), .ref (q 3), .ref (q 4), .ref (q 5), .int (nI cnt)])), (q 2, .inl (cI, 80, .inl Kd)), (q 3, .inl (cI, 80, .inl Aa)), (q 4, .inl (cI, 80, .inl Ab)), (q 5, .inl (cI, 80, .inl Ac))] rfl (by decide) rfl (by decide) (by decide) [(q 6, .inr (2, [.ref (q 7), .ref (q 8), .ref (q 9), .ref (q 10), .int (nI n), .int (nI ((erO n x.1.1 ((fGive n cnt Kd Aa Ab Ac x).1) ((fGive n cnt Kd Aa Ab Ac x).2.2) x.2.2.1).2)), .int (nI (erR ((fGive n cnt Kd Aa Ab Ac x).2.2) x.2.2.2)), .int ((fGive n cnt Kd Aa Ab Ac x).2.2)])), (q 7, .inl (cI, 168, .inl x.1.1)), (q 8, .inl (cI, 168, .inl ((fGive n cnt Kd Aa Ab Ac x).1))), (q 9, .inl (cJ, 4032, .inr (.inl ((fGive n cnt Kd Aa Ab Ac x).2.1)))), (q 10, .inl (cI, 4032, .inl ((erO n x.1.1 ((fGive n cnt Kd Aa Ab Ac x).1) ((fGive n cnt Kd Aa Ab Ac x).2.2) x.2.2.1).1))), (q 1, .inr (1, [.ref (q 2), .ref (q 3), .ref (q 4), .ref (q 5), .int (nI cnt)])), (q 2, .inl (cI, 80, .inl Kd)), (q 3, .inl (cI, 80, .inl Aa)), (q 4, .inl (cI, 80, .inl Ab)), (q 5, .inl (cI, 80, .inl Ac))] rfl (by decide) rfl dX1_fill_103 ?_
                      refine z_iinc (pc := 106) (q := 1) (x := (nI j)) (v := (nI (j + 1))) hC hNL [(3, .int (nI (j + 1))), (4, .int (nI 6)), (0, .ref (q 6)), (1, .ref (q 1)), (2, .int (nI n))] dX1_fill_106 rfl (nI_add _ _) (by decide) rfl ?_
                      refine z_goto (pc := 109) (tgt := 16) hC dX1_fill_109 (by decide) ?_
                      refine z_lv [0, 2, 3, 4] rfl ?_
                      exact ih16 (j + 1) (fRound n cnt Kd Aa Ab Ac x) (by omega) (by omega) (by omega) (by exact erO_le hfc) (by rw [hX, fLoop_n (by omega) h27, show 4032 - j - 1 = 4032 - (j + 1) by omega])
                    · refine z_aload_n (pc := 86) hC 2 dX1_fill_86 rfl ?_
                      refine z_bipush (pc := 87) (v := (nI 100)) hC dX1_fill_87 (by decide +kernel) ?_
                      refine z_iload (pc := 89) hC 0 dX1_fill_89 rfl ?_
                      refine z_iconst (pc := 91) (v := (nI 1)) hC dX1_fill_91 (by decide +kernel) ?_
                      refine z_iconst (pc := 92) (v := (nI 1)) hC dX1_fill_92 (by decide +kernel) ?_
                      refine z_callV_V (pc := 93) (y := yX1_giveToWhatHas) (wy := wsX1_giveToWhatHas) (rm := { frames := 2, cells := 0, slots := 0, locals := 49 }) (As := [.int (nI 100), .int (nI r9), .int (nI 1), .int (nI 1)]) (rest := []) (na := 4) (C := RX1) (T := TX1) (NF := 8) (ci := 2) (wc := [(q 6, .inr (2, [.ref (q 7), .ref (q 8), .ref (q 9), .ref (q 10), .int (nI n), .int (nI ((x).2.2.1.2)), .int (nI ((x).2.2.2)), .int v.2.2])), (q 7, .inl (cI, 168, .inl x.1.1)), (q 8, .inl (cI, 168, .inl v.1)), (q 9, .inl (cJ, 4032, .inr (.inl v.2.1)))]) (wc2 := [(q 6, .inr (2, [.ref (q 7), .ref (q 8), .ref (q 9), .ref (q 10), .int (nI n), .int (nI ((x).2.2.1.2)), .int (nI ((x).2.2.2)), .int ((gvWh n (nI ((x).2.2.2)) x.1.1 (nI 100) r9 1 1 v n).2.2)])), (q 7, .inl (cI, 168, .inl x.1.1)), (q 8, .inl (cI, 168, .inl ((gvWh n (nI ((x).2.2.2)) x.1.1 (nI 100) r9 1 1 v n).1))), (q 9, .inl (cJ, 4032, .inr (.inl ((gvWh n (nI ((x).2.2.2)) x.1.1 (nI 100) r9 1 1 v n).2.1))))]) hC hRm hDis hLis 0 rfl rfl gX1_fill_X1_giveToWhatHas ⟨rfl, by decide +kernel, by decide +kernel⟩ rfl ⟨by decide, by decide⟩ ⟨by decide, by decide⟩ rfl (Nat.le_of_ble_eq_true rfl) (by decide +kernel) (c_X1_giveToWhatHas _ _ cI cJ cZ (q) (x.1.1) (v) (n) (nI ((x).2.2.1.2)) (nI ((x).2.2.2)) (nI 100) (r9) (1) (1) (by omega) (by decide) (by decide) (hn)) [0, 1, 2, 3] [4, 5, 6, 7, 8, 9] [6, 7, 8, 9, 0, 1, 2, 3, 4, 5] [(q 10, .inl (cI, 4032, .inl ((x).2.2.1.1))), (q 1, .inr (1, [.ref (q 2), .ref (q 3), .ref (q 4), .ref (q 5), .int (nI cnt)])), (q 2, .inl (cI, 80, .inl Kd)), (q 3, .inl (cI, 80, .inl Aa)), (q 4, .inl (cI, 80, .inl Ab)), (q 5, .inl (cI, 80, .inl Ac))] rfl (by decide) rfl (by decide) (by decide) [(q 6, .inr (2, [.ref (q 7), .ref (q 8), .ref (q 9), .ref (q 10), .int (nI n), .int (nI ((x).2.2.1.2)), .int (nI ((x).2.2.2)), .int ((gvWh n (nI ((x).2.2.2)) x.1.1 (nI 100) r9 1 1 v n).2.2)])), (q 7, .inl (cI, 168, .inl x.1.1)), (q 8, .inl (cI, 168, .inl ((gvWh n (nI ((x).2.2.2)) x.1.1 (nI 100) r9 1 1 v n).1))), (q 9, .inl (cJ, 4032, .inr (.inl ((gvWh n (nI ((x).2.2.2)) x.1.1 (nI 100) r9 1 1 v n).2.1)))), (q 10, .inl (cI, 4032, .inl ((x).2.2.1.1))), (q 1, .inr (1, [.ref (q 2), .ref (q 3), .ref (q 4), .ref (q 5), .int (nI cnt)])), (q 2, .inl (cI, 80, .inl Kd)), (q 3, .inl (cI, 80, .inl Aa)), (q 4, .inl (cI, 80, .inl Ab)), (q 5, .inl (cI, 80, .inl Ac))] rfl (by decide) rfl dX1_fill_93 ?_
                      refine z_iinc (pc := 96) (q := 0) (x := (nI r9)) (v := (nI (r9 + 1))) hC hNL [(4, .int (nI (r9 + 1))), (3, .int (nI j)), (0, .ref (q 6)), (1, .ref (q 1)), (2, .int (nI n))] dX1_fill_96 rfl (nI_add _ _) (by decide) rfl ?_
                      refine z_goto (pc := 99) (tgt := 79) hC dX1_fill_99 (by decide) ?_
                      exact ih79 (r9 + 1) (gvWh n (nI ((x).2.2.2)) x.1.1 (nI 100) r9 1 1 v n) (by omega) (by omega) (by rw [hv]; rfl)
                exact L79 (7) (0) (w) (by omega) (by omega) (by rw [hw, show k = cnt by omega]; rfl)
              · refine z_aload_n (pc := 63) hC 2 dX1_fill_63 rfl ?_
                refine z_aload_n (pc := 64) hC 3 dX1_fill_64 rfl ?_
                refine z_iload (pc := 65) hC 0 dX1_fill_65 rfl ?_
                refine z_callV_V (pc := 67) (y := yX1_giveByAxiom) (wy := wsX1_giveByAxiom) (rm := { frames := 3, cells := 0, slots := 0, locals := 78 }) (As := [.ref (q 1), .int (nI k)]) (rest := []) (na := 2) (C := RX1) (T := TX1) (NF := 8) (ci := 2) (wc := [(q 6, .inr (2, [.ref (q 7), .ref (q 8), .ref (q 9), .ref (q 10), .int (nI n), .int (nI ((x).2.2.1.2)), .int (nI ((x).2.2.2)), .int w.2.2])), (q 7, .inl (cI, 168, .inl x.1.1)), (q 8, .inl (cI, 168, .inl w.1)), (q 9, .inl (cJ, 4032, .inr (.inl w.2.1))), (q 1, .inr (1, [.ref (q 2), .ref (q 3), .ref (q 4), .ref (q 5), .int (nI cnt)])), (q 2, .inl (cI, 80, .inl Kd)), (q 3, .inl (cI, 80, .inl Aa)), (q 4, .inl (cI, 80, .inl Ab)), (q 5, .inl (cI, 80, .inl Ac))]) (wc2 := [(q 6, .inr (2, [.ref (q 7), .ref (q 8), .ref (q 9), .ref (q 10), .int (nI n), .int (nI ((x).2.2.1.2)), .int (nI ((x).2.2.2)), .int ((byAx n (nI ((x).2.2.2)) x.1.1 k (Kd k) (tn (Aa k)) (tn (Ab k)) (tn (Ac k)) w).2.2)])), (q 7, .inl (cI, 168, .inl x.1.1)), (q 8, .inl (cI, 168, .inl ((byAx n (nI ((x).2.2.2)) x.1.1 k (Kd k) (tn (Aa k)) (tn (Ab k)) (tn (Ac k)) w).1))), (q 9, .inl (cJ, 4032, .inr (.inl ((byAx n (nI ((x).2.2.2)) x.1.1 k (Kd k) (tn (Aa k)) (tn (Ab k)) (tn (Ac k)) w).2.1)))), (q 1, .inr (1, [.ref (q 2), .ref (q 3), .ref (q 4), .ref (q 5), .int (nI cnt)])), (q 2, .inl (cI, 80, .inl Kd)), (q 3, .inl (cI, 80, .inl Aa)), (q 4, .inl (cI, 80, .inl Ab)), (q 5, .inl (cI, 80, .inl Ac))]) hC hRm hDis hLis 0 rfl rfl gX1_fill_X1_giveByAxiom ⟨rfl, by decide +kernel, by decide +kernel⟩ rfl ⟨by decide, by decide⟩ ⟨by decide, by decide⟩ rfl (Nat.le_of_ble_eq_true rfl) (by decide +kernel) (c_X1_giveByAxiom _ _ cI cJ cZ (q) (x.1.1) (w) (n) (nI ((x).2.2.1.2)) (nI ((x).2.2.2)) (Kd) (Aa) (Ab) (Ac) (cnt) (k) (hn) (by omega) (hax k (by omega))) [0, 1, 2, 3, 5, 6, 7, 8, 9] [4] [1, 2, 3, 4, 0, 5, 6, 7, 8, 9] [(q 10, .inl (cI, 4032, .inl ((x).2.2.1.1)))] rfl (by decide) rfl (by decide) (by decide) [(q 6, .inr (2, [.ref (q 7), .ref (q 8), .ref (q 9), .ref (q 10), .int (nI n), .int (nI ((x).2.2.1.2)), .int (nI ((x).2.2.2)), .int ((byAx n (nI ((x).2.2.2)) x.1.1 k (Kd k) (tn (Aa k)) (tn (Ab k)) (tn (Ac k)) w).2.2)])), (q 7, .inl (cI, 168, .inl x.1.1)), (q 8, .inl (cI, 168, .inl ((byAx n (nI ((x).2.2.2)) x.1.1 k (Kd k) (tn (Aa k)) (tn (Ab k)) (tn (Ac k)) w).1))), (q 9, .inl (cJ, 4032, .inr (.inl ((byAx n (nI ((x).2.2.2)) x.1.1 k (Kd k) (tn (Aa k)) (tn (Ab k)) (tn (Ac k)) w).2.1)))), (q 10, .inl (cI, 4032, .inl ((x).2.2.1.1))), (q 1, .inr (1, [.ref (q 2), .ref (q 3), .ref (q 4), .ref (q 5), .int (nI cnt)])), (q 2, .inl (cI, 80, .inl Kd)), (q 3, .inl (cI, 80, .inl Aa)), (q 4, .inl (cI, 80, .inl Ab)), (q 5, .inl (cI, 80, .inl Ac))] rfl (by decide) rfl dX1_fill_67 ?_
                refine z_iinc (pc := 70) (q := 0) (x := (nI k)) (v := (nI (k + 1))) hC hNL [(4, .int (nI (k + 1))), (3, .int (nI j)), (0, .ref (q 6)), (1, .ref (q 1)), (2, .int (nI n))] dX1_fill_70 rfl (nI_add _ _) (by decide) rfl ?_
                refine z_goto (pc := 73) (tgt := 54) hC dX1_fill_73 (by decide) ?_
                exact ih54 (k + 1) (byAx n (nI ((x).2.2.2)) x.1.1 k (Kd k) (tn (Aa k)) (tn (Ab k)) (tn (Ac k)) w) (by omega) (by omega) (by rw [hw]; rfl)
          exact L54 (cnt + 1) (0) ((x.1.1, x.1.2.1, nI 0)) (by omega) (by omega) (rfl)
  exact L16 (4032) (1) (fStart n cnt Kd Aa O) (by omega) (by omega) (by omega) (erO_le (Nat.zero_le 4032)) (rfl)
end
section
/-! ElCompletion$Closure, the reads -/
theorem lg_lt0 {x y : Int64} : lg_cmp x y < 0 ↔ x < y := by
  unfold lg_cmp
  by_cases h1 : y < x
  · simp only [h1, if_true]
    exact ⟨fun h => absurd h (by decide), fun h => absurd (Int64.lt_trans h h1) Int64.lt_irrefl⟩
  · by_cases h2 : x = y
    · subst h2
      simp [Int64.lt_irrefl]
    · simp only [h1, h2, if_false]
      exact ⟨fun _ => Int64.lt_of_le_of_ne (Int64.not_lt.mp h1) h2, fun _ => by decide⟩
theorem lg_eq0 {x y : Int64} : lg_cmp x y = 0 ↔ x = y := by
  unfold lg_cmp
  by_cases h1 : y < x
  · simp only [h1, if_true]
    exact ⟨fun h => absurd h (by decide), fun h => by subst h; exact absurd h1 Int64.lt_irrefl⟩
  · by_cases h2 : x = y
    · subst h2
      simp [Int64.lt_irrefl]
    · simp only [h1, h2, if_false]
      exact ⟨fun h => absurd h (by decide), fun h => absurd h id⟩
def flw (G : Nat → Int64) (c : Int32) : Bool := decide (¬ c < 0 ∧ ¬ nI 4032 ≤ c ∧ ¬ G (tn c) < 0)
theorem flw_n {G : Nat → Int64} {c : Int32} (h : c < 0) : flw G c = false := decide_eq_false (fun q => q.1 h)
theorem flw_g {G : Nat → Int64} {c : Int32} (h : nI 4032 ≤ c) : flw G c = false := decide_eq_false (fun q => q.2.1 h)
theorem flw_nI {G : Nat → Int64} {j : Nat} (h : j < 4032) : flw G (nI j) = decide (¬ G j < 0) := by
  unfold flw
  rw [tn_nI (by omega)]
  exact decide_eq_decide.mpr ⟨fun q => q.2.2, fun q => ⟨nI_pos (by omega), nI_ge h (by decide), q⟩⟩
def rdO (g : Int64) : Int32 := (g >>> ((nI 32).toInt64 &&& 63)).toInt32
def axO (g : Int64) : Int32 := if (g >>> ((nI 24).toInt64 &&& 63)).toInt32 &&& nI 255 = nI 255 then (-1) else (g >>> ((nI 24).toInt64 &&& 63)).toInt32 &&& nI 255
def fiO (g : Int64) : Int32 := if (g >>> ((nI 12).toInt64 &&& 63)).toInt32 &&& nI 4095 = nI 4095 then (-1) else (g >>> ((nI 12).toInt64 &&& 63)).toInt32 &&& nI 4095
def seO (g : Int64) : Int32 := if g.toInt32 &&& nI 4095 = nI 4095 then (-1) else g.toInt32 &&& nI 4095

set_option maxRecDepth 100000 in
set_option maxHeartbeats 4000000 in
theorem c_X1_follows (l : Launch) (D : va_G) (cI cJ cZ : ClassId) (q : Nat → Nat) (G : Nat → Int64) (c0 : Int32) (fc : Int32) (rc : Int32) (ga : Int32) (p0 : Int32) : MI l yX1_follows wsX1_follows { frames := 0, cells := 0, slots := 0, locals := 0 } D (tyL cI cJ cZ) [.ref (q 6), .int p0] [(q 6, .inr (2, [.ref (q 7), .ref (q 8), .ref (q 9), .ref (q 10), .int c0, .int fc, .int rc, .int ga])), (q 9, .inl (cJ, 4032, .inr (.inl G)))] [(q 6, .inr (2, [.ref (q 7), .ref (q 8), .ref (q 9), .ref (q 10), .int c0, .int fc, .int rc, .int ga])), (q 9, .inl (cJ, 4032, .inr (.inl G)))] (bI (flw G p0)) := by
  refine metI_of (cc := cX1_follows) (maxL := 2) (ret := (some .boolean)) (by decide +kernel) rfl (Nat.le_of_ble_eq_true rfl) ?_
  intro K hC hRm hNL hDis hLis hRT hIni hQ
  have hinX1 : ∀ w ∈ wsX10, w ∈ wsX1_follows := by decide +kernel
  refine z_iload_n (pc := 0) hC 1 dX1_follows_0 rfl ?_
  refine z_if_lt (pc := 1) (tgt := 26) hC dX1_follows_1 (by decide) (fun h1 => ?_) (fun h1 => ?_)
  · refine z_iconst (pc := 26) (v := (nI 0)) hC dX1_follows_26 (by decide +kernel) ?_
    exact z_iret (pc := 27) hC hQ hRT (by decide +kernel) (by first | exact bI_f (flw_n h1) | exact bI_f (flw_g h8) | exact bI_t (by rw [flw_nI hj]; exact decide_eq_true (fun h => h19 (lg_lt0.mpr h))) | exact bI_f (by rw [flw_nI hj]; exact decide_eq_false (fun h => h (lg_lt0.mp h19)))) (rfl) dX1_follows_27
  · refine z_iload_n (pc := 4) hC 1 dX1_follows_4 rfl ?_
    refine z_sipush (pc := 5) (v := (nI 4032)) hC dX1_follows_5 (by decide +kernel) ?_
    refine z_icmp_ge (pc := 8) (tgt := 26) hC dX1_follows_8 (by decide) (fun h8 => ?_) (fun h8 => ?_)
    · refine z_iconst (pc := 26) (v := (nI 0)) hC dX1_follows_26 (by decide +kernel) ?_
      exact z_iret (pc := 27) hC hQ hRT (by decide +kernel) (by first | exact bI_f (flw_n h1) | exact bI_f (flw_g h8) | exact bI_t (by rw [flw_nI hj]; exact decide_eq_true (fun h => h19 (lg_lt0.mpr h))) | exact bI_f (by rw [flw_nI hj]; exact decide_eq_false (fun h => h (lg_lt0.mp h19)))) (rfl) dX1_follows_27
    · obtain ⟨j, hj, ej⟩ := nI_not_neg (by decide) h1 h8
      subst ej
      refine z_aload_n (pc := 11) hC 0 dX1_follows_11 rfl ?_
      refine z_get (pc := 12) (C := RX1) (T := TX1) (N := 8) hC hinX1 0 rfl rfl 2 (by decide) (by decide +kernel) rfl dX1_follows_12 ?_
      refine z_iload_n (pc := 15) hC 1 dX1_follows_15 rfl ?_
      refine z_lald (pc := 16) (v := (G j)) hC 1 1 rfl rfl (hj) (by decide) (rfl) dX1_follows_16 ?_
      refine z_lconst (pc := 17) (v := 0) hC dX1_follows_17 (by decide +kernel) ?_
      refine z_lcmp (pc := 18) (v := (lg_cmp (G j) 0)) hC dX1_follows_18 (rfl) ?_
      refine z_if_lt (pc := 19) (tgt := 26) hC dX1_follows_19 (by decide) (fun h19 => ?_) (fun h19 => ?_)
      · refine z_iconst (pc := 26) (v := (nI 0)) hC dX1_follows_26 (by decide +kernel) ?_
        exact z_iret (pc := 27) hC hQ hRT (by decide +kernel) (by first | exact bI_f (flw_n h1) | exact bI_f (flw_g h8) | exact bI_t (by rw [flw_nI hj]; exact decide_eq_true (fun h => h19 (lg_lt0.mpr h))) | exact bI_f (by rw [flw_nI hj]; exact decide_eq_false (fun h => h (lg_lt0.mp h19)))) (rfl) dX1_follows_27
      · refine z_iconst (pc := 22) (v := (nI 1)) hC dX1_follows_22 (by decide +kernel) ?_
        refine z_goto (pc := 23) (tgt := 27) hC dX1_follows_23 (by decide) ?_
        exact z_iret (pc := 27) hC hQ hRT (by decide +kernel) (by first | exact bI_f (flw_n h1) | exact bI_f (flw_g h8) | exact bI_t (by rw [flw_nI hj]; exact decide_eq_true (fun h => h19 (lg_lt0.mpr h))) | exact bI_f (by rw [flw_nI hj]; exact decide_eq_false (fun h => h (lg_lt0.mp h19)))) (rfl) dX1_follows_27

set_option maxRecDepth 100000 in
set_option maxHeartbeats 4000000 in
theorem c_X1_roundOf (l : Launch) (D : va_G) (cI cJ cZ : ClassId) (q : Nat → Nat) (G : Nat → Int64) (c0 : Int32) (fc : Int32) (rc : Int32) (ga : Int32) (j : Nat) (hj : j < 4032) : MI l yX1_roundOf wsX1_roundOf { frames := 0, cells := 0, slots := 0, locals := 0 } D (tyL cI cJ cZ) [.ref (q 6), .int (nI j)] [(q 6, .inr (2, [.ref (q 7), .ref (q 8), .ref (q 9), .ref (q 10), .int c0, .int fc, .int rc, .int ga])), (q 9, .inl (cJ, 4032, .inr (.inl G)))] [(q 6, .inr (2, [.ref (q 7), .ref (q 8), .ref (q 9), .ref (q 10), .int c0, .int fc, .int rc, .int ga])), (q 9, .inl (cJ, 4032, .inr (.inl G)))] (rdO (G j)) := by
  refine metI_of (cc := cX1_roundOf) (maxL := 2) (ret := (some .int)) (by decide +kernel) rfl (Nat.le_of_ble_eq_true rfl) ?_
  intro K hC hRm hNL hDis hLis hRT hIni hQ
  have hinX1 : ∀ w ∈ wsX10, w ∈ wsX1_roundOf := by decide +kernel
  refine z_aload_n (pc := 0) hC 0 dX1_roundOf_0 rfl ?_
  refine z_get (pc := 1) (C := RX1) (T := TX1) (N := 8) hC hinX1 0 rfl rfl 2 (by decide) (by decide +kernel) rfl dX1_roundOf_1 ?_
  refine z_iload_n (pc := 4) hC 1 dX1_roundOf_4 rfl ?_
  refine z_lald (pc := 5) (v := (G j)) hC 1 1 rfl rfl (by omega) (by decide) (rfl) dX1_roundOf_5 ?_
  refine z_bipush (pc := 6) (v := (nI 32)) hC dX1_roundOf_6 (by decide +kernel) ?_
  refine z_lshr (pc := 8) (v := ((G j) >>> ((nI 32).toInt64 &&& 63))) hC dX1_roundOf_8 rfl ?_
  refine z_l2i (pc := 9) (v := (((G j) >>> ((nI 32).toInt64 &&& 63)).toInt32)) hC dX1_roundOf_9 (rfl) ?_
  exact z_iret (pc := 10) hC hQ hRT (rfl) (rfl) (rfl) dX1_roundOf_10

set_option maxRecDepth 100000 in
set_option maxHeartbeats 4000000 in
theorem c_X1_axiomOf (l : Launch) (D : va_G) (cI cJ cZ : ClassId) (q : Nat → Nat) (G : Nat → Int64) (c0 : Int32) (fc : Int32) (rc : Int32) (ga : Int32) (j : Nat) (hj : j < 4032) : MI l yX1_axiomOf wsX1_axiomOf { frames := 0, cells := 0, slots := 0, locals := 0 } D (tyL cI cJ cZ) [.ref (q 6), .int (nI j)] [(q 6, .inr (2, [.ref (q 7), .ref (q 8), .ref (q 9), .ref (q 10), .int c0, .int fc, .int rc, .int ga])), (q 9, .inl (cJ, 4032, .inr (.inl G)))] [(q 6, .inr (2, [.ref (q 7), .ref (q 8), .ref (q 9), .ref (q 10), .int c0, .int fc, .int rc, .int ga])), (q 9, .inl (cJ, 4032, .inr (.inl G)))] (axO (G j)) := by
  refine metI_of (cc := cX1_axiomOf) (maxL := 3) (ret := (some .int)) (by decide +kernel) rfl (Nat.le_of_ble_eq_true rfl) ?_
  intro K hC hRm hNL hDis hLis hRT hIni hQ
  have hinX1 : ∀ w ∈ wsX10, w ∈ wsX1_axiomOf := by decide +kernel
  refine z_aload_n (pc := 0) hC 0 dX1_axiomOf_0 rfl ?_
  refine z_get (pc := 1) (C := RX1) (T := TX1) (N := 8) hC hinX1 0 rfl rfl 2 (by decide) (by decide +kernel) rfl dX1_axiomOf_1 ?_
  refine z_iload_n (pc := 4) hC 1 dX1_axiomOf_4 rfl ?_
  refine z_lald (pc := 5) (v := (G j)) hC 1 1 rfl rfl (by omega) (by decide) (rfl) dX1_axiomOf_5 ?_
  refine z_bipush (pc := 6) (v := (nI 24)) hC dX1_axiomOf_6 (by decide +kernel) ?_
  refine z_lshr (pc := 8) (v := ((G j) >>> ((nI 24).toInt64 &&& 63))) hC dX1_axiomOf_8 rfl ?_
  refine z_l2i (pc := 9) (v := (((G j) >>> ((nI 24).toInt64 &&& 63)).toInt32)) hC dX1_axiomOf_9 (rfl) ?_
  refine z_sipush (pc := 10) (v := (nI 255)) hC dX1_axiomOf_10 (by decide +kernel) ?_
  refine z_iand (pc := 13) (v := ((((G j) >>> ((nI 24).toInt64 &&& 63)).toInt32) &&& (nI 255))) hC dX1_axiomOf_13 (rfl) ?_
  refine z_istore_n (pc := 14) hC hNL [(2, .int ((((G j) >>> ((nI 24).toInt64 &&& 63)).toInt32) &&& (nI 255))), (0, .ref (q 6)), (1, .int (nI j))] dX1_axiomOf_14 (by decide) rfl ?_
  refine z_iload_n (pc := 15) hC 0 dX1_axiomOf_15 rfl ?_
  refine z_sipush (pc := 16) (v := (nI 255)) hC dX1_axiomOf_16 (by decide +kernel) ?_
  refine z_icmp_ne (pc := 19) (tgt := 26) hC dX1_axiomOf_19 (by decide) (fun h19 => ?_) (fun h19 => ?_)
  · refine z_iload_n (pc := 26) hC 0 dX1_axiomOf_26 rfl ?_
    exact z_iret (pc := 27) hC hQ hRT (rfl) (by first | exact (if_neg h19).symm | exact (if_pos h19).symm) (rfl) dX1_axiomOf_27
  · refine z_iconst (pc := 22) (v := (-1)) hC dX1_axiomOf_22 (by decide +kernel) ?_
    refine z_goto (pc := 23) (tgt := 27) hC dX1_axiomOf_23 (by decide) ?_
    exact z_iret (pc := 27) hC hQ hRT (rfl) (by first | exact (if_neg h19).symm | exact (if_pos h19).symm) (rfl) dX1_axiomOf_27

set_option maxRecDepth 100000 in
set_option maxHeartbeats 4000000 in
theorem c_X1_firstPremiseOf (l : Launch) (D : va_G) (cI cJ cZ : ClassId) (q : Nat → Nat) (G : Nat → Int64) (c0 : Int32) (fc : Int32) (rc : Int32) (ga : Int32) (j : Nat) (hj : j < 4032) : MI l yX1_firstPremiseOf wsX1_firstPremiseOf { frames := 0, cells := 0, slots := 0, locals := 0 } D (tyL cI cJ cZ) [.ref (q 6), .int (nI j)] [(q 6, .inr (2, [.ref (q 7), .ref (q 8), .ref (q 9), .ref (q 10), .int c0, .int fc, .int rc, .int ga])), (q 9, .inl (cJ, 4032, .inr (.inl G)))] [(q 6, .inr (2, [.ref (q 7), .ref (q 8), .ref (q 9), .ref (q 10), .int c0, .int fc, .int rc, .int ga])), (q 9, .inl (cJ, 4032, .inr (.inl G)))] (fiO (G j)) := by
  refine metI_of (cc := cX1_firstPremiseOf) (maxL := 3) (ret := (some .int)) (by decide +kernel) rfl (Nat.le_of_ble_eq_true rfl) ?_
  intro K hC hRm hNL hDis hLis hRT hIni hQ
  have hinX1 : ∀ w ∈ wsX10, w ∈ wsX1_firstPremiseOf := by decide +kernel
  refine z_aload_n (pc := 0) hC 0 dX1_firstPremiseOf_0 rfl ?_
  refine z_get (pc := 1) (C := RX1) (T := TX1) (N := 8) hC hinX1 0 rfl rfl 2 (by decide) (by decide +kernel) rfl dX1_firstPremiseOf_1 ?_
  refine z_iload_n (pc := 4) hC 1 dX1_firstPremiseOf_4 rfl ?_
  refine z_lald (pc := 5) (v := (G j)) hC 1 1 rfl rfl (by omega) (by decide) (rfl) dX1_firstPremiseOf_5 ?_
  refine z_bipush (pc := 6) (v := (nI 12)) hC dX1_firstPremiseOf_6 (by decide +kernel) ?_
  refine z_lshr (pc := 8) (v := ((G j) >>> ((nI 12).toInt64 &&& 63))) hC dX1_firstPremiseOf_8 rfl ?_
  refine z_l2i (pc := 9) (v := (((G j) >>> ((nI 12).toInt64 &&& 63)).toInt32)) hC dX1_firstPremiseOf_9 (rfl) ?_
  refine z_sipush (pc := 10) (v := (nI 4095)) hC dX1_firstPremiseOf_10 (by decide +kernel) ?_
  refine z_iand (pc := 13) (v := ((((G j) >>> ((nI 12).toInt64 &&& 63)).toInt32) &&& (nI 4095))) hC dX1_firstPremiseOf_13 (rfl) ?_
  refine z_istore_n (pc := 14) hC hNL [(2, .int ((((G j) >>> ((nI 12).toInt64 &&& 63)).toInt32) &&& (nI 4095))), (0, .ref (q 6)), (1, .int (nI j))] dX1_firstPremiseOf_14 (by decide) rfl ?_
  refine z_iload_n (pc := 15) hC 0 dX1_firstPremiseOf_15 rfl ?_
  refine z_sipush (pc := 16) (v := (nI 4095)) hC dX1_firstPremiseOf_16 (by decide +kernel) ?_
  refine z_icmp_ne (pc := 19) (tgt := 26) hC dX1_firstPremiseOf_19 (by decide) (fun h19 => ?_) (fun h19 => ?_)
  · refine z_iload_n (pc := 26) hC 0 dX1_firstPremiseOf_26 rfl ?_
    exact z_iret (pc := 27) hC hQ hRT (rfl) (by first | exact (if_neg h19).symm | exact (if_pos h19).symm) (rfl) dX1_firstPremiseOf_27
  · refine z_iconst (pc := 22) (v := (-1)) hC dX1_firstPremiseOf_22 (by decide +kernel) ?_
    refine z_goto (pc := 23) (tgt := 27) hC dX1_firstPremiseOf_23 (by decide) ?_
    exact z_iret (pc := 27) hC hQ hRT (rfl) (by first | exact (if_neg h19).symm | exact (if_pos h19).symm) (rfl) dX1_firstPremiseOf_27

set_option maxRecDepth 100000 in
set_option maxHeartbeats 4000000 in
theorem c_X1_secondPremiseOf (l : Launch) (D : va_G) (cI cJ cZ : ClassId) (q : Nat → Nat) (G : Nat → Int64) (c0 : Int32) (fc : Int32) (rc : Int32) (ga : Int32) (j : Nat) (hj : j < 4032) : MI l yX1_secondPremiseOf wsX1_secondPremiseOf { frames := 0, cells := 0, slots := 0, locals := 0 } D (tyL cI cJ cZ) [.ref (q 6), .int (nI j)] [(q 6, .inr (2, [.ref (q 7), .ref (q 8), .ref (q 9), .ref (q 10), .int c0, .int fc, .int rc, .int ga])), (q 9, .inl (cJ, 4032, .inr (.inl G)))] [(q 6, .inr (2, [.ref (q 7), .ref (q 8), .ref (q 9), .ref (q 10), .int c0, .int fc, .int rc, .int ga])), (q 9, .inl (cJ, 4032, .inr (.inl G)))] (seO (G j)) := by
  refine metI_of (cc := cX1_secondPremiseOf) (maxL := 3) (ret := (some .int)) (by decide +kernel) rfl (Nat.le_of_ble_eq_true rfl) ?_
  intro K hC hRm hNL hDis hLis hRT hIni hQ
  have hinX1 : ∀ w ∈ wsX10, w ∈ wsX1_secondPremiseOf := by decide +kernel
  refine z_aload_n (pc := 0) hC 0 dX1_secondPremiseOf_0 rfl ?_
  refine z_get (pc := 1) (C := RX1) (T := TX1) (N := 8) hC hinX1 0 rfl rfl 2 (by decide) (by decide +kernel) rfl dX1_secondPremiseOf_1 ?_
  refine z_iload_n (pc := 4) hC 1 dX1_secondPremiseOf_4 rfl ?_
  refine z_lald (pc := 5) (v := (G j)) hC 1 1 rfl rfl (by omega) (by decide) (rfl) dX1_secondPremiseOf_5 ?_
  refine z_l2i (pc := 6) (v := ((G j).toInt32)) hC dX1_secondPremiseOf_6 (rfl) ?_
  refine z_sipush (pc := 7) (v := (nI 4095)) hC dX1_secondPremiseOf_7 (by decide +kernel) ?_
  refine z_iand (pc := 10) (v := (((G j).toInt32) &&& (nI 4095))) hC dX1_secondPremiseOf_10 (rfl) ?_
  refine z_istore_n (pc := 11) hC hNL [(2, .int (((G j).toInt32) &&& (nI 4095))), (0, .ref (q 6)), (1, .int (nI j))] dX1_secondPremiseOf_11 (by decide) rfl ?_
  refine z_iload_n (pc := 12) hC 0 dX1_secondPremiseOf_12 rfl ?_
  refine z_sipush (pc := 13) (v := (nI 4095)) hC dX1_secondPremiseOf_13 (by decide +kernel) ?_
  refine z_icmp_ne (pc := 16) (tgt := 23) hC dX1_secondPremiseOf_16 (by decide) (fun h16 => ?_) (fun h16 => ?_)
  · refine z_iload_n (pc := 23) hC 0 dX1_secondPremiseOf_23 rfl ?_
    exact z_iret (pc := 24) hC hQ hRT (rfl) (by first | exact (if_neg h16).symm | exact (if_pos h16).symm) (rfl) dX1_secondPremiseOf_24
  · refine z_iconst (pc := 19) (v := (-1)) hC dX1_secondPremiseOf_19 (by decide +kernel) ?_
    refine z_goto (pc := 20) (tgt := 24) hC dX1_secondPremiseOf_20 (by decide) ?_
    exact z_iret (pc := 24) hC hQ hRT (rfl) (by first | exact (if_neg h16).symm | exact (if_pos h16).symm) (rfl) dX1_secondPremiseOf_24

def saB (N0 : Nat → Int32) (a b : Nat) : Bool := inB (nI a) (N0 b) && inB (nI b) (N0 a)
def lsF (N0 : Nat → Int32) (a : Nat) : Nat → Nat → Nat
  | 0, _ => a
  | f + 1, b => if saB N0 a b = true then b else lsF N0 a f (b + 1)
theorem lsF_t {N0 : Nat → Int32} {a b : Nat} (hb : b < a) (h : saB N0 a b = true) : lsF N0 a (a - b) b = b := by
  obtain ⟨f, hf⟩ : ∃ f, a - b = f + 1 := ⟨a - b - 1, by omega⟩
  rw [hf]
  exact if_pos h
theorem lsF_f {N0 : Nat → Int32} {a b : Nat} (hb : b < a) (h : saB N0 a b = false) : lsF N0 a (a - b) b = lsF N0 a (a - (b + 1)) (b + 1) := by
  obtain ⟨f, hf⟩ : ∃ f, a - b = f + 1 := ⟨a - b - 1, by omega⟩
  rw [hf, show a - (b + 1) = f by omega]
  exact if_neg (by rw [h]; decide)
theorem lsF_e {N0 : Nat → Int32} {a b : Nat} (hb : a ≤ b) : lsF N0 a (a - b) b = a := by rw [show a - b = 0 by omega]; rfl

set_option maxRecDepth 100000 in
set_option maxHeartbeats 4000000 in
theorem c_X1_areSame (l : Launch) (D : va_G) (cI cJ cZ : ClassId) (q : Nat → Nat) (N0 : Nat → Int32) (n : Nat) (fc : Int32) (rc : Int32) (ga : Int32) (a : Nat) (b : Nat) (ha : a < 168) (hb : b < 168) : MI l yX1_areSame wsX1_areSame { frames := 2, cells := 0, slots := 0, locals := 43 } D (tyL cI cJ cZ) [.ref (q 6), .int (nI a), .int (nI b)] [(q 6, .inr (2, [.ref (q 7), .ref (q 8), .ref (q 9), .ref (q 10), .int (nI n), .int fc, .int rc, .int ga])), (q 8, .inl (cI, 168, .inl N0))] [(q 6, .inr (2, [.ref (q 7), .ref (q 8), .ref (q 9), .ref (q 10), .int (nI n), .int fc, .int rc, .int ga])), (q 8, .inl (cI, 168, .inl N0))] (bI (saB N0 a b)) := by
  refine metI_of (cc := cX1_areSame) (maxL := 3) (ret := (some .boolean)) (by decide +kernel) rfl (Nat.le_of_ble_eq_true rfl) ?_
  intro K hC hRm hNL hDis hLis hRT hIni hQ
  refine z_aload_n (pc := 0) hC 0 dX1_areSame_0 rfl ?_
  refine z_iload_n (pc := 1) hC 1 dX1_areSame_1 rfl ?_
  refine z_iload_n (pc := 2) hC 2 dX1_areSame_2 rfl ?_
  refine z_callV_I (pc := 3) (y := yX1_has) (wy := wsX1_has) (rm := { frames := 1, cells := 0, slots := 0, locals := 21 }) (As := [.int (nI a), .int (nI b)]) (rest := []) (na := 2) (C := RX1) (T := TX1) (NF := 8) (ci := 2) (wc := [(q 6, .inr (2, [.ref (q 7), .ref (q 8), .ref (q 9), .ref (q 10), .int (nI n), .int fc, .int rc, .int ga])), (q 8, .inl (cI, 168, .inl N0))]) (wc2 := [(q 6, .inr (2, [.ref (q 7), .ref (q 8), .ref (q 9), .ref (q 10), .int (nI n), .int fc, .int rc, .int ga])), (q 8, .inl (cI, 168, .inl N0))]) hC hRm hDis hLis 0 rfl rfl gX1_areSame_X1_has ⟨rfl, by decide +kernel, by decide +kernel⟩ rfl ⟨by decide, by decide⟩ ⟨by decide, by decide⟩ rfl (Nat.le_of_ble_eq_true rfl) (by decide +kernel) (c_X1_has _ _ cI cJ cZ (q) (N0) (n) (fc) (rc) (ga) (nI a) (b) (by omega)) [0, 1] [] [0, 1] [] rfl (by decide) rfl (by decide) (by decide) [(q 6, .inr (2, [.ref (q 7), .ref (q 8), .ref (q 9), .ref (q 10), .int (nI n), .int fc, .int rc, .int ga])), (q 8, .inl (cI, 168, .inl N0))] rfl (by decide) rfl dX1_areSame_3 ?_
  refine z_bif_eq (pc := 6) (tgt := 22) hC dX1_areSame_6 (by decide) (fun h6 => ?_) (fun h6 => ?_)
  · refine z_iconst (pc := 22) (v := (nI 0)) hC dX1_areSame_22 (by decide +kernel) ?_
    exact z_iret (pc := 23) hC hQ hRT (by decide +kernel) (by first | exact bI_f (by unfold saB; rw [h6]; rfl) | exact bI_f (by unfold saB; rw [h6, h15]; rfl) | exact bI_t (by unfold saB; rw [h6, h15]; rfl)) (rfl) dX1_areSame_23
  · refine z_aload_n (pc := 9) hC 0 dX1_areSame_9 rfl ?_
    refine z_iload_n (pc := 10) hC 2 dX1_areSame_10 rfl ?_
    refine z_iload_n (pc := 11) hC 1 dX1_areSame_11 rfl ?_
    refine z_callV_I (pc := 12) (y := yX1_has) (wy := wsX1_has) (rm := { frames := 1, cells := 0, slots := 0, locals := 21 }) (As := [.int (nI b), .int (nI a)]) (rest := []) (na := 2) (C := RX1) (T := TX1) (NF := 8) (ci := 2) (wc := [(q 6, .inr (2, [.ref (q 7), .ref (q 8), .ref (q 9), .ref (q 10), .int (nI n), .int fc, .int rc, .int ga])), (q 8, .inl (cI, 168, .inl N0))]) (wc2 := [(q 6, .inr (2, [.ref (q 7), .ref (q 8), .ref (q 9), .ref (q 10), .int (nI n), .int fc, .int rc, .int ga])), (q 8, .inl (cI, 168, .inl N0))]) hC hRm hDis hLis 0 rfl rfl gX1_areSame_X1_has ⟨rfl, by decide +kernel, by decide +kernel⟩ rfl ⟨by decide, by decide⟩ ⟨by decide, by decide⟩ rfl (Nat.le_of_ble_eq_true rfl) (by decide +kernel) (c_X1_has _ _ cI cJ cZ (q) (N0) (n) (fc) (rc) (ga) (nI b) (a) (by omega)) [0, 1] [] [0, 1] [] rfl (by decide) rfl (by decide) (by decide) [(q 6, .inr (2, [.ref (q 7), .ref (q 8), .ref (q 9), .ref (q 10), .int (nI n), .int fc, .int rc, .int ga])), (q 8, .inl (cI, 168, .inl N0))] rfl (by decide) rfl dX1_areSame_12 ?_
    refine z_bif_eq (pc := 15) (tgt := 22) hC dX1_areSame_15 (by decide) (fun h15 => ?_) (fun h15 => ?_)
    · refine z_iconst (pc := 22) (v := (nI 0)) hC dX1_areSame_22 (by decide +kernel) ?_
      exact z_iret (pc := 23) hC hQ hRT (by decide +kernel) (by first | exact bI_f (by unfold saB; rw [h6]; rfl) | exact bI_f (by unfold saB; rw [h6, h15]; rfl) | exact bI_t (by unfold saB; rw [h6, h15]; rfl)) (rfl) dX1_areSame_23
    · refine z_iconst (pc := 18) (v := (nI 1)) hC dX1_areSame_18 (by decide +kernel) ?_
      refine z_goto (pc := 19) (tgt := 23) hC dX1_areSame_19 (by decide) ?_
      exact z_iret (pc := 23) hC hQ hRT (by decide +kernel) (by first | exact bI_f (by unfold saB; rw [h6]; rfl) | exact bI_f (by unfold saB; rw [h6, h15]; rfl) | exact bI_t (by unfold saB; rw [h6, h15]; rfl)) (rfl) dX1_areSame_23

set_option maxRecDepth 100000 in
set_option maxHeartbeats 4000000 in
theorem c_X1_leastSame (l : Launch) (D : va_G) (cI cJ cZ : ClassId) (q : Nat → Nat) (N0 : Nat → Int32) (n : Nat) (fc : Int32) (rc : Int32) (ga : Int32) (a : Nat) (ha : a < 168) : MI l yX1_leastSame wsX1_leastSame { frames := 3, cells := 0, slots := 0, locals := 65 } D (tyL cI cJ cZ) [.ref (q 6), .int (nI a)] [(q 6, .inr (2, [.ref (q 7), .ref (q 8), .ref (q 9), .ref (q 10), .int (nI n), .int fc, .int rc, .int ga])), (q 8, .inl (cI, 168, .inl N0))] [(q 6, .inr (2, [.ref (q 7), .ref (q 8), .ref (q 9), .ref (q 10), .int (nI n), .int fc, .int rc, .int ga])), (q 8, .inl (cI, 168, .inl N0))] (nI (lsF N0 a a 0)) := by
  refine metI_of (cc := cX1_leastSame) (maxL := 3) (ret := (some .int)) (by decide +kernel) rfl (Nat.le_of_ble_eq_true rfl) ?_
  intro K hC hRm hNL hDis hLis hRT hIni hQ
  refine z_iconst (pc := 0) (v := (nI 0)) hC dX1_leastSame_0 (by decide +kernel) ?_
  refine z_istore_n (pc := 1) hC hNL [(2, .int (nI 0)), (0, .ref (q 6)), (1, .int (nI a))] dX1_leastSame_1 (by decide) rfl ?_
  have L2 : ∀ (fu : Nat) (b : Nat) (hi : b ≤ a) (hf : a + 1 ≤ b + fu) (hX : lsF N0 a a 0 = lsF N0 a (a - b) b), Z K 0 0 [(q 6, .inr (2, [.ref (q 7), .ref (q 8), .ref (q 9), .ref (q 10), .int (nI n), .int fc, .int rc, .int ga])), (q 8, .inl (cI, 168, .inl N0))] [(2, .int (nI b)), (0, .ref (q 6)), (1, .int (nI a))] 2 [] := by
    intro fu
    induction fu with
    | zero =>
      intro b hi hf hX
      exact absurd trivial (by omega)
    | succ fu ih2 =>
      intro b hi hf hX
      refine z_iload_n (pc := 2) hC 0 dX1_leastSame_2 rfl ?_
      refine z_iload_n (pc := 3) hC 2 dX1_leastSame_3 rfl ?_
      refine z_ncmp_ge (pc := 4) (tgt := 24) hC dX1_leastSame_4 (by decide) (by omega) (by omega) (fun h4 => ?_) (fun h4 => ?_)
      · refine z_iload_n (pc := 24) hC 2 dX1_leastSame_24 rfl ?_
        exact z_iret (pc := 25) hC hQ hRT (rfl) (by rw [hX, lsF_e (by omega)]) (rfl) dX1_leastSame_25
      · refine z_aload_n (pc := 7) hC 1 dX1_leastSame_7 rfl ?_
        refine z_iload_n (pc := 8) hC 2 dX1_leastSame_8 rfl ?_
        refine z_iload_n (pc := 9) hC 0 dX1_leastSame_9 rfl ?_
        refine z_callV_I (pc := 10) (y := yX1_areSame) (wy := wsX1_areSame) (rm := { frames := 2, cells := 0, slots := 0, locals := 43 }) (As := [.int (nI a), .int (nI b)]) (rest := []) (na := 2) (C := RX1) (T := TX1) (NF := 8) (ci := 2) (wc := [(q 6, .inr (2, [.ref (q 7), .ref (q 8), .ref (q 9), .ref (q 10), .int (nI n), .int fc, .int rc, .int ga])), (q 8, .inl (cI, 168, .inl N0))]) (wc2 := [(q 6, .inr (2, [.ref (q 7), .ref (q 8), .ref (q 9), .ref (q 10), .int (nI n), .int fc, .int rc, .int ga])), (q 8, .inl (cI, 168, .inl N0))]) hC hRm hDis hLis 0 rfl rfl gX1_leastSame_X1_areSame ⟨rfl, by decide +kernel, by decide +kernel⟩ rfl ⟨by decide, by decide⟩ ⟨by decide, by decide⟩ rfl (Nat.le_of_ble_eq_true rfl) (by decide +kernel) (c_X1_areSame _ _ cI cJ cZ (q) (N0) (n) (fc) (rc) (ga) (a) (b) (by omega) (by omega)) [0, 1] [] [0, 1] [] rfl (by decide) rfl (by decide) (by decide) [(q 6, .inr (2, [.ref (q 7), .ref (q 8), .ref (q 9), .ref (q 10), .int (nI n), .int fc, .int rc, .int ga])), (q 8, .inl (cI, 168, .inl N0))] rfl (by decide) rfl dX1_leastSame_10 ?_
        refine z_bif_eq (pc := 13) (tgt := 18) hC dX1_leastSame_13 (by decide) (fun h13 => ?_) (fun h13 => ?_)
        · refine z_iinc (pc := 18) (q := 0) (x := (nI b)) (v := (nI (b + 1))) hC hNL [(2, .int (nI (b + 1))), (0, .ref (q 6)), (1, .int (nI a))] dX1_leastSame_18 rfl (nI_add _ _) (by decide) rfl ?_
          refine z_goto (pc := 21) (tgt := 2) hC dX1_leastSame_21 (by decide) ?_
          exact ih2 (b + 1) (by omega) (by omega) (by rw [hX, lsF_f (by omega) h13])
        · refine z_iload_n (pc := 16) hC 0 dX1_leastSame_16 rfl ?_
          exact z_iret (pc := 17) hC hQ hRT (rfl) (by rw [hX, lsF_t (by omega) h13]) (rfl) dX1_leastSame_17
  exact L2 (a + 1) (0) (by omega) (by omega) (rfl)

def badB (N0 : Nat → Int32) (a b c : Nat) : Bool := inB (nI a) (N0 c) && inB (nI c) (N0 b) && !saB N0 c a && !saB N0 c b
def noB (N0 : Nat → Int32) (a b : Nat) : Nat → Nat → Bool
  | 0, _ => true
  | f + 1, c => if badB N0 a b c = true then false else noB N0 a b f (c + 1)
def parB (N0 : Nat → Int32) (n a b : Nat) : Bool := (inB (nI a) (N0 b) && !inB (nI b) (N0 a) && decide (lsF N0 b b 0 = b)) && noB N0 a b n 0
theorem noB_t {N0 : Nat → Int32} {a b n c : Nat} (hc : c < n) (h : badB N0 a b c = true) : noB N0 a b (n - c) c = false := by
  obtain ⟨f, hf⟩ : ∃ f, n - c = f + 1 := ⟨n - c - 1, by omega⟩
  rw [hf]
  exact if_pos h
theorem noB_f {N0 : Nat → Int32} {a b n c : Nat} (hc : c < n) (h : badB N0 a b c = false) : noB N0 a b (n - c) c = noB N0 a b (n - (c + 1)) (c + 1) := by
  obtain ⟨f, hf⟩ : ∃ f, n - c = f + 1 := ⟨n - c - 1, by omega⟩
  rw [hf, show n - (c + 1) = f by omega]
  exact if_neg (by rw [h]; decide)
theorem noB_e {N0 : Nat → Int32} {a b n c : Nat} (hc : n ≤ c) : noB N0 a b (n - c) c = true := by rw [show n - c = 0 by omega]; rfl
theorem lsF_le {N0 : Nat → Int32} {a : Nat} : ∀ f b, b + f ≤ a → lsF N0 a f b ≤ a
  | 0, _, _ => Nat.le_refl a
  | f + 1, b, h => by
    unfold lsF
    split
    · omega
    · exact lsF_le f (b + 1) (by omega)

set_option maxRecDepth 100000 in
set_option maxHeartbeats 4000000 in
theorem c_X1_isParent (l : Launch) (D : va_G) (cI cJ cZ : ClassId) (q : Nat → Nat) (N0 : Nat → Int32) (n : Nat) (fc : Int32) (rc : Int32) (ga : Int32) (a : Nat) (b : Nat) (hn : n ≤ 24) (ha : a < 168) (hb : b < 168) : MI l yX1_isParent wsX1_isParent { frames := 4, cells := 0, slots := 0, locals := 87 } D (tyL cI cJ cZ) [.ref (q 6), .int (nI a), .int (nI b)] [(q 6, .inr (2, [.ref (q 7), .ref (q 8), .ref (q 9), .ref (q 10), .int (nI n), .int fc, .int rc, .int ga])), (q 8, .inl (cI, 168, .inl N0))] [(q 6, .inr (2, [.ref (q 7), .ref (q 8), .ref (q 9), .ref (q 10), .int (nI n), .int fc, .int rc, .int ga])), (q 8, .inl (cI, 168, .inl N0))] (bI (parB N0 n a b)) := by
  refine metI_of (cc := cX1_isParent) (maxL := 4) (ret := (some .boolean)) (by decide +kernel) rfl (Nat.le_of_ble_eq_true rfl) ?_
  intro K hC hRm hNL hDis hLis hRT hIni hQ
  have hinX1 : ∀ w ∈ wsX10, w ∈ wsX1_isParent := by decide +kernel
  refine z_aload_n (pc := 0) hC 0 dX1_isParent_0 rfl ?_
  refine z_iload_n (pc := 1) hC 1 dX1_isParent_1 rfl ?_
  refine z_iload_n (pc := 2) hC 2 dX1_isParent_2 rfl ?_
  refine z_callV_I (pc := 3) (y := yX1_has) (wy := wsX1_has) (rm := { frames := 1, cells := 0, slots := 0, locals := 21 }) (As := [.int (nI a), .int (nI b)]) (rest := []) (na := 2) (C := RX1) (T := TX1) (NF := 8) (ci := 2) (wc := [(q 6, .inr (2, [.ref (q 7), .ref (q 8), .ref (q 9), .ref (q 10), .int (nI n), .int fc, .int rc, .int ga])), (q 8, .inl (cI, 168, .inl N0))]) (wc2 := [(q 6, .inr (2, [.ref (q 7), .ref (q 8), .ref (q 9), .ref (q 10), .int (nI n), .int fc, .int rc, .int ga])), (q 8, .inl (cI, 168, .inl N0))]) hC hRm hDis hLis 0 rfl rfl gX1_isParent_X1_has ⟨rfl, by decide +kernel, by decide +kernel⟩ rfl ⟨by decide, by decide⟩ ⟨by decide, by decide⟩ rfl (Nat.le_of_ble_eq_true rfl) (by decide +kernel) (c_X1_has _ _ cI cJ cZ (q) (N0) (n) (fc) (rc) (ga) (nI a) (b) (by omega)) [0, 1] [] [0, 1] [] rfl (by decide) rfl (by decide) (by decide) [(q 6, .inr (2, [.ref (q 7), .ref (q 8), .ref (q 9), .ref (q 10), .int (nI n), .int fc, .int rc, .int ga])), (q 8, .inl (cI, 168, .inl N0))] rfl (by decide) rfl dX1_isParent_3 ?_
  refine z_bif_eq (pc := 6) (tgt := 27) hC dX1_isParent_6 (by decide) (fun h6 => ?_) (fun h6 => ?_)
  · refine z_iconst (pc := 27) (v := (nI 0)) hC dX1_isParent_27 (by decide +kernel) ?_
    exact z_iret (pc := 28) hC hQ hRT (by decide +kernel) (by first | exact bI_f (by unfold parB; rw [h6]; rfl) | exact bI_f (by unfold parB; rw [h6, h15]; rfl) | exact bI_f (by unfold parB; rw [h6, h15, decide_eq_false h24]; rfl)) (rfl) dX1_isParent_28
  · refine z_aload_n (pc := 9) hC 0 dX1_isParent_9 rfl ?_
    refine z_iload_n (pc := 10) hC 2 dX1_isParent_10 rfl ?_
    refine z_iload_n (pc := 11) hC 1 dX1_isParent_11 rfl ?_
    refine z_callV_I (pc := 12) (y := yX1_has) (wy := wsX1_has) (rm := { frames := 1, cells := 0, slots := 0, locals := 21 }) (As := [.int (nI b), .int (nI a)]) (rest := []) (na := 2) (C := RX1) (T := TX1) (NF := 8) (ci := 2) (wc := [(q 6, .inr (2, [.ref (q 7), .ref (q 8), .ref (q 9), .ref (q 10), .int (nI n), .int fc, .int rc, .int ga])), (q 8, .inl (cI, 168, .inl N0))]) (wc2 := [(q 6, .inr (2, [.ref (q 7), .ref (q 8), .ref (q 9), .ref (q 10), .int (nI n), .int fc, .int rc, .int ga])), (q 8, .inl (cI, 168, .inl N0))]) hC hRm hDis hLis 0 rfl rfl gX1_isParent_X1_has ⟨rfl, by decide +kernel, by decide +kernel⟩ rfl ⟨by decide, by decide⟩ ⟨by decide, by decide⟩ rfl (Nat.le_of_ble_eq_true rfl) (by decide +kernel) (c_X1_has _ _ cI cJ cZ (q) (N0) (n) (fc) (rc) (ga) (nI b) (a) (by omega)) [0, 1] [] [0, 1] [] rfl (by decide) rfl (by decide) (by decide) [(q 6, .inr (2, [.ref (q 7), .ref (q 8), .ref (q 9), .ref (q 10), .int (nI n), .int fc, .int rc, .int ga])), (q 8, .inl (cI, 168, .inl N0))] rfl (by decide) rfl dX1_isParent_12 ?_
    refine z_bif_ne (pc := 15) (tgt := 27) hC dX1_isParent_15 (by decide) (fun h15 => ?_) (fun h15 => ?_)
    · refine z_iconst (pc := 27) (v := (nI 0)) hC dX1_isParent_27 (by decide +kernel) ?_
      exact z_iret (pc := 28) hC hQ hRT (by decide +kernel) (by first | exact bI_f (by unfold parB; rw [h6]; rfl) | exact bI_f (by unfold parB; rw [h6, h15]; rfl) | exact bI_f (by unfold parB; rw [h6, h15, decide_eq_false h24]; rfl)) (rfl) dX1_isParent_28
    · refine z_aload_n (pc := 18) hC 0 dX1_isParent_18 rfl ?_
      refine z_iload_n (pc := 19) hC 2 dX1_isParent_19 rfl ?_
      refine z_callV_I (pc := 20) (y := yX1_leastSame) (wy := wsX1_leastSame) (rm := { frames := 3, cells := 0, slots := 0, locals := 65 }) (As := [.int (nI b)]) (rest := []) (na := 1) (C := RX1) (T := TX1) (NF := 8) (ci := 2) (wc := [(q 6, .inr (2, [.ref (q 7), .ref (q 8), .ref (q 9), .ref (q 10), .int (nI n), .int fc, .int rc, .int ga])), (q 8, .inl (cI, 168, .inl N0))]) (wc2 := [(q 6, .inr (2, [.ref (q 7), .ref (q 8), .ref (q 9), .ref (q 10), .int (nI n), .int fc, .int rc, .int ga])), (q 8, .inl (cI, 168, .inl N0))]) hC hRm hDis hLis 0 rfl rfl gX1_isParent_X1_leastSame ⟨rfl, by decide +kernel, by decide +kernel⟩ rfl ⟨by decide, by decide⟩ ⟨by decide, by decide⟩ rfl (Nat.le_of_ble_eq_true rfl) (by decide +kernel) (c_X1_leastSame _ _ cI cJ cZ (q) (N0) (n) (fc) (rc) (ga) (b) (by omega)) [0, 1] [] [0, 1] [] rfl (by decide) rfl (by decide) (by decide) [(q 6, .inr (2, [.ref (q 7), .ref (q 8), .ref (q 9), .ref (q 10), .int (nI n), .int fc, .int rc, .int ga])), (q 8, .inl (cI, 168, .inl N0))] rfl (by decide) rfl dX1_isParent_20 ?_
      refine z_iload_n (pc := 23) hC 2 dX1_isParent_23 rfl ?_
      refine z_ncmp_eq (pc := 24) (tgt := 29) hC dX1_isParent_24 (by decide) (Nat.lt_of_le_of_lt (lsF_le b 0 (by omega)) (by omega)) (by omega) (fun h24 => ?_) (fun h24 => ?_)
      · refine z_iconst (pc := 29) (v := (nI 0)) hC dX1_isParent_29 (by decide +kernel) ?_
        refine z_istore_n (pc := 30) hC hNL [(3, .int (nI 0)), (0, .ref (q 6)), (1, .int (nI a)), (2, .int (nI b))] dX1_isParent_30 (by decide) rfl ?_
        have L31 : ∀ (fu : Nat) (c : Nat) (hi : c ≤ n) (hf : n + 1 ≤ c + fu) (hX : parB N0 n a b = noB N0 a b (n - c) c), Z K 0 0 [(q 6, .inr (2, [.ref (q 7), .ref (q 8), .ref (q 9), .ref (q 10), .int (nI n), .int fc, .int rc, .int ga])), (q 8, .inl (cI, 168, .inl N0))] [(3, .int (nI c)), (0, .ref (q 6)), (1, .int (nI a)), (2, .int (nI b))] 31 [] := by
          intro fu
          induction fu with
          | zero =>
            intro c hi hf hX
            exact absurd trivial (by omega)
          | succ fu ih31 =>
            intro c hi hf hX
            refine z_iload_n (pc := 31) hC 0 dX1_isParent_31 rfl ?_
            refine z_aload_n (pc := 32) hC 1 dX1_isParent_32 rfl ?_
            refine z_get (pc := 33) (C := RX1) (T := TX1) (N := 8) hC hinX1 0 rfl rfl 4 (by decide) (by decide +kernel) rfl dX1_isParent_33 ?_
            refine z_ncmp_ge (pc := 36) (tgt := 83) hC dX1_isParent_36 (by decide) (by omega) (by omega) (fun h36 => ?_) (fun h36 => ?_)
            · refine z_iconst (pc := 83) (v := (nI 1)) hC dX1_isParent_83 (by decide +kernel) ?_
              exact z_iret (pc := 84) hC hQ hRT (by decide +kernel) (bI_t (by rw [hX, noB_e (by omega)])) (rfl) dX1_isParent_84
            · refine z_aload_n (pc := 39) hC 1 dX1_isParent_39 rfl ?_
              refine z_iload_n (pc := 40) hC 2 dX1_isParent_40 rfl ?_
              refine z_iload_n (pc := 41) hC 0 dX1_isParent_41 rfl ?_
              refine z_callV_I (pc := 42) (y := yX1_has) (wy := wsX1_has) (rm := { frames := 1, cells := 0, slots := 0, locals := 21 }) (As := [.int (nI a), .int (nI c)]) (rest := []) (na := 2) (C := RX1) (T := TX1) (NF := 8) (ci := 2) (wc := [(q 6, .inr (2, [.ref (q 7), .ref (q 8), .ref (q 9), .ref (q 10), .int (nI n), .int fc, .int rc, .int ga])), (q 8, .inl (cI, 168, .inl N0))]) (wc2 := [(q 6, .inr (2, [.ref (q 7), .ref (q 8), .ref (q 9), .ref (q 10), .int (nI n), .int fc, .int rc, .int ga])), (q 8, .inl (cI, 168, .inl N0))]) hC hRm hDis hLis 0 rfl rfl gX1_isParent_X1_has ⟨rfl, by decide +kernel, by decide +kernel⟩ rfl ⟨by decide, by decide⟩ ⟨by decide, by decide⟩ rfl (Nat.le_of_ble_eq_true rfl) (by decide +kernel) (c_X1_has _ _ cI cJ cZ (q) (N0) (n) (fc) (rc) (ga) (nI a) (c) (by omega)) [0, 1] [] [0, 1] [] rfl (by decide) rfl (by decide) (by decide) [(q 6, .inr (2, [.ref (q 7), .ref (q 8), .ref (q 9), .ref (q 10), .int (nI n), .int fc, .int rc, .int ga])), (q 8, .inl (cI, 168, .inl N0))] rfl (by decide) rfl dX1_isParent_42 ?_
              refine z_bif_eq (pc := 45) (tgt := 77) hC dX1_isParent_45 (by decide) (fun h45 => ?_) (fun h45 => ?_)
              · refine z_iinc (pc := 77) (q := 0) (x := (nI c)) (v := (nI (c + 1))) hC hNL [(3, .int (nI (c + 1))), (0, .ref (q 6)), (1, .int (nI a)), (2, .int (nI b))] dX1_isParent_77 rfl (nI_add _ _) (by decide) rfl ?_
                refine z_goto (pc := 80) (tgt := 31) hC dX1_isParent_80 (by decide) ?_
                exact ih31 (c + 1) (by omega) (by omega) (by
        first
        | rw [hX, noB_f (by omega) (by unfold badB; rw [h45]; rfl)]
        | rw [hX, noB_f (by omega) (by unfold badB; rw [h45, h54]; rfl)]
        | rw [hX, noB_f (by omega) (by unfold badB; rw [h45, h54, h63]; rfl)]
        | rw [hX, noB_f (by omega) (by unfold badB; rw [h45, h54, h63, h72]; rfl)])
              · refine z_aload_n (pc := 48) hC 1 dX1_isParent_48 rfl ?_
                refine z_iload_n (pc := 49) hC 0 dX1_isParent_49 rfl ?_
                refine z_iload_n (pc := 50) hC 3 dX1_isParent_50 rfl ?_
                refine z_callV_I (pc := 51) (y := yX1_has) (wy := wsX1_has) (rm := { frames := 1, cells := 0, slots := 0, locals := 21 }) (As := [.int (nI c), .int (nI b)]) (rest := []) (na := 2) (C := RX1) (T := TX1) (NF := 8) (ci := 2) (wc := [(q 6, .inr (2, [.ref (q 7), .ref (q 8), .ref (q 9), .ref (q 10), .int (nI n), .int fc, .int rc, .int ga])), (q 8, .inl (cI, 168, .inl N0))]) (wc2 := [(q 6, .inr (2, [.ref (q 7), .ref (q 8), .ref (q 9), .ref (q 10), .int (nI n), .int fc, .int rc, .int ga])), (q 8, .inl (cI, 168, .inl N0))]) hC hRm hDis hLis 0 rfl rfl gX1_isParent_X1_has ⟨rfl, by decide +kernel, by decide +kernel⟩ rfl ⟨by decide, by decide⟩ ⟨by decide, by decide⟩ rfl (Nat.le_of_ble_eq_true rfl) (by decide +kernel) (c_X1_has _ _ cI cJ cZ (q) (N0) (n) (fc) (rc) (ga) (nI c) (b) (by omega)) [0, 1] [] [0, 1] [] rfl (by decide) rfl (by decide) (by decide) [(q 6, .inr (2, [.ref (q 7), .ref (q 8), .ref (q 9), .ref (q 10), .int (nI n), .int fc, .int rc, .int ga])), (q 8, .inl (cI, 168, .inl N0))] rfl (by decide) rfl dX1_isParent_51 ?_
                refine z_bif_eq (pc := 54) (tgt := 77) hC dX1_isParent_54 (by decide) (fun h54 => ?_) (fun h54 => ?_)
                · refine z_iinc (pc := 77) (q := 0) (x := (nI c)) (v := (nI (c + 1))) hC hNL [(3, .int (nI (c + 1))), (0, .ref (q 6)), (1, .int (nI a)), (2, .int (nI b))] dX1_isParent_77 rfl (nI_add _ _) (by decide) rfl ?_
                  refine z_goto (pc := 80) (tgt := 31) hC dX1_isParent_80 (by decide) ?_
                  exact ih31 (c + 1) (by omega) (by omega) (by
        first
        | rw [hX, noB_f (by omega) (by unfold badB; rw [h45]; rfl)]
        | rw [hX, noB_f (by omega) (by unfold badB; rw [h45, h54]; rfl)]
        | rw [hX, noB_f (by omega) (by unfold badB; rw [h45, h54, h63]; rfl)]
        | rw [hX, noB_f (by omega) (by unfold badB; rw [h45, h54, h63, h72]; rfl)])
                · refine z_aload_n (pc := 57) hC 1 dX1_isParent_57 rfl ?_
                  refine z_iload_n (pc := 58) hC 0 dX1_isParent_58 rfl ?_
                  refine z_iload_n (pc := 59) hC 2 dX1_isParent_59 rfl ?_
                  refine z_callV_I (pc := 60) (y := yX1_areSame) (wy := wsX1_areSame) (rm := { frames := 2, cells := 0, slots := 0, locals := 43 }) (As := [.int (nI c), .int (nI a)]) (rest := []) (na := 2) (C := RX1) (T := TX1) (NF := 8) (ci := 2) (wc := [(q 6, .inr (2, [.ref (q 7), .ref (q 8), .ref (q 9), .ref (q 10), .int (nI n), .int fc, .int rc, .int ga])), (q 8, .inl (cI, 168, .inl N0))]) (wc2 := [(q 6, .inr (2, [.ref (q 7), .ref (q 8), .ref (q 9), .ref (q 10), .int (nI n), .int fc, .int rc, .int ga])), (q 8, .inl (cI, 168, .inl N0))]) hC hRm hDis hLis 0 rfl rfl gX1_isParent_X1_areSame ⟨rfl, by decide +kernel, by decide +kernel⟩ rfl ⟨by decide, by decide⟩ ⟨by decide, by decide⟩ rfl (Nat.le_of_ble_eq_true rfl) (by decide +kernel) (c_X1_areSame _ _ cI cJ cZ (q) (N0) (n) (fc) (rc) (ga) (c) (a) (by omega) (by omega)) [0, 1] [] [0, 1] [] rfl (by decide) rfl (by decide) (by decide) [(q 6, .inr (2, [.ref (q 7), .ref (q 8), .ref (q 9), .ref (q 10), .int (nI n), .int fc, .int rc, .int ga])), (q 8, .inl (cI, 168, .inl N0))] rfl (by decide) rfl dX1_isParent_60 ?_
                  refine z_bif_ne (pc := 63) (tgt := 77) hC dX1_isParent_63 (by decide) (fun h63 => ?_) (fun h63 => ?_)
                  · refine z_iinc (pc := 77) (q := 0) (x := (nI c)) (v := (nI (c + 1))) hC hNL [(3, .int (nI (c + 1))), (0, .ref (q 6)), (1, .int (nI a)), (2, .int (nI b))] dX1_isParent_77 rfl (nI_add _ _) (by decide) rfl ?_
                    refine z_goto (pc := 80) (tgt := 31) hC dX1_isParent_80 (by decide) ?_
                    exact ih31 (c + 1) (by omega) (by omega) (by
        first
        | rw [hX, noB_f (by omega) (by unfold badB; rw [h45]; rfl)]
        | rw [hX, noB_f (by omega) (by unfold badB; rw [h45, h54]; rfl)]
        | rw [hX, noB_f (by omega) (by unfold badB; rw [h45, h54, h63]; rfl)]
        | rw [hX, noB_f (by omega) (by unfold badB; rw [h45, h54, h63, h72]; rfl)])
                  · refine z_aload_n (pc := 66) hC 1 dX1_isParent_66 rfl ?_
                    refine z_iload_n (pc := 67) hC 0 dX1_isParent_67 rfl ?_
                    refine z_iload_n (pc := 68) hC 3 dX1_isParent_68 rfl ?_
                    refine z_callV_I (pc := 69) (y := yX1_areSame) (wy := wsX1_areSame) (rm := { frames := 2, cells := 0, slots := 0, locals := 43 }) (As := [.int (nI c), .int (nI b)]) (rest := []) (na := 2) (C := RX1) (T := TX1) (NF := 8) (ci := 2) (wc := [(q 6, .inr (2, [.ref (q 7), .ref (q 8), .ref (q 9), .ref (q 10), .int (nI n), .int fc, .int rc, .int ga])), (q 8, .inl (cI, 168, .inl N0))]) (wc2 := [(q 6, .inr (2, [.ref (q 7), .ref (q 8), .ref (q 9), .ref (q 10), .int (nI n), .int fc, .int rc, .int ga])), (q 8, .inl (cI, 168, .inl N0))]) hC hRm hDis hLis 0 rfl rfl gX1_isParent_X1_areSame ⟨rfl, by decide +kernel, by decide +kernel⟩ rfl ⟨by decide, by decide⟩ ⟨by decide, by decide⟩ rfl (Nat.le_of_ble_eq_true rfl) (by decide +kernel) (c_X1_areSame _ _ cI cJ cZ (q) (N0) (n) (fc) (rc) (ga) (c) (b) (by omega) (by omega)) [0, 1] [] [0, 1] [] rfl (by decide) rfl (by decide) (by decide) [(q 6, .inr (2, [.ref (q 7), .ref (q 8), .ref (q 9), .ref (q 10), .int (nI n), .int fc, .int rc, .int ga])), (q 8, .inl (cI, 168, .inl N0))] rfl (by decide) rfl dX1_isParent_69 ?_
                    refine z_bif_ne (pc := 72) (tgt := 77) hC dX1_isParent_72 (by decide) (fun h72 => ?_) (fun h72 => ?_)
                    · refine z_iinc (pc := 77) (q := 0) (x := (nI c)) (v := (nI (c + 1))) hC hNL [(3, .int (nI (c + 1))), (0, .ref (q 6)), (1, .int (nI a)), (2, .int (nI b))] dX1_isParent_77 rfl (nI_add _ _) (by decide) rfl ?_
                      refine z_goto (pc := 80) (tgt := 31) hC dX1_isParent_80 (by decide) ?_
                      exact ih31 (c + 1) (by omega) (by omega) (by
        first
        | rw [hX, noB_f (by omega) (by unfold badB; rw [h45]; rfl)]
        | rw [hX, noB_f (by omega) (by unfold badB; rw [h45, h54]; rfl)]
        | rw [hX, noB_f (by omega) (by unfold badB; rw [h45, h54, h63]; rfl)]
        | rw [hX, noB_f (by omega) (by unfold badB; rw [h45, h54, h63, h72]; rfl)])
                    · refine z_iconst (pc := 75) (v := (nI 0)) hC dX1_isParent_75 (by decide +kernel) ?_
                      exact z_iret (pc := 76) hC hQ hRT (by decide +kernel) (bI_f (by rw [hX, noB_t (by omega) (by unfold badB; rw [h45, h54, h63, h72]; rfl)])) (rfl) dX1_isParent_76
        exact L31 (n + 1) (0) (by omega) (by omega) (by unfold parB; rw [h6, h15, h24]; simp)
      · refine z_iconst (pc := 27) (v := (nI 0)) hC dX1_isParent_27 (by decide +kernel) ?_
        exact z_iret (pc := 28) hC hQ hRT (by decide +kernel) (by first | exact bI_f (by unfold parB; rw [h6]; rfl) | exact bI_f (by unfold parB; rw [h6, h15]; rfl) | exact bI_f (by unfold parB; rw [h6, h15, decide_eq_false h24]; rfl)) (rfl) dX1_isParent_28

def poF (N0 : Nat → Int32) (n a : Nat) (i : Int32) : Nat → Nat → Nat → Int32
  | 0, _, _ => (-1)
  | f + 1, b, m => if parB N0 n a b = true then (if nI m = i then nI b else poF N0 n a i f (b + 1) (m + 1)) else poF N0 n a i f (b + 1) m
def parF (N0 : Nat → Int32) (n a : Nat) (i : Int32) : Int32 := if inB (nI a) (N0 1) = true then (-1) else poF N0 n a i n 0 0
section POF
variable {N0 : Nat → Int32} {n a : Nat} {i : Int32} {b m : Nat}
theorem poF_h (hb : b < n) (h : parB N0 n a b = true) (h2 : nI m = i) : poF N0 n a i (n - b) b m = nI b := by
  obtain ⟨f, hf⟩ : ∃ f, n - b = f + 1 := ⟨n - b - 1, by omega⟩
  rw [hf]
  unfold poF
  rw [if_pos h, if_pos h2]
theorem poF_t (hb : b < n) (h : parB N0 n a b = true) (h2 : ¬ nI m = i) : poF N0 n a i (n - b) b m = poF N0 n a i (n - (b + 1)) (b + 1) (m + 1) := by
  obtain ⟨f, hf⟩ : ∃ f, n - b = f + 1 := ⟨n - b - 1, by omega⟩
  rw [hf, show n - (b + 1) = f by omega]
  conv => lhs; unfold poF
  rw [if_pos h, if_neg h2]
theorem poF_f (hb : b < n) (h : parB N0 n a b = false) : poF N0 n a i (n - b) b m = poF N0 n a i (n - (b + 1)) (b + 1) m := by
  obtain ⟨f, hf⟩ : ∃ f, n - b = f + 1 := ⟨n - b - 1, by omega⟩
  rw [hf, show n - (b + 1) = f by omega]
  exact if_neg (by rw [h]; decide)
theorem poF_e (hb : n ≤ b) : poF N0 n a i (n - b) b m = (-1) := by rw [show n - b = 0 by omega]; rfl
theorem parF_t (h : inB (nI a) (N0 1) = true) : parF N0 n a i = (-1) := if_pos h
theorem parF_f (h : inB (nI a) (N0 1) = false) : parF N0 n a i = poF N0 n a i n 0 0 := if_neg (by rw [h]; decide)
end POF

set_option maxRecDepth 100000 in
set_option maxHeartbeats 4000000 in
theorem c_X1_parentOf (l : Launch) (D : va_G) (cI cJ cZ : ClassId) (q : Nat → Nat) (N0 : Nat → Int32) (n : Nat) (fc : Int32) (rc : Int32) (ga : Int32) (a : Nat) (i : Int32) (hn : n ≤ 24) (ha : a < 168) : MI l yX1_parentOf wsX1_parentOf { frames := 5, cells := 0, slots := 0, locals := 110 } D (tyL cI cJ cZ) [.ref (q 6), .int (nI a), .int i] [(q 6, .inr (2, [.ref (q 7), .ref (q 8), .ref (q 9), .ref (q 10), .int (nI n), .int fc, .int rc, .int ga])), (q 8, .inl (cI, 168, .inl N0))] [(q 6, .inr (2, [.ref (q 7), .ref (q 8), .ref (q 9), .ref (q 10), .int (nI n), .int fc, .int rc, .int ga])), (q 8, .inl (cI, 168, .inl N0))] (parF N0 n a i) := by
  refine metI_of (cc := cX1_parentOf) (maxL := 5) (ret := (some .int)) (by decide +kernel) rfl (Nat.le_of_ble_eq_true rfl) ?_
  intro K hC hRm hNL hDis hLis hRT hIni hQ
  have hinX1 : ∀ w ∈ wsX10, w ∈ wsX1_parentOf := by decide +kernel
  refine z_aload_n (pc := 0) hC 0 dX1_parentOf_0 rfl ?_
  refine z_iload_n (pc := 1) hC 1 dX1_parentOf_1 rfl ?_
  refine z_iconst (pc := 2) (v := (nI 1)) hC dX1_parentOf_2 (by decide +kernel) ?_
  refine z_callV_I (pc := 3) (y := yX1_has) (wy := wsX1_has) (rm := { frames := 1, cells := 0, slots := 0, locals := 21 }) (As := [.int (nI a), .int (nI 1)]) (rest := []) (na := 2) (C := RX1) (T := TX1) (NF := 8) (ci := 2) (wc := [(q 6, .inr (2, [.ref (q 7), .ref (q 8), .ref (q 9), .ref (q 10), .int (nI n), .int fc, .int rc, .int ga])), (q 8, .inl (cI, 168, .inl N0))]) (wc2 := [(q 6, .inr (2, [.ref (q 7), .ref (q 8), .ref (q 9), .ref (q 10), .int (nI n), .int fc, .int rc, .int ga])), (q 8, .inl (cI, 168, .inl N0))]) hC hRm hDis hLis 0 rfl rfl gX1_parentOf_X1_has ⟨rfl, by decide +kernel, by decide +kernel⟩ rfl ⟨by decide, by decide⟩ ⟨by decide, by decide⟩ rfl (Nat.le_of_ble_eq_true rfl) (by decide +kernel) (c_X1_has _ _ cI cJ cZ (q) (N0) (n) (fc) (rc) (ga) (nI a) (1) (by decide)) [0, 1] [] [0, 1] [] rfl (by decide) rfl (by decide) (by decide) [(q 6, .inr (2, [.ref (q 7), .ref (q 8), .ref (q 9), .ref (q 10), .int (nI n), .int fc, .int rc, .int ga])), (q 8, .inl (cI, 168, .inl N0))] rfl (by decide) rfl dX1_parentOf_3 ?_
  refine z_bif_eq (pc := 6) (tgt := 11) hC dX1_parentOf_6 (by decide) (fun h6 => ?_) (fun h6 => ?_)
  · refine z_iconst (pc := 11) (v := (nI 0)) hC dX1_parentOf_11 (by decide +kernel) ?_
    refine z_istore_n (pc := 12) hC hNL [(3, .int (nI 0)), (0, .ref (q 6)), (1, .int (nI a)), (2, .int i)] dX1_parentOf_12 (by decide) rfl ?_
    refine z_iconst (pc := 13) (v := (nI 0)) hC dX1_parentOf_13 (by decide +kernel) ?_
    refine z_istore (pc := 14) hC hNL [(4, .int (nI 0)), (3, .int (nI 0)), (0, .ref (q 6)), (1, .int (nI a)), (2, .int i)] dX1_parentOf_14 (by decide) rfl ?_
    have L16 : ∀ (fu : Nat) (b : Nat) (m0 : Nat) (hi : b ≤ n) (hf : n + 1 ≤ b + fu) (hX : parF N0 n a i = poF N0 n a i (n - b) b m0), Z K 0 0 [(q 6, .inr (2, [.ref (q 7), .ref (q 8), .ref (q 9), .ref (q 10), .int (nI n), .int fc, .int rc, .int ga])), (q 8, .inl (cI, 168, .inl N0))] [(4, .int (nI b)), (3, .int (nI m0)), (0, .ref (q 6)), (1, .int (nI a)), (2, .int i)] 16 [] := by
      intro fu
      induction fu with
      | zero =>
        intro b m0 hi hf hX
        exact absurd trivial (by omega)
      | succ fu ih16 =>
        intro b m0 hi hf hX
        refine z_iload (pc := 16) hC 0 dX1_parentOf_16 rfl ?_
        refine z_aload_n (pc := 18) hC 2 dX1_parentOf_18 rfl ?_
        refine z_get (pc := 19) (C := RX1) (T := TX1) (N := 8) hC hinX1 0 rfl rfl 4 (by decide) (by decide +kernel) rfl dX1_parentOf_19 ?_
        refine z_ncmp_ge (pc := 22) (tgt := 52) hC dX1_parentOf_22 (by decide) (by omega) (by omega) (fun h22 => ?_) (fun h22 => ?_)
        · refine z_iconst (pc := 52) (v := (-1)) hC dX1_parentOf_52 (by decide +kernel) ?_
          exact z_iret (pc := 53) hC hQ hRT (rfl) (by rw [hX, poF_e (by omega)]) (rfl) dX1_parentOf_53
        · refine z_aload_n (pc := 25) hC 2 dX1_parentOf_25 rfl ?_
          refine z_iload_n (pc := 26) hC 3 dX1_parentOf_26 rfl ?_
          refine z_iload (pc := 27) hC 0 dX1_parentOf_27 rfl ?_
          refine z_callV_I (pc := 29) (y := yX1_isParent) (wy := wsX1_isParent) (rm := { frames := 4, cells := 0, slots := 0, locals := 87 }) (As := [.int (nI a), .int (nI b)]) (rest := []) (na := 2) (C := RX1) (T := TX1) (NF := 8) (ci := 2) (wc := [(q 6, .inr (2, [.ref (q 7), .ref (q 8), .ref (q 9), .ref (q 10), .int (nI n), .int fc, .int rc, .int ga])), (q 8, .inl (cI, 168, .inl N0))]) (wc2 := [(q 6, .inr (2, [.ref (q 7), .ref (q 8), .ref (q 9), .ref (q 10), .int (nI n), .int fc, .int rc, .int ga])), (q 8, .inl (cI, 168, .inl N0))]) hC hRm hDis hLis 0 rfl rfl gX1_parentOf_X1_isParent ⟨rfl, by decide +kernel, by decide +kernel⟩ rfl ⟨by decide, by decide⟩ ⟨by decide, by decide⟩ rfl (Nat.le_of_ble_eq_true rfl) (by decide +kernel) (c_X1_isParent _ _ cI cJ cZ (q) (N0) (n) (fc) (rc) (ga) (a) (b) (by omega) (by omega) (by omega)) [0, 1] [] [0, 1] [] rfl (by decide) rfl (by decide) (by decide) [(q 6, .inr (2, [.ref (q 7), .ref (q 8), .ref (q 9), .ref (q 10), .int (nI n), .int fc, .int rc, .int ga])), (q 8, .inl (cI, 168, .inl N0))] rfl (by decide) rfl dX1_parentOf_29 ?_
          refine z_bif_eq (pc := 32) (tgt := 46) hC dX1_parentOf_32 (by decide) (fun h32 => ?_) (fun h32 => ?_)
          · refine z_iinc (pc := 46) (q := 0) (x := (nI b)) (v := (nI (b + 1))) hC hNL [(4, .int (nI (b + 1))), (3, .int (nI m0)), (0, .ref (q 6)), (1, .int (nI a)), (2, .int i)] dX1_parentOf_46 rfl (nI_add _ _) (by decide) rfl ?_
            refine z_goto (pc := 49) (tgt := 16) hC dX1_parentOf_49 (by decide) ?_
            exact ih16 (b + 1) (m0) (by omega) (by omega) (by first | rw [hX, poF_f (by omega) h32] | rw [hX, poF_t (by omega) h32 h37])
          · refine z_iload_n (pc := 35) hC 1 dX1_parentOf_35 rfl ?_
            refine z_iload_n (pc := 36) hC 4 dX1_parentOf_36 rfl ?_
            refine z_icmp_ne (pc := 37) (tgt := 43) hC dX1_parentOf_37 (by decide) (fun h37 => ?_) (fun h37 => ?_)
            · refine z_iinc (pc := 43) (q := 1) (x := (nI m0)) (v := (nI (m0 + 1))) hC hNL [(3, .int (nI (m0 + 1))), (4, .int (nI b)), (0, .ref (q 6)), (1, .int (nI a)), (2, .int i)] dX1_parentOf_43 rfl (nI_add _ _) (by decide) rfl ?_
              refine z_iinc (pc := 46) (q := 1) (x := (nI b)) (v := (nI (b + 1))) hC hNL [(4, .int (nI (b + 1))), (3, .int (nI (m0 + 1))), (0, .ref (q 6)), (1, .int (nI a)), (2, .int i)] dX1_parentOf_46 rfl (nI_add _ _) (by decide) rfl ?_
              refine z_goto (pc := 49) (tgt := 16) hC dX1_parentOf_49 (by decide) ?_
              exact ih16 (b + 1) (m0 + 1) (by omega) (by omega) (by first | rw [hX, poF_f (by omega) h32] | rw [hX, poF_t (by omega) h32 h37])
            · refine z_iload (pc := 40) hC 0 dX1_parentOf_40 rfl ?_
              exact z_iret (pc := 42) hC hQ hRT (rfl) (by rw [hX, poF_h (by omega) h32 h37]) (rfl) dX1_parentOf_42
    exact L16 (n + 1) (0) (0) (by omega) (by omega) (parF_f h6)
  · refine z_iconst (pc := 9) (v := (-1)) hC dX1_parentOf_9 (by decide +kernel) ?_
    exact z_iret (pc := 10) hC hQ hRT (rfl) ((parF_t h6).symm) (rfl) dX1_parentOf_10
end
section
/-! ElCompletion$Axioms: append, closeGap, remove -/

set_option maxRecDepth 100000 in
set_option maxHeartbeats 4000000 in
theorem c_X0_append (l : Launch) (D : va_G) (cI cJ cZ : ClassId) (q : Nat → Nat) (Kd : Nat → Int32) (Aa : Nat → Int32) (Ab : Nat → Int32) (Ac : Nat → Int32) (cnt : Nat) (k0 : Int32) (a0 : Int32) (b0 : Int32) (c0 : Int32) (hc : cnt < 80) : MI l yX0_append wsX0_append { frames := 0, cells := 0, slots := 0, locals := 0 } D (tyL cI cJ cZ) [.ref (q 1), .int k0, .int a0, .int b0, .int c0] [(q 1, .inr (1, [.ref (q 2), .ref (q 3), .ref (q 4), .ref (q 5), .int (nI cnt)])), (q 2, .inl (cI, 80, .inl Kd)), (q 3, .inl (cI, 80, .inl Aa)), (q 4, .inl (cI, 80, .inl Ab)), (q 5, .inl (cI, 80, .inl Ac))] [(q 1, .inr (1, [.ref (q 2), .ref (q 3), .ref (q 4), .ref (q 5), .int (nI (cnt + 1))])), (q 2, .inl (cI, 80, .inl (upd Kd cnt k0))), (q 3, .inl (cI, 80, .inl (upd Aa cnt a0))), (q 4, .inl (cI, 80, .inl (upd Ab cnt b0))), (q 5, .inl (cI, 80, .inl (upd Ac cnt c0)))] (nI cnt) := by
  refine metI_of (cc := cX0_append) (maxL := 5) (ret := (some .int)) (by decide +kernel) rfl (Nat.le_of_ble_eq_true rfl) ?_
  intro K hC hRm hNL hDis hLis hRT hIni hQ
  have hinX0 : ∀ w ∈ wsX00, w ∈ wsX0_append := by decide +kernel
  refine z_aload_n (pc := 0) hC 0 dX0_append_0 rfl ?_
  refine z_get (pc := 1) (C := RX0) (T := TX0) (N := 5) hC hinX0 0 rfl rfl 4 (by decide) (by decide +kernel) rfl dX0_append_1 ?_
  refine z_bipush (pc := 4) (v := (nI 80)) hC dX0_append_4 (by decide +kernel) ?_
  refine z_ncmp_lt (pc := 6) (tgt := 12) hC dX0_append_6 (by decide) (by omega) (by omega) (fun h6 => ?_) (fun h6 => absurd h6 (by omega))
  refine z_aload_n (pc := 12) hC 0 dX0_append_12 rfl ?_
  refine z_get (pc := 13) (C := RX0) (T := TX0) (N := 5) hC hinX0 0 rfl rfl 0 (by decide) (by decide +kernel) rfl dX0_append_13 ?_
  refine z_aload_n (pc := 16) hC 0 dX0_append_16 rfl ?_
  refine z_get (pc := 17) (C := RX0) (T := TX0) (N := 5) hC hinX0 0 rfl rfl 4 (by decide) (by decide +kernel) rfl dX0_append_17 ?_
  refine z_iload_n (pc := 20) hC 1 dX0_append_20 rfl ?_
  refine z_iast (pc := 21) hC 1 0 rfl rfl (by omega) (by decide) [(q 1, .inr (1, [.ref (q 2), .ref (q 3), .ref (q 4), .ref (q 5), .int (nI cnt)])), (q 2, .inl (cI, 80, .inl (upd Kd cnt k0))), (q 3, .inl (cI, 80, .inl Aa)), (q 4, .inl (cI, 80, .inl Ab)), (q 5, .inl (cI, 80, .inl Ac))] rfl dX0_append_21 ?_
  refine z_aload_n (pc := 22) hC 0 dX0_append_22 rfl ?_
  refine z_get (pc := 23) (C := RX0) (T := TX0) (N := 5) hC hinX0 0 rfl rfl 1 (by decide) (by decide +kernel) rfl dX0_append_23 ?_
  refine z_aload_n (pc := 26) hC 0 dX0_append_26 rfl ?_
  refine z_get (pc := 27) (C := RX0) (T := TX0) (N := 5) hC hinX0 0 rfl rfl 4 (by decide) (by decide +kernel) rfl dX0_append_27 ?_
  refine z_iload_n (pc := 30) hC 2 dX0_append_30 rfl ?_
  refine z_iast (pc := 31) hC 2 0 rfl rfl (by omega) (by decide) [(q 1, .inr (1, [.ref (q 2), .ref (q 3), .ref (q 4), .ref (q 5), .int (nI cnt)])), (q 2, .inl (cI, 80, .inl (upd Kd cnt k0))), (q 3, .inl (cI, 80, .inl (upd Aa cnt a0))), (q 4, .inl (cI, 80, .inl Ab)), (q 5, .inl (cI, 80, .inl Ac))] rfl dX0_append_31 ?_
  refine z_aload_n (pc := 32) hC 0 dX0_append_32 rfl ?_
  refine z_get (pc := 33) (C := RX0) (T := TX0) (N := 5) hC hinX0 0 rfl rfl 2 (by decide) (by decide +kernel) rfl dX0_append_33 ?_
  refine z_aload_n (pc := 36) hC 0 dX0_append_36 rfl ?_
  refine z_get (pc := 37) (C := RX0) (T := TX0) (N := 5) hC hinX0 0 rfl rfl 4 (by decide) (by decide +kernel) rfl dX0_append_37 ?_
  refine z_iload_n (pc := 40) hC 3 dX0_append_40 rfl ?_
  refine z_iast (pc := 41) hC 3 0 rfl rfl (by omega) (by decide) [(q 1, .inr (1, [.ref (q 2), .ref (q 3), .ref (q 4), .ref (q 5), .int (nI cnt)])), (q 2, .inl (cI, 80, .inl (upd Kd cnt k0))), (q 3, .inl (cI, 80, .inl (upd Aa cnt a0))), (q 4, .inl (cI, 80, .inl (upd Ab cnt b0))), (q 5, .inl (cI, 80, .inl Ac))] rfl dX0_append_41 ?_
  refine z_aload_n (pc := 42) hC 0 dX0_append_42 rfl ?_
  refine z_get (pc := 43) (C := RX0) (T := TX0) (N := 5) hC hinX0 0 rfl rfl 3 (by decide) (by decide +kernel) rfl dX0_append_43 ?_
  refine z_aload_n (pc := 46) hC 0 dX0_append_46 rfl ?_
  refine z_get (pc := 47) (C := RX0) (T := TX0) (N := 5) hC hinX0 0 rfl rfl 4 (by decide) (by decide +kernel) rfl dX0_append_47 ?_
  refine z_iload (pc := 50) hC 4 dX0_append_50 rfl ?_
  refine z_iast (pc := 52) hC 4 0 rfl rfl (by omega) (by decide) [(q 1, .inr (1, [.ref (q 2), .ref (q 3), .ref (q 4), .ref (q 5), .int (nI cnt)])), (q 2, .inl (cI, 80, .inl (upd Kd cnt k0))), (q 3, .inl (cI, 80, .inl (upd Aa cnt a0))), (q 4, .inl (cI, 80, .inl (upd Ab cnt b0))), (q 5, .inl (cI, 80, .inl (upd Ac cnt c0)))] rfl dX0_append_52 ?_
  refine z_aload_n (pc := 53) hC 0 dX0_append_53 rfl ?_
  refine z_dup (pc := 54) hC dX0_append_54 rfl ?_
  refine z_get (pc := 55) (C := RX0) (T := TX0) (N := 5) hC hinX0 0 rfl rfl 4 (by decide) (by decide +kernel) rfl dX0_append_55 ?_
  refine z_iconst (pc := 58) (v := (nI 1)) hC dX0_append_58 (by decide +kernel) ?_
  refine z_iadd (pc := 59) (v := (nI (cnt + 1))) hC dX0_append_59 (nI_add _ _) ?_
  refine z_put (pc := 60) (C := RX0) (T := TX0) (N := 5) hC hinX0 0 rfl rfl 4 (by decide) tyX0 tyX0_ok nmX0 (by decide +kernel) rfl (rfl) (rfl) (Nat.le_of_ble_eq_true rfl) [(q 1, .inr (1, [.ref (q 2), .ref (q 3), .ref (q 4), .ref (q 5), .int (nI (cnt + 1))])), (q 2, .inl (cI, 80, .inl (upd Kd cnt k0))), (q 3, .inl (cI, 80, .inl (upd Aa cnt a0))), (q 4, .inl (cI, 80, .inl (upd Ab cnt b0))), (q 5, .inl (cI, 80, .inl (upd Ac cnt c0)))] rfl dX0_append_60 ?_
  refine z_aload_n (pc := 63) hC 0 dX0_append_63 rfl ?_
  refine z_get (pc := 64) (C := RX0) (T := TX0) (N := 5) hC hinX0 0 rfl rfl 4 (by decide) (by decide +kernel) rfl dX0_append_64 ?_
  refine z_iconst (pc := 67) (v := (nI 1)) hC dX0_append_67 (by decide +kernel) ?_
  refine z_isub (pc := 68) (v := (nI ((cnt + 1) - 1))) hC dX0_append_68 (pk_sub (by omega)) ?_
  exact z_iret (pc := 69) hC hQ hRT (rfl) (by rw [Nat.add_sub_cancel]) (rfl) dX0_append_69

set_option maxRecDepth 100000 in
set_option maxHeartbeats 4000000 in
theorem c_X0_closeGap (l : Launch) (D : va_G) (cI cJ cZ : ClassId) (q : Nat → Nat) (cnt : Nat) (h : Nat) (f : Nat → Int32) (k : Nat) (h1 : k ≤ cnt) (h2 : cnt + 1 ≤ 80) : MV l yX0_closeGap wsX0_closeGap { frames := 1, cells := 0, slots := 0, locals := 60 } D (tyL cI cJ cZ) [.ref (q 1), .ref h, .int (nI k)] [(q 1, .inr (1, [.ref (q 2), .ref (q 3), .ref (q 4), .ref (q 5), .int (nI cnt)])), (h, .inl (cI, 80, .inl f))] [(q 1, .inr (1, [.ref (q 2), .ref (q 3), .ref (q 4), .ref (q 5), .int (nI cnt)])), (h, .inl (cI, 80, .inl (va_cpy f f (k + 1) k (cnt - k))))] := by
  refine metV_of (cc := cX0_closeGap) (maxL := 3) (ret := none) (by decide +kernel) rfl (Nat.le_of_ble_eq_true rfl) ?_
  intro K hC hRm hNL hDis hLis hRT hIni hQ
  have hinX0 : ∀ w ∈ wsX00, w ∈ wsX0_closeGap := by decide +kernel
  refine z_aload_n (pc := 0) hC 1 dX0_closeGap_0 rfl ?_
  refine z_iload_n (pc := 1) hC 2 dX0_closeGap_1 rfl ?_
  refine z_iconst (pc := 2) (v := (nI 1)) hC dX0_closeGap_2 (by decide +kernel) ?_
  refine z_iadd (pc := 3) (v := (nI (k + 1))) hC dX0_closeGap_3 (nI_add _ _) ?_
  refine z_aload_n (pc := 4) hC 1 dX0_closeGap_4 rfl ?_
  refine z_iload_n (pc := 5) hC 2 dX0_closeGap_5 rfl ?_
  refine z_aload_n (pc := 6) hC 0 dX0_closeGap_6 rfl ?_
  refine z_get (pc := 7) (C := RX0) (T := TX0) (N := 5) hC hinX0 0 rfl rfl 4 (by decide) (by decide +kernel) rfl dX0_closeGap_7 ?_
  refine z_iload_n (pc := 10) hC 2 dX0_closeGap_10 rfl ?_
  refine z_isub (pc := 11) (v := (nI (cnt - k))) hC dX0_closeGap_11 (pk_sub (by omega)) ?_
  refine z_copyi (pc := 12) hC hRm (by decide +kernel) (by decide +kernel) (by decide +kernel) (by decide +kernel) 1 1 0 0 rfl rfl rfl rfl (by omega) (by omega) (by decide) (by decide) (by decide) (by decide +kernel) [(q 1, .inr (1, [.ref (q 2), .ref (q 3), .ref (q 4), .ref (q 5), .int (nI cnt)])), (h, .inl (cI, 80, .inl (va_cpy f f (k + 1) k (cnt - k))))] rfl dX0_closeGap_12 ?_
  exact z_vret (pc := 15) hC hQ hRT (rfl) dX0_closeGap_15

set_option maxRecDepth 100000 in
set_option maxHeartbeats 4000000 in
theorem c_X0_remove (l : Launch) (D : va_G) (cI cJ cZ : ClassId) (q : Nat → Nat) (Kd : Nat → Int32) (Aa : Nat → Int32) (Ab : Nat → Int32) (Ac : Nat → Int32) (cnt : Nat) (k : Nat) (hk : k < cnt) (hc : cnt ≤ 80) : MI l yX0_remove wsX0_remove { frames := 2, cells := 0, slots := 0, locals := 82 } D (tyL cI cJ cZ) [.ref (q 1), .int (nI k)] [(q 1, .inr (1, [.ref (q 2), .ref (q 3), .ref (q 4), .ref (q 5), .int (nI cnt)])), (q 2, .inl (cI, 80, .inl Kd)), (q 3, .inl (cI, 80, .inl Aa)), (q 4, .inl (cI, 80, .inl Ab)), (q 5, .inl (cI, 80, .inl Ac))] [(q 1, .inr (1, [.ref (q 2), .ref (q 3), .ref (q 4), .ref (q 5), .int (nI (cnt - 1))])), (q 2, .inl (cI, 80, .inl (va_cpy Kd Kd (k + 1) k (cnt - 1 - k)))), (q 3, .inl (cI, 80, .inl (va_cpy Aa Aa (k + 1) k (cnt - 1 - k)))), (q 4, .inl (cI, 80, .inl (va_cpy Ab Ab (k + 1) k (cnt - 1 - k)))), (q 5, .inl (cI, 80, .inl (va_cpy Ac Ac (k + 1) k (cnt - 1 - k))))] (nI (cnt - 1)) := by
  refine metI_of (cc := cX0_remove) (maxL := 2) (ret := (some .int)) (by decide +kernel) rfl (Nat.le_of_ble_eq_true rfl) ?_
  intro K hC hRm hNL hDis hLis hRT hIni hQ
  have hinX0 : ∀ w ∈ wsX00, w ∈ wsX0_remove := by decide +kernel
  refine z_iload_n (pc := 0) hC 1 dX0_remove_0 rfl ?_
  refine z_nif_lt (pc := 1) (tgt := 12) hC dX0_remove_1 (by decide) (by omega) (fun h1 => absurd h1 (by exact id)) (fun h1 => ?_)
  refine z_iload_n (pc := 4) hC 1 dX0_remove_4 rfl ?_
  refine z_aload_n (pc := 5) hC 0 dX0_remove_5 rfl ?_
  refine z_get (pc := 6) (C := RX0) (T := TX0) (N := 5) hC hinX0 0 rfl rfl 4 (by decide) (by decide +kernel) rfl dX0_remove_6 ?_
  refine z_ncmp_lt (pc := 9) (tgt := 14) hC dX0_remove_9 (by decide) (by omega) (by omega) (fun h9 => ?_) (fun h9 => absurd h9 (by omega))
  refine z_aload_n (pc := 14) hC 0 dX0_remove_14 rfl ?_
  refine z_dup (pc := 15) hC dX0_remove_15 rfl ?_
  refine z_get (pc := 16) (C := RX0) (T := TX0) (N := 5) hC hinX0 0 rfl rfl 4 (by decide) (by decide +kernel) rfl dX0_remove_16 ?_
  refine z_iconst (pc := 19) (v := (nI 1)) hC dX0_remove_19 (by decide +kernel) ?_
  refine z_isub (pc := 20) (v := (nI (cnt - 1))) hC dX0_remove_20 (pk_sub (by omega)) ?_
  refine z_put (pc := 21) (C := RX0) (T := TX0) (N := 5) hC hinX0 0 rfl rfl 4 (by decide) tyX0 tyX0_ok nmX0 (by decide +kernel) rfl (rfl) (rfl) (Nat.le_of_ble_eq_true rfl) [(q 1, .inr (1, [.ref (q 2), .ref (q 3), .ref (q 4), .ref (q 5), .int (nI (cnt - 1))])), (q 2, .inl (cI, 80, .inl Kd)), (q 3, .inl (cI, 80, .inl Aa)), (q 4, .inl (cI, 80, .inl Ab)), (q 5, .inl (cI, 80, .inl Ac))] rfl dX0_remove_21 ?_
  refine z_aload_n (pc := 24) hC 0 dX0_remove_24 rfl ?_
  refine z_aload_n (pc := 25) hC 0 dX0_remove_25 rfl ?_
  refine z_get (pc := 26) (C := RX0) (T := TX0) (N := 5) hC hinX0 0 rfl rfl 0 (by decide) (by decide +kernel) rfl dX0_remove_26 ?_
  refine z_iload_n (pc := 29) hC 1 dX0_remove_29 rfl ?_
  refine z_callV_V (pc := 30) (y := yX0_closeGap) (wy := wsX0_closeGap) (rm := { frames := 1, cells := 0, slots := 0, locals := 60 }) (As := [.ref (q 2), .int (nI k)]) (rest := []) (na := 2) (C := RX0) (T := TX0) (NF := 5) (ci := 1) (wc := [(q 1, .inr (1, [.ref (q 2), .ref (q 3), .ref (q 4), .ref (q 5), .int (nI (cnt - 1))])), (q 2, .inl (cI, 80, .inl Kd))]) (wc2 := [(q 1, .inr (1, [.ref (q 2), .ref (q 3), .ref (q 4), .ref (q 5), .int (nI ((cnt - 1)))])), (q 2, .inl (cI, 80, .inl (va_cpy Kd Kd (k + 1) k ((cnt - 1) - k))))]) hC hRm hDis hLis 0 rfl rfl gX0_remove_X0_closeGap ⟨rfl, by decide +kernel, by decide +kernel⟩ rfl ⟨by decide, by decide⟩ ⟨by decide, by decide⟩ rfl (Nat.le_of_ble_eq_true rfl) (by decide +kernel) (c_X0_closeGap _ _ cI cJ cZ (q) (cnt - 1) (q 2) (Kd) (k) (by omega) (by omega)) [0, 1] [2, 3, 4] [3, 4, 0, 1, 2] [(q 3, .inl (cI, 80, .inl Aa)), (q 4, .inl (cI, 80, .inl Ab)), (q 5, .inl (cI, 80, .inl Ac))] rfl (by decide) rfl (by decide) (by decide) [(q 1, .inr (1, [.ref (q 2), .ref (q 3), .ref (q 4), .ref (q 5), .int (nI ((cnt - 1)))])), (q 2, .inl (cI, 80, .inl (va_cpy Kd Kd (k + 1) k ((cnt - 1) - k)))), (q 3, .inl (cI, 80, .inl Aa)), (q 4, .inl (cI, 80, .inl Ab)), (q 5, .inl (cI, 80, .inl Ac))] rfl (by decide) rfl dX0_remove_30 ?_
  refine z_aload_n (pc := 33) hC 0 dX0_remove_33 rfl ?_
  refine z_aload_n (pc := 34) hC 0 dX0_remove_34 rfl ?_
  refine z_get (pc := 35) (C := RX0) (T := TX0) (N := 5) hC hinX0 0 rfl rfl 1 (by decide) (by decide +kernel) rfl dX0_remove_35 ?_
  refine z_iload_n (pc := 38) hC 1 dX0_remove_38 rfl ?_
  refine z_callV_V (pc := 39) (y := yX0_closeGap) (wy := wsX0_closeGap) (rm := { frames := 1, cells := 0, slots := 0, locals := 60 }) (As := [.ref (q 3), .int (nI k)]) (rest := []) (na := 2) (C := RX0) (T := TX0) (NF := 5) (ci := 1) (wc := [(q 1, .inr (1, [.ref (q 2), .ref (q 3), .ref (q 4), .ref (q 5), .int (nI ((cnt - 1)))])), (q 3, .inl (cI, 80, .inl Aa))]) (wc2 := [(q 1, .inr (1, [.ref (q 2), .ref (q 3), .ref (q 4), .ref (q 5), .int (nI ((cnt - 1)))])), (q 3, .inl (cI, 80, .inl (va_cpy Aa Aa (k + 1) k ((cnt - 1) - k))))]) hC hRm hDis hLis 0 rfl rfl gX0_remove_X0_closeGap ⟨rfl, by decide +kernel, by decide +kernel⟩ rfl ⟨by decide, by decide⟩ ⟨by decide, by decide⟩ rfl (Nat.le_of_ble_eq_true rfl) (by decide +kernel) (c_X0_closeGap _ _ cI cJ cZ (q) (cnt - 1) (q 3) (Aa) (k) (by omega) (by omega)) [0, 2] [1, 3, 4] [3, 0, 4, 1, 2] [(q 2, .inl (cI, 80, .inl (va_cpy Kd Kd (k + 1) k ((cnt - 1) - k)))), (q 4, .inl (cI, 80, .inl Ab)), (q 5, .inl (cI, 80, .inl Ac))] rfl (by decide) rfl (by decide) (by decide) [(q 1, .inr (1, [.ref (q 2), .ref (q 3), .ref (q 4), .ref (q 5), .int (nI ((cnt - 1)))])), (q 2, .inl (cI, 80, .inl (va_cpy Kd Kd (k + 1) k ((cnt - 1) - k)))), (q 3, .inl (cI, 80, .inl (va_cpy Aa Aa (k + 1) k ((cnt - 1) - k)))), (q 4, .inl (cI, 80, .inl Ab)), (q 5, .inl (cI, 80, .inl Ac))] rfl (by decide) rfl dX0_remove_39 ?_
  refine z_aload_n (pc := 42) hC 0 dX0_remove_42 rfl ?_
  refine z_aload_n (pc := 43) hC 0 dX0_remove_43 rfl ?_
  refine z_get (pc := 44) (C := RX0) (T := TX0) (N := 5) hC hinX0 0 rfl rfl 2 (by decide) (by decide +kernel) rfl dX0_remove_44 ?_
  refine z_iload_n (pc := 47) hC 1 dX0_remove_47 rfl ?_
  refine z_callV_V (pc := 48) (y := yX0_closeGap) (wy := wsX0_closeGap) (rm := { frames := 1, cells := 0, slots := 0, locals := 60 }) (As := [.ref (q 4), .int (nI k)]) (rest := []) (na := 2) (C := RX0) (T := TX0) (NF := 5) (ci := 1) (wc := [(q 1, .inr (1, [.ref (q 2), .ref (q 3), .ref (q 4), .ref (q 5), .int (nI ((cnt - 1)))])), (q 4, .inl (cI, 80, .inl Ab))]) (wc2 := [(q 1, .inr (1, [.ref (q 2), .ref (q 3), .ref (q 4), .ref (q 5), .int (nI ((cnt - 1)))])), (q 4, .inl (cI, 80, .inl (va_cpy Ab Ab (k + 1) k ((cnt - 1) - k))))]) hC hRm hDis hLis 0 rfl rfl gX0_remove_X0_closeGap ⟨rfl, by decide +kernel, by decide +kernel⟩ rfl ⟨by decide, by decide⟩ ⟨by decide, by decide⟩ rfl (Nat.le_of_ble_eq_true rfl) (by decide +kernel) (c_X0_closeGap _ _ cI cJ cZ (q) (cnt - 1) (q 4) (Ab) (k) (by omega) (by omega)) [0, 3] [1, 2, 4] [3, 0, 1, 4, 2] [(q 2, .inl (cI, 80, .inl (va_cpy Kd Kd (k + 1) k ((cnt - 1) - k)))), (q 3, .inl (cI, 80, .inl (va_cpy Aa Aa (k + 1) k ((cnt - 1) - k)))), (q 5, .inl (cI, 80, .inl Ac))] rfl (by decide) rfl (by decide) (by decide) [(q 1, .inr (1, [.ref (q 2), .ref (q 3), .ref (q 4), .ref (q 5), .int (nI ((cnt - 1)))])), (q 2, .inl (cI, 80, .inl (va_cpy Kd Kd (k + 1) k ((cnt - 1) - k)))), (q 3, .inl (cI, 80, .inl (va_cpy Aa Aa (k + 1) k ((cnt - 1) - k)))), (q 4, .inl (cI, 80, .inl (va_cpy Ab Ab (k + 1) k ((cnt - 1) - k)))), (q 5, .inl (cI, 80, .inl Ac))] rfl (by decide) rfl dX0_remove_48 ?_
  refine z_aload_n (pc := 51) hC 0 dX0_remove_51 rfl ?_
  refine z_aload_n (pc := 52) hC 0 dX0_remove_52 rfl ?_
  refine z_get (pc := 53) (C := RX0) (T := TX0) (N := 5) hC hinX0 0 rfl rfl 3 (by decide) (by decide +kernel) rfl dX0_remove_53 ?_
  refine z_iload_n (pc := 56) hC 1 dX0_remove_56 rfl ?_
  refine z_callV_V (pc := 57) (y := yX0_closeGap) (wy := wsX0_closeGap) (rm := { frames := 1, cells := 0, slots := 0, locals := 60 }) (As := [.ref (q 5), .int (nI k)]) (rest := []) (na := 2) (C := RX0) (T := TX0) (NF := 5) (ci := 1) (wc := [(q 1, .inr (1, [.ref (q 2), .ref (q 3), .ref (q 4), .ref (q 5), .int (nI ((cnt - 1)))])), (q 5, .inl (cI, 80, .inl Ac))]) (wc2 := [(q 1, .inr (1, [.ref (q 2), .ref (q 3), .ref (q 4), .ref (q 5), .int (nI ((cnt - 1)))])), (q 5, .inl (cI, 80, .inl (va_cpy Ac Ac (k + 1) k ((cnt - 1) - k))))]) hC hRm hDis hLis 0 rfl rfl gX0_remove_X0_closeGap ⟨rfl, by decide +kernel, by decide +kernel⟩ rfl ⟨by decide, by decide⟩ ⟨by decide, by decide⟩ rfl (Nat.le_of_ble_eq_true rfl) (by decide +kernel) (c_X0_closeGap _ _ cI cJ cZ (q) (cnt - 1) (q 5) (Ac) (k) (by omega) (by omega)) [0, 4] [1, 2, 3] [3, 0, 1, 2, 4] [(q 2, .inl (cI, 80, .inl (va_cpy Kd Kd (k + 1) k ((cnt - 1) - k)))), (q 3, .inl (cI, 80, .inl (va_cpy Aa Aa (k + 1) k ((cnt - 1) - k)))), (q 4, .inl (cI, 80, .inl (va_cpy Ab Ab (k + 1) k ((cnt - 1) - k))))] rfl (by decide) rfl (by decide) (by decide) [(q 1, .inr (1, [.ref (q 2), .ref (q 3), .ref (q 4), .ref (q 5), .int (nI ((cnt - 1)))])), (q 2, .inl (cI, 80, .inl (va_cpy Kd Kd (k + 1) k ((cnt - 1) - k)))), (q 3, .inl (cI, 80, .inl (va_cpy Aa Aa (k + 1) k ((cnt - 1) - k)))), (q 4, .inl (cI, 80, .inl (va_cpy Ab Ab (k + 1) k ((cnt - 1) - k)))), (q 5, .inl (cI, 80, .inl (va_cpy Ac Ac (k + 1) k ((cnt - 1) - k))))] rfl (by decide) rfl dX0_remove_57 ?_
  refine z_aload_n (pc := 60) hC 0 dX0_remove_60 rfl ?_
  refine z_get (pc := 61) (C := RX0) (T := TX0) (N := 5) hC hinX0 0 rfl rfl 4 (by decide) (by decide +kernel) rfl dX0_remove_61 ?_
  exact z_iret (pc := 64) hC hQ hRT (rfl) (rfl) (rfl) dX0_remove_64

/-! ElCompletion$Proof: need, isNeeded, take -/
def ndS (j : Nat) : Int64 := (nI j &&& nI 63).toInt64 &&& 63
def ndF (Nd : Nat → Int64) (j : Nat) : Nat → Int64 := vp_updL Nd (j / 2 ^ 6) (Nd (j / 2 ^ 6) ||| (1 <<< ndS j))
def needF (Nd : Nat → Int64) (c : Int32) : Nat → Int64 := if c < 0 ∨ nI 4032 ≤ c then Nd else ndF Nd (tn c)
def isN (Nd : Nat → Int64) (j : Nat) : Bool := decide (¬ (Nd (j / 2 ^ 6) >>> ndS j) &&& 1 = 0)
theorem needF_n {Nd : Nat → Int64} {c : Int32} (h : c < 0) : needF Nd c = Nd := if_pos (Or.inl h)
theorem needF_g {Nd : Nat → Int64} {c : Int32} (h : nI 4032 ≤ c) : needF Nd c = Nd := if_pos (Or.inr h)
theorem needF_nI {Nd : Nat → Int64} {j : Nat} (h : j < 4032) : needF Nd (nI j) = ndF Nd j := by
  unfold needF
  rw [if_neg (fun q => q.elim (nI_pos (by omega)) (nI_ge h (by decide))), tn_nI (by omega)]
def tkS (G : Nat → Int64) (j : Nat) (Nd : Nat → Int64) : Nat → Int64 := if isN Nd j = true then needF (needF Nd (fiO (G j))) (seO (G j)) else Nd
def tkN (G : Nat → Int64) (O : Nat → Int32) : Nat → (Nat → Int64) → (Nat → Int64)
  | 0, Nd => Nd
  | m + 1, Nd => tkN G O m (tkS G (tn (O m)) Nd)
abbrev RS : Type := (Nat → Int32) × Nat
def tkR (Nd : Nat → Int64) (O : Nat → Int32) (x : RS) : Nat → RS
  | 0 => x
  | i + 1 => if isN Nd (tn (O i)) = true then (upd (tkR Nd O x i).1 (tkR Nd O x i).2 (O i), (tkR Nd O x i).2 + 1) else tkR Nd O x i
theorem tkR_t {Nd : Nat → Int64} {O : Nat → Int32} {x : RS} {i : Nat} (h : isN Nd (tn (O i)) = true) : tkR Nd O x (i + 1) = (upd (tkR Nd O x i).1 (tkR Nd O x i).2 (O i), (tkR Nd O x i).2 + 1) := if_pos h
theorem tkR_f {Nd : Nat → Int64} {O : Nat → Int32} {x : RS} {i : Nat} (h : isN Nd (tn (O i)) = false) : tkR Nd O x (i + 1) = tkR Nd O x i := if_neg (by rw [h]; decide)
def takeN (G : Nat → Int64) (O : Nat → Int32) (fc : Nat) (c : Int32) (Nd : Nat → Int64) : Nat → Int64 := if flw G c = true then tkN G O fc (needF (fun _ => 0) c) else Nd
def takeR (G : Nat → Int64) (O : Nat → Int32) (fc : Nat) (c : Int32) (Rw : Nat → Int32) : RS := if flw G c = true then tkR (tkN G O fc (needF (fun _ => 0) c)) O (Rw, 0) fc else (Rw, 0)
def decI (m : Nat) : Int32 := nI m - nI 1
theorem decI_0 : decI 0 < 0 := by decide +kernel
theorem decI_s (m : Nat) : decI (m + 1) = nI m := nI_pred m
theorem decI_i (m : Nat) : nI m + Int32.ofInt (-1) = decI m := by
  unfold decI
  rw [Int32.sub_eq_add_neg]
  rfl

set_option maxRecDepth 100000 in
set_option maxHeartbeats 4000000 in
theorem c_X2_need (l : Launch) (D : va_G) (cI cJ cZ : ClassId) (q : Nat → Nat) (Nd : Nat → Int64) (ct : Int32) (p0 : Int32) : MV l yX2_need wsX2_need { frames := 0, cells := 0, slots := 0, locals := 0 } D (tyL cI cJ cZ) [.ref (q 11), .int p0] [(q 11, .inr (3, [.ref (q 12), .ref (q 13), .int ct])), (q 13, .inl (cJ, 63, .inr (.inl Nd)))] [(q 11, .inr (3, [.ref (q 12), .ref (q 13), .int ct])), (q 13, .inl (cJ, 63, .inr (.inl (needF Nd p0))))] := by
  refine metV_of (cc := cX2_need) (maxL := 2) (ret := none) (by decide +kernel) rfl (Nat.le_of_ble_eq_true rfl) ?_
  intro K hC hRm hNL hDis hLis hRT hIni hQ
  have hinX2 : ∀ w ∈ wsX20, w ∈ wsX2_need := by decide +kernel
  refine z_iload_n (pc := 0) hC 1 dX2_need_0 rfl ?_
  refine z_if_lt (pc := 1) (tgt := 29) hC dX2_need_1 (by decide) (fun h1 => ?_) (fun h1 => ?_)
  · exact z_vret (pc := 29) hC hQ hRT (by first | rw [needF_n h1] | rw [needF_g h8] | rw [needF_nI hj]; rfl) dX2_need_29
  · refine z_iload_n (pc := 4) hC 1 dX2_need_4 rfl ?_
    refine z_sipush (pc := 5) (v := (nI 4032)) hC dX2_need_5 (by decide +kernel) ?_
    refine z_icmp_ge (pc := 8) (tgt := 29) hC dX2_need_8 (by decide) (fun h8 => ?_) (fun h8 => ?_)
    · exact z_vret (pc := 29) hC hQ hRT (by first | rw [needF_n h1] | rw [needF_g h8] | rw [needF_nI hj]; rfl) dX2_need_29
    · obtain ⟨j, hj, ej⟩ := nI_not_neg (by decide) h1 h8
      subst ej
      refine z_aload_n (pc := 11) hC 0 dX2_need_11 rfl ?_
      refine z_get (pc := 12) (C := RX2) (T := TX2) (N := 3) hC hinX2 0 rfl rfl 1 (by decide) (by decide +kernel) rfl dX2_need_12 ?_
      refine z_iload_n (pc := 15) hC 1 dX2_need_15 rfl ?_
      refine z_bipush (pc := 16) (v := (nI 6)) hC dX2_need_16 (by decide +kernel) ?_
      refine z_ishr (pc := 18) (v := (nI (j / 2 ^ 6))) hC dX2_need_18 (pk_shrN (by omega) _ 6 (by decide +kernel)) ?_
      refine z_dup2 (pc := 19) hC dX2_need_19 rfl rfl ?_
      refine z_lald (pc := 20) (v := (Nd (j / 2 ^ 6))) hC 1 1 rfl rfl (by omega) (by decide) (rfl) dX2_need_20 ?_
      refine z_lconst (pc := 21) (v := 1) hC dX2_need_21 (by decide +kernel) ?_
      refine z_iload_n (pc := 22) hC 1 dX2_need_22 rfl ?_
      refine z_bipush (pc := 23) (v := (nI 63)) hC dX2_need_23 (by decide +kernel) ?_
      refine z_iand (pc := 25) (v := ((nI j) &&& (nI 63))) hC dX2_need_25 (rfl) ?_
      refine z_lshl (pc := 26) (v := (1 <<< (((nI j) &&& (nI 63)).toInt64 &&& 63))) hC dX2_need_26 rfl ?_
      refine z_lor (pc := 27) (v := ((Nd (j / 2 ^ 6)) ||| (1 <<< (((nI j) &&& (nI 63)).toInt64 &&& 63)))) hC dX2_need_27 rfl ?_
      refine z_last (pc := 28) hC 1 1 rfl rfl (by omega) (by decide) [(q 11, .inr (3, [.ref (q 12), .ref (q 13), .int ct])), (q 13, .inl (cJ, 63, .inr (.inl (vp_updL Nd (j / 2 ^ 6) ((Nd (j / 2 ^ 6)) ||| (1 <<< (((nI j) &&& (nI 63)).toInt64 &&& 63)))))))] rfl dX2_need_28 ?_
      exact z_vret (pc := 29) hC hQ hRT (by first | rw [needF_n h1] | rw [needF_g h8] | rw [needF_nI hj]; rfl) dX2_need_29

set_option maxRecDepth 100000 in
set_option maxHeartbeats 4000000 in
theorem c_X2_isNeeded (l : Launch) (D : va_G) (cI cJ cZ : ClassId) (q : Nat → Nat) (Nd : Nat → Int64) (ct : Int32) (j : Nat) (hj : j < 4032) : MI l yX2_isNeeded wsX2_isNeeded { frames := 0, cells := 0, slots := 0, locals := 0 } D (tyL cI cJ cZ) [.ref (q 11), .int (nI j)] [(q 11, .inr (3, [.ref (q 12), .ref (q 13), .int ct])), (q 13, .inl (cJ, 63, .inr (.inl Nd)))] [(q 11, .inr (3, [.ref (q 12), .ref (q 13), .int ct])), (q 13, .inl (cJ, 63, .inr (.inl Nd)))] (bI (isN Nd j)) := by
  refine metI_of (cc := cX2_isNeeded) (maxL := 2) (ret := (some .boolean)) (by decide +kernel) rfl (Nat.le_of_ble_eq_true rfl) ?_
  intro K hC hRm hNL hDis hLis hRT hIni hQ
  have hinX2 : ∀ w ∈ wsX20, w ∈ wsX2_isNeeded := by decide +kernel
  refine z_aload_n (pc := 0) hC 0 dX2_isNeeded_0 rfl ?_
  refine z_get (pc := 1) (C := RX2) (T := TX2) (N := 3) hC hinX2 0 rfl rfl 1 (by decide) (by decide +kernel) rfl dX2_isNeeded_1 ?_
  refine z_iload_n (pc := 4) hC 1 dX2_isNeeded_4 rfl ?_
  refine z_bipush (pc := 5) (v := (nI 6)) hC dX2_isNeeded_5 (by decide +kernel) ?_
  refine z_ishr (pc := 7) (v := (nI (j / 2 ^ 6))) hC dX2_isNeeded_7 (pk_shrN (by omega) _ 6 (by decide +kernel)) ?_
  refine z_lald (pc := 8) (v := (Nd (j / 2 ^ 6))) hC 1 1 rfl rfl (by omega) (by decide) (rfl) dX2_isNeeded_8 ?_
  refine z_iload_n (pc := 9) hC 1 dX2_isNeeded_9 rfl ?_
  refine z_bipush (pc := 10) (v := (nI 63)) hC dX2_isNeeded_10 (by decide +kernel) ?_
  refine z_iand (pc := 12) (v := ((nI j) &&& (nI 63))) hC dX2_isNeeded_12 (rfl) ?_
  refine z_lshr (pc := 13) (v := ((Nd (j / 2 ^ 6)) >>> (((nI j) &&& (nI 63)).toInt64 &&& 63))) hC dX2_isNeeded_13 rfl ?_
  refine z_lconst (pc := 14) (v := 1) hC dX2_isNeeded_14 (by decide +kernel) ?_
  refine z_land (pc := 15) (v := (((Nd (j / 2 ^ 6)) >>> (((nI j) &&& (nI 63)).toInt64 &&& 63)) &&& 1)) hC dX2_isNeeded_15 rfl ?_
  refine z_lconst (pc := 16) (v := 0) hC dX2_isNeeded_16 (by decide +kernel) ?_
  refine z_lcmp (pc := 17) (v := (lg_cmp (((Nd (j / 2 ^ 6)) >>> (((nI j) &&& (nI 63)).toInt64 &&& 63)) &&& 1) 0)) hC dX2_isNeeded_17 (rfl) ?_
  refine z_if_eq (pc := 18) (tgt := 25) hC dX2_isNeeded_18 (by decide) (fun h18 => ?_) (fun h18 => ?_)
  · refine z_iconst (pc := 25) (v := (nI 0)) hC dX2_isNeeded_25 (by decide +kernel) ?_
    exact z_iret (pc := 26) hC hQ hRT (by decide +kernel) (by first | exact bI_t (decide_eq_true (fun h => h18 (lg_eq0.mpr h))) | exact bI_f (decide_eq_false (fun h => h (lg_eq0.mp h18)))) (rfl) dX2_isNeeded_26
  · refine z_iconst (pc := 21) (v := (nI 1)) hC dX2_isNeeded_21 (by decide +kernel) ?_
    refine z_goto (pc := 22) (tgt := 26) hC dX2_isNeeded_22 (by decide) ?_
    exact z_iret (pc := 26) hC hQ hRT (by decide +kernel) (by first | exact bI_t (decide_eq_true (fun h => h18 (lg_eq0.mpr h))) | exact bI_f (decide_eq_false (fun h => h (lg_eq0.mp h18)))) (rfl) dX2_isNeeded_26

theorem tkS_t {G : Nat → Int64} {j : Nat} {Nd : Nat → Int64} (h : isN Nd j = true) : tkS G j Nd = needF (needF Nd (fiO (G j))) (seO (G j)) := if_pos h
theorem tkS_f {G : Nat → Int64} {j : Nat} {Nd : Nat → Int64} (h : isN Nd j = false) : tkS G j Nd = Nd := if_neg (by rw [h]; decide)
theorem tkN_s {G : Nat → Int64} {O : Nat → Int32} {m : Nat} {Nd : Nat → Int64} : tkN G O (m + 1) Nd = tkN G O m (tkS G (tn (O m)) Nd) := rfl
theorem takeN_f {G : Nat → Int64} {O : Nat → Int32} {fc : Nat} {c : Int32} {Nd : Nat → Int64} (h : flw G c = false) : takeN G O fc c Nd = Nd := if_neg (by rw [h]; decide)
theorem takeN_t {G : Nat → Int64} {O : Nat → Int32} {fc : Nat} {c : Int32} {Nd : Nat → Int64} (h : flw G c = true) : takeN G O fc c Nd = tkN G O fc (needF (fun _ => 0) c) := if_pos h
theorem takeR_f {G : Nat → Int64} {O : Nat → Int32} {fc : Nat} {c : Int32} {Rw : Nat → Int32} (h : flw G c = false) : takeR G O fc c Rw = (Rw, 0) := if_neg (by rw [h]; decide)
theorem takeR_t {G : Nat → Int64} {O : Nat → Int32} {fc : Nat} {c : Int32} {Rw : Nat → Int32} (h : flw G c = true) : takeR G O fc c Rw = tkR (tkN G O fc (needF (fun _ => 0) c)) O (Rw, 0) fc := if_pos h

set_option maxRecDepth 100000 in
set_option maxHeartbeats 4000000 in
theorem c_X2_take (l : Launch) (D : va_G) (cI cJ cZ : ClassId) (q : Nat → Nat) (G : Nat → Int64) (O : Nat → Int32) (c0 : Int32) (fc : Nat) (rc : Int32) (ga : Int32) (Nd : Nat → Int64) (Rw : Nat → Int32) (ct : Int32) (p0 : Int32) (hf1 : 1 ≤ fc) (hf2 : fc ≤ 4032) (hO : ∀ i, i < fc → clV 4032 (O i)) : MV l yX2_take wsX2_take { frames := 1, cells := 0, slots := 0, locals := 24 } D (tyL cI cJ cZ) [.ref (q 11), .ref (q 6), .int p0] [(q 11, .inr (3, [.ref (q 12), .ref (q 13), .int ct])), (q 12, .inl (cI, 4032, .inl Rw)), (q 13, .inl (cJ, 63, .inr (.inl Nd))), (q 6, .inr (2, [.ref (q 7), .ref (q 8), .ref (q 9), .ref (q 10), .int c0, .int (nI fc), .int rc, .int ga])), (q 9, .inl (cJ, 4032, .inr (.inl G))), (q 10, .inl (cI, 4032, .inl O))] [(q 11, .inr (3, [.ref (q 12), .ref (q 13), .int (nI ((takeR G O fc p0 Rw).2))])), (q 12, .inl (cI, 4032, .inl ((takeR G O fc p0 Rw).1))), (q 13, .inl (cJ, 63, .inr (.inl (takeN G O fc p0 Nd)))), (q 6, .inr (2, [.ref (q 7), .ref (q 8), .ref (q 9), .ref (q 10), .int c0, .int (nI fc), .int rc, .int ga])), (q 9, .inl (cJ, 4032, .inr (.inl G))), (q 10, .inl (cI, 4032, .inl O))] := by
  refine metV_of (cc := cX2_take) (maxL := 4) (ret := none) (by decide +kernel) rfl (Nat.le_of_ble_eq_true rfl) ?_
  intro K hC hRm hNL hDis hLis hRT hIni hQ
  have hinX1 : ∀ w ∈ wsX10, w ∈ wsX2_take := by decide +kernel
  have hinX2 : ∀ w ∈ wsX20, w ∈ wsX2_take := by decide +kernel
  refine z_aload_n (pc := 0) hC 0 dX2_take_0 rfl ?_
  refine z_iconst (pc := 1) (v := (nI 0)) hC dX2_take_1 (by decide +kernel) ?_
  refine z_put (pc := 2) (C := RX2) (T := TX2) (N := 3) hC hinX2 0 rfl rfl 2 (by decide) tyX2 tyX2_ok nmX2 (by decide +kernel) rfl (rfl) (rfl) (Nat.le_of_ble_eq_true rfl) [(q 11, .inr (3, [.ref (q 12), .ref (q 13), .int (nI 0)])), (q 12, .inl (cI, 4032, .inl Rw)), (q 13, .inl (cJ, 63, .inr (.inl Nd))), (q 6, .inr (2, [.ref (q 7), .ref (q 8), .ref (q 9), .ref (q 10), .int c0, .int (nI fc), .int rc, .int ga])), (q 9, .inl (cJ, 4032, .inr (.inl G))), (q 10, .inl (cI, 4032, .inl O))] rfl dX2_take_2 ?_
  refine z_aload_n (pc := 5) hC 1 dX2_take_5 rfl ?_
  refine z_iload_n (pc := 6) hC 2 dX2_take_6 rfl ?_
  refine z_callVN_I (pc := 7) (y := yX1_follows) (wy := wsX1_follows) (rm := { frames := 0, cells := 0, slots := 0, locals := 0 }) (As := [.int p0]) (rest := []) (na := 1) (C := RX1) (T := TX1) (NF := 8) (ci := 2) (wc := [(q 6, .inr (2, [.ref (q 7), .ref (q 8), .ref (q 9), .ref (q 10), .int c0, .int (nI fc), .int rc, .int ga])), (q 9, .inl (cJ, 4032, .inr (.inl G)))]) (wc2 := [(q 6, .inr (2, [.ref (q 7), .ref (q 8), .ref (q 9), .ref (q 10), .int c0, .int (nI fc), .int rc, .int ga])), (q 9, .inl (cJ, 4032, .inr (.inl G)))]) hC hRm hDis hLis 0 rfl rfl gX2_take_X1_follows_n23 (by decide +kernel) (by decide +kernel) (by decide +kernel) (by decide +kernel) ⟨by decide +kernel, by decide +kernel⟩ rfl ⟨by decide, by decide⟩ ⟨by decide, by decide⟩ rfl (Nat.le_of_ble_eq_true rfl) (by decide +kernel) (c_X1_follows _ _ cI cJ cZ (q) (G) (c0) (nI fc) (rc) (ga) (p0) ) [3, 4] [0, 1, 2, 5] [0, 1, 2, 4, 5, 3] [(q 11, .inr (3, [.ref (q 12), .ref (q 13), .int (nI 0)])), (q 12, .inl (cI, 4032, .inl Rw)), (q 13, .inl (cJ, 63, .inr (.inl Nd))), (q 10, .inl (cI, 4032, .inl O))] rfl (by decide) rfl (by decide) (by decide) [(q 11, .inr (3, [.ref (q 12), .ref (q 13), .int (nI 0)])), (q 12, .inl (cI, 4032, .inl Rw)), (q 13, .inl (cJ, 63, .inr (.inl Nd))), (q 6, .inr (2, [.ref (q 7), .ref (q 8), .ref (q 9), .ref (q 10), .int c0, .int (nI fc), .int rc, .int ga])), (q 9, .inl (cJ, 4032, .inr (.inl G))), (q 10, .inl (cI, 4032, .inl O))] rfl (by decide) rfl dX2_take_7 ?_
  refine z_bif_ne (pc := 10) (tgt := 14) hC dX2_take_10 (by decide) (fun h10 => ?_) (fun h10 => ?_)
  · refine z_aload_n (pc := 14) hC 0 dX2_take_14 rfl ?_
    refine z_get (pc := 15) (C := RX2) (T := TX2) (N := 3) hC hinX2 0 rfl rfl 1 (by decide) (by decide +kernel) rfl dX2_take_15 ?_
    refine z_lconst (pc := 18) (v := 0) hC dX2_take_18 (by decide +kernel) ?_
    refine z_callS_V (pc := 19) (y := yJ7_fill_d0a16) (wy := wsJ7_fill_d0a16) (rm := { frames := 0, cells := 0, slots := 0, locals := 0 }) (As := [.ref (q 13), .long 0]) (rest := []) (na := 2)  (wc := [(q 13, .inl (cJ, 63, .inr (.inl Nd)))]) (wc2 := [(q 13, .inl (cJ, 63, .inr (.inl (fun _ => 0))))]) hC hRm hDis hLis gX2_take_J7_fill_d0a16 ⟨by decide +kernel, by decide +kernel⟩ rfl ⟨by decide, by decide⟩ ⟨by decide, by decide⟩ rfl (Nat.le_of_ble_eq_true rfl) (by decide +kernel) (c_J7_fill_d0a16 _ _ cI cJ cZ (q 13) (63) (Nd) (0) (by decide)) [2] [0, 1, 3, 4, 5] [0, 1, 5, 2, 3, 4] [(q 11, .inr (3, [.ref (q 12), .ref (q 13), .int (nI 0)])), (q 12, .inl (cI, 4032, .inl Rw)), (q 6, .inr (2, [.ref (q 7), .ref (q 8), .ref (q 9), .ref (q 10), .int c0, .int (nI fc), .int rc, .int ga])), (q 9, .inl (cJ, 4032, .inr (.inl G))), (q 10, .inl (cI, 4032, .inl O))] rfl (by decide) rfl (by decide) (by decide) [(q 11, .inr (3, [.ref (q 12), .ref (q 13), .int (nI 0)])), (q 12, .inl (cI, 4032, .inl Rw)), (q 13, .inl (cJ, 63, .inr (.inl (fun _ => 0)))), (q 6, .inr (2, [.ref (q 7), .ref (q 8), .ref (q 9), .ref (q 10), .int c0, .int (nI fc), .int rc, .int ga])), (q 9, .inl (cJ, 4032, .inr (.inl G))), (q 10, .inl (cI, 4032, .inl O))] rfl (by decide) rfl dX2_take_19 ?_
    refine z_aload_n (pc := 22) hC 0 dX2_take_22 rfl ?_
    refine z_iload_n (pc := 23) hC 2 dX2_take_23 rfl ?_
    refine z_callV_V (pc := 24) (y := yX2_need) (wy := wsX2_need) (rm := { frames := 0, cells := 0, slots := 0, locals := 0 }) (As := [.int p0]) (rest := []) (na := 1) (C := RX2) (T := TX2) (NF := 3) (ci := 3) (wc := [(q 11, .inr (3, [.ref (q 12), .ref (q 13), .int (nI 0)])), (q 13, .inl (cJ, 63, .inr (.inl (fun _ => 0))))]) (wc2 := [(q 11, .inr (3, [.ref (q 12), .ref (q 13), .int (nI 0)])), (q 13, .inl (cJ, 63, .inr (.inl (needF (fun _ => 0) p0))))]) hC hRm hDis hLis 0 rfl rfl gX2_take_X2_need ⟨rfl, by decide +kernel, by decide +kernel⟩ rfl ⟨by decide, by decide⟩ ⟨by decide, by decide⟩ rfl (Nat.le_of_ble_eq_true rfl) (by decide +kernel) (c_X2_need _ _ cI cJ cZ (q) (fun _ => 0) (nI 0) (p0) ) [0, 2] [1, 3, 4, 5] [4, 0, 5, 1, 2, 3] [(q 12, .inl (cI, 4032, .inl Rw)), (q 6, .inr (2, [.ref (q 7), .ref (q 8), .ref (q 9), .ref (q 10), .int c0, .int (nI fc), .int rc, .int ga])), (q 9, .inl (cJ, 4032, .inr (.inl G))), (q 10, .inl (cI, 4032, .inl O))] rfl (by decide) rfl (by decide) (by decide) [(q 11, .inr (3, [.ref (q 12), .ref (q 13), .int (nI 0)])), (q 12, .inl (cI, 4032, .inl Rw)), (q 13, .inl (cJ, 63, .inr (.inl (needF (fun _ => 0) p0)))), (q 6, .inr (2, [.ref (q 7), .ref (q 8), .ref (q 9), .ref (q 10), .int c0, .int (nI fc), .int rc, .int ga])), (q 9, .inl (cJ, 4032, .inr (.inl G))), (q 10, .inl (cI, 4032, .inl O))] rfl (by decide) rfl dX2_take_24 ?_
    refine z_aload_n (pc := 27) hC 1 dX2_take_27 rfl ?_
    refine z_getN (pc := 28) (C := RX1) (T := TX1) (N := 8) hC hinX1 3 rfl rfl 5 (by decide) (by decide +kernel) rfl dX2_take_28 ?_
    refine z_iconst (pc := 31) (v := (nI 1)) hC dX2_take_31 (by decide +kernel) ?_
    refine z_isub (pc := 32) (v := (decI fc)) hC dX2_take_32 (rfl) ?_
    refine z_istore_n (pc := 33) hC hNL [(3, .int (decI fc)), (0, .ref (q 11)), (1, .ref (q 6)), (2, .int p0)] dX2_take_33 (by decide) rfl ?_
    have L34 : ∀ (fu : Nat) (m0 : Nat) (Ng : Nat → Int64) (hi : m0 ≤ fc) (hf : m0 + 1 ≤ fu) (hX : takeN G O fc p0 Nd = tkN G O m0 Ng), Z K 0 0 [(q 11, .inr (3, [.ref (q 12), .ref (q 13), .int (nI 0)])), (q 12, .inl (cI, 4032, .inl Rw)), (q 13, .inl (cJ, 63, .inr (.inl Ng))), (q 6, .inr (2, [.ref (q 7), .ref (q 8), .ref (q 9), .ref (q 10), .int c0, .int (nI fc), .int rc, .int ga])), (q 9, .inl (cJ, 4032, .inr (.inl G))), (q 10, .inl (cI, 4032, .inl O))] [(3, .int (decI m0)), (0, .ref (q 11)), (1, .ref (q 6)), (2, .int p0)] 34 [] := by
      intro fu
      induction fu with
      | zero =>
        intro m0 Ng hi hf hX
        exact absurd trivial (by omega)
      | succ fu ih34 =>
        intro m0 Ng hi hf hX
        refine z_iload_n (pc := 34) hC 0 dX2_take_34 rfl ?_
        refine z_if_lt (pc := 35) (tgt := 85) hC dX2_take_35 (by decide) (fun h35 => ?_) (fun h35 => ?_)
        · have em : m0 = 0 := by
              rcases Nat.eq_zero_or_pos m0 with h | h
              · exact h
              · obtain ⟨i, rfl⟩ : ∃ i, m0 = i + 1 := ⟨m0 - 1, by omega⟩
                rw [decI_s] at h35
                exact absurd h35 (nI_pos (by omega))
          have hX2 : takeN G O fc p0 Nd = Ng := by rw [hX, em]; rfl
          refine z_iconst (pc := 85) (v := (nI 0)) hC dX2_take_85 (by decide +kernel) ?_
          refine z_istore_n (pc := 86) hC hNL [(3, .int (nI 0)), (0, .ref (q 11)), (1, .ref (q 6)), (2, .int p0)] dX2_take_86 (by decide) rfl ?_
          have L87 : ∀ (fu : Nat) (i : Nat) (w : RS) (hi : i ≤ fc) (hf : fc + 1 ≤ i + fu) (hwl : w.2 ≤ i) (hw : w = tkR Ng O (Rw, 0) i), Z K 0 0 [(q 11, .inr (3, [.ref (q 12), .ref (q 13), .int (nI (w.2))])), (q 12, .inl (cI, 4032, .inl w.1)), (q 13, .inl (cJ, 63, .inr (.inl Ng))), (q 6, .inr (2, [.ref (q 7), .ref (q 8), .ref (q 9), .ref (q 10), .int c0, .int (nI fc), .int rc, .int ga])), (q 9, .inl (cJ, 4032, .inr (.inl G))), (q 10, .inl (cI, 4032, .inl O))] [(3, .int (nI i)), (0, .ref (q 11)), (1, .ref (q 6)), (2, .int p0)] 87 [] := by
            intro fu
            induction fu with
            | zero =>
              intro i w hi hf hwl hw
              exact absurd trivial (by omega)
            | succ fu ih87 =>
              intro i w hi hf hwl hw
              refine z_iload_n (pc := 87) hC 0 dX2_take_87 rfl ?_
              refine z_aload_n (pc := 88) hC 2 dX2_take_88 rfl ?_
              refine z_getN (pc := 89) (C := RX1) (T := TX1) (N := 8) hC hinX1 3 rfl rfl 5 (by decide) (by decide +kernel) rfl dX2_take_89 ?_
              refine z_ncmp_ge (pc := 92) (tgt := 139) hC dX2_take_92 (by decide) (by omega) (by omega) (fun h92 => ?_) (fun h92 => ?_)
              · exact z_vret (pc := 139) hC hQ hRT (by rw [takeR_t h10, ← takeN_t h10 (Nd := Nd), hX2, hw, show i = fc by omega]) dX2_take_139
              · refine z_aload_n (pc := 95) hC 1 dX2_take_95 rfl ?_
                refine z_aload_n (pc := 96) hC 2 dX2_take_96 rfl ?_
                refine z_getN (pc := 97) (C := RX1) (T := TX1) (N := 8) hC hinX1 3 rfl rfl 3 (by decide) (by decide +kernel) rfl dX2_take_97 ?_
                refine z_iload_n (pc := 100) hC 0 dX2_take_100 rfl ?_
                refine z_iald (pc := 101) (v := (O i)) hC 5 0 rfl rfl (by omega) (by decide) (rfl) dX2_take_101 ?_
                obtain ⟨jj, hjj, ejj⟩ := hO i (by omega)
                refine z_topi (nI jj) ejj ?_
                refine z_callV_I (pc := 102) (y := yX2_isNeeded) (wy := wsX2_isNeeded) (rm := { frames := 0, cells := 0, slots := 0, locals := 0 }) (As := [.int (nI jj)]) (rest := []) (na := 1) (C := RX2) (T := TX2) (NF := 3) (ci := 3) (wc := [(q 11, .inr (3, [.ref (q 12), .ref (q 13), .int (nI (w.2))])), (q 13, .inl (cJ, 63, .inr (.inl Ng)))]) (wc2 := [(q 11, .inr (3, [.ref (q 12), .ref (q 13), .int (nI (w.2))])), (q 13, .inl (cJ, 63, .inr (.inl Ng)))]) hC hRm hDis hLis 0 rfl rfl gX2_take_X2_isNeeded ⟨rfl, by decide +kernel, by decide +kernel⟩ rfl ⟨by decide, by decide⟩ ⟨by decide, by decide⟩ rfl (Nat.le_of_ble_eq_true rfl) (by decide +kernel) (c_X2_isNeeded _ _ cI cJ cZ (q) (Ng) (nI (w.2)) (jj) (hjj)) [0, 2] [1, 3, 4, 5] [4, 0, 5, 1, 2, 3] [(q 12, .inl (cI, 4032, .inl w.1)), (q 6, .inr (2, [.ref (q 7), .ref (q 8), .ref (q 9), .ref (q 10), .int c0, .int (nI fc), .int rc, .int ga])), (q 9, .inl (cJ, 4032, .inr (.inl G))), (q 10, .inl (cI, 4032, .inl O))] rfl (by decide) rfl (by decide) (by decide) [(q 11, .inr (3, [.ref (q 12), .ref (q 13), .int (nI (w.2))])), (q 12, .inl (cI, 4032, .inl w.1)), (q 13, .inl (cJ, 63, .inr (.inl Ng))), (q 6, .inr (2, [.ref (q 7), .ref (q 8), .ref (q 9), .ref (q 10), .int c0, .int (nI fc), .int rc, .int ga])), (q 9, .inl (cJ, 4032, .inr (.inl G))), (q 10, .inl (cI, 4032, .inl O))] rfl (by decide) rfl dX2_take_102 ?_
                refine z_bif_eq (pc := 105) (tgt := 133) hC dX2_take_105 (by decide) (fun h105 => ?_) (fun h105 => ?_)
                · refine z_iinc (pc := 133) (q := 0) (x := (nI i)) (v := (nI (i + 1))) hC hNL [(3, .int (nI (i + 1))), (0, .ref (q 11)), (1, .ref (q 6)), (2, .int p0)] dX2_take_133 rfl (nI_add _ _) (by decide) rfl ?_
                  refine z_goto (pc := 136) (tgt := 87) hC dX2_take_136 (by decide) ?_
                  exact ih87 (i + 1) (w) (by omega) (by omega) (by first | exact Nat.le_succ_of_le hwl | (show w.2 + 1 ≤ i + 1; omega)) (by first | rw [tkR_f (by rw [ejj, tn_nI (by omega)]; exact h105), hw] | rw [tkR_t (by rw [ejj, tn_nI (by omega)]; exact h105), hw])
                · refine z_aload_n (pc := 108) hC 1 dX2_take_108 rfl ?_
                  refine z_get (pc := 109) (C := RX2) (T := TX2) (N := 3) hC hinX2 0 rfl rfl 0 (by decide) (by decide +kernel) rfl dX2_take_109 ?_
                  refine z_aload_n (pc := 112) hC 1 dX2_take_112 rfl ?_
                  refine z_get (pc := 113) (C := RX2) (T := TX2) (N := 3) hC hinX2 0 rfl rfl 2 (by decide) (by decide +kernel) rfl dX2_take_113 ?_
                  refine z_aload_n (pc := 116) hC 2 dX2_take_116 rfl ?_
                  refine z_getN (pc := 117) (C := RX1) (T := TX1) (N := 8) hC hinX1 3 rfl rfl 3 (by decide) (by decide +kernel) rfl dX2_take_117 ?_
                  refine z_iload_n (pc := 120) hC 0 dX2_take_120 rfl ?_
                  refine z_iald (pc := 121) (v := (O i)) hC 5 0 rfl rfl (by omega) (by decide) (rfl) dX2_take_121 ?_
                  refine z_iast (pc := 122) hC 1 0 rfl rfl (by omega) (by decide) [(q 11, .inr (3, [.ref (q 12), .ref (q 13), .int (nI (w.2))])), (q 12, .inl (cI, 4032, .inl (upd w.1 w.2 (O i)))), (q 13, .inl (cJ, 63, .inr (.inl Ng))), (q 6, .inr (2, [.ref (q 7), .ref (q 8), .ref (q 9), .ref (q 10), .int c0, .int (nI fc), .int rc, .int ga])), (q 9, .inl (cJ, 4032, .inr (.inl G))), (q 10, .inl (cI, 4032, .inl O))] rfl dX2_take_122 ?_
                  refine z_aload_n (pc := 123) hC 1 dX2_take_123 rfl ?_
                  refine z_dup (pc := 124) hC dX2_take_124 rfl ?_
                  refine z_get (pc := 125) (C := RX2) (T := TX2) (N := 3) hC hinX2 0 rfl rfl 2 (by decide) (by decide +kernel) rfl dX2_take_125 ?_
                  refine z_iconst (pc := 128) (v := (nI 1)) hC dX2_take_128 (by decide +kernel) ?_
                  refine z_iadd (pc := 129) (v := (nI (w.2 + 1))) hC dX2_take_129 (nI_add _ _) ?_
                  refine z_put (pc := 130) (C := RX2) (T := TX2) (N := 3) hC hinX2 0 rfl rfl 2 (by decide) tyX2 tyX2_ok nmX2 (by decide +kernel) rfl (rfl) (rfl) (Nat.le_of_ble_eq_true rfl) [(q 11, .inr (3, [.ref (q 12), .ref (q 13), .int (nI (w.2 + 1))])), (q 12, .inl (cI, 4032, .inl (upd w.1 w.2 (O i)))), (q 13, .inl (cJ, 63, .inr (.inl Ng))), (q 6, .inr (2, [.ref (q 7), .ref (q 8), .ref (q 9), .ref (q 10), .int c0, .int (nI fc), .int rc, .int ga])), (q 9, .inl (cJ, 4032, .inr (.inl G))), (q 10, .inl (cI, 4032, .inl O))] rfl dX2_take_130 ?_
                  refine z_iinc (pc := 133) (q := 0) (x := (nI i)) (v := (nI (i + 1))) hC hNL [(3, .int (nI (i + 1))), (0, .ref (q 11)), (1, .ref (q 6)), (2, .int p0)] dX2_take_133 rfl (nI_add _ _) (by decide) rfl ?_
                  refine z_goto (pc := 136) (tgt := 87) hC dX2_take_136 (by decide) ?_
                  exact ih87 (i + 1) ((upd w.1 w.2 (O i), w.2 + 1)) (by omega) (by omega) (by first | exact Nat.le_succ_of_le hwl | (show w.2 + 1 ≤ i + 1; omega)) (by first | rw [tkR_f (by rw [ejj, tn_nI (by omega)]; exact h105), hw] | rw [tkR_t (by rw [ejj, tn_nI (by omega)]; exact h105), hw])
          exact L87 (fc + 1) (0) ((Rw, 0)) (by omega) (by omega) (Nat.zero_le 0) (rfl)
        · obtain ⟨i, rfl⟩ : ∃ i, m0 = i + 1 := ⟨m0 - 1, by have : m0 ≠ 0 := (fun e => h35 (by rw [e]; exact decI_0)); omega⟩
          refine z_lveq [(3, .int (nI i)), (0, .ref (q 11)), (1, .ref (q 6)), (2, .int p0)] (by rw [decI_s]) ?_
          refine z_aload_n (pc := 38) hC 1 dX2_take_38 rfl ?_
          refine z_aload_n (pc := 39) hC 2 dX2_take_39 rfl ?_
          refine z_getN (pc := 40) (C := RX1) (T := TX1) (N := 8) hC hinX1 3 rfl rfl 3 (by decide) (by decide +kernel) rfl dX2_take_40 ?_
          refine z_iload_n (pc := 43) hC 0 dX2_take_43 rfl ?_
          refine z_iald (pc := 44) (v := (O i)) hC 5 0 rfl rfl (by omega) (by decide) (rfl) dX2_take_44 ?_
          obtain ⟨jj, hjj, ejj⟩ := hO i (by omega)
          refine z_topi (nI jj) ejj ?_
          refine z_callV_I (pc := 45) (y := yX2_isNeeded) (wy := wsX2_isNeeded) (rm := { frames := 0, cells := 0, slots := 0, locals := 0 }) (As := [.int (nI jj)]) (rest := []) (na := 1) (C := RX2) (T := TX2) (NF := 3) (ci := 3) (wc := [(q 11, .inr (3, [.ref (q 12), .ref (q 13), .int (nI 0)])), (q 13, .inl (cJ, 63, .inr (.inl Ng)))]) (wc2 := [(q 11, .inr (3, [.ref (q 12), .ref (q 13), .int (nI 0)])), (q 13, .inl (cJ, 63, .inr (.inl Ng)))]) hC hRm hDis hLis 0 rfl rfl gX2_take_X2_isNeeded ⟨rfl, by decide +kernel, by decide +kernel⟩ rfl ⟨by decide, by decide⟩ ⟨by decide, by decide⟩ rfl (Nat.le_of_ble_eq_true rfl) (by decide +kernel) (c_X2_isNeeded _ _ cI cJ cZ (q) (Ng) (nI 0) (jj) (hjj)) [0, 2] [1, 3, 4, 5] [4, 0, 5, 1, 2, 3] [(q 12, .inl (cI, 4032, .inl Rw)), (q 6, .inr (2, [.ref (q 7), .ref (q 8), .ref (q 9), .ref (q 10), .int c0, .int (nI fc), .int rc, .int ga])), (q 9, .inl (cJ, 4032, .inr (.inl G))), (q 10, .inl (cI, 4032, .inl O))] rfl (by decide) rfl (by decide) (by decide) [(q 11, .inr (3, [.ref (q 12), .ref (q 13), .int (nI 0)])), (q 12, .inl (cI, 4032, .inl Rw)), (q 13, .inl (cJ, 63, .inr (.inl Ng))), (q 6, .inr (2, [.ref (q 7), .ref (q 8), .ref (q 9), .ref (q 10), .int c0, .int (nI fc), .int rc, .int ga])), (q 9, .inl (cJ, 4032, .inr (.inl G))), (q 10, .inl (cI, 4032, .inl O))] rfl (by decide) rfl dX2_take_45 ?_
          refine z_bif_eq (pc := 48) (tgt := 79) hC dX2_take_48 (by decide) (fun h48 => ?_) (fun h48 => ?_)
          · refine z_iinc (pc := 79) (q := 0) (x := (nI i)) (v := (decI i)) hC hNL [(3, .int (decI i)), (0, .ref (q 11)), (1, .ref (q 6)), (2, .int p0)] dX2_take_79 rfl (decI_i i) (by decide) rfl ?_
            refine z_goto (pc := 82) (tgt := 34) hC dX2_take_82 (by decide) ?_
            exact ih34 (i) (Ng) (by omega) (by omega) (by first | rw [hX, tkN_s, tkS_f (by rw [ejj, tn_nI (by omega)]; exact h48)] | rw [hX, tkN_s, tkS_t (by rw [ejj, tn_nI (by omega)]; exact h48), ejj, tn_nI (by omega)])
          · refine z_aload_n (pc := 51) hC 1 dX2_take_51 rfl ?_
            refine z_aload_n (pc := 52) hC 2 dX2_take_52 rfl ?_
            refine z_aload_n (pc := 53) hC 2 dX2_take_53 rfl ?_
            refine z_getN (pc := 54) (C := RX1) (T := TX1) (N := 8) hC hinX1 3 rfl rfl 3 (by decide) (by decide +kernel) rfl dX2_take_54 ?_
            refine z_iload_n (pc := 57) hC 0 dX2_take_57 rfl ?_
            refine z_iald (pc := 58) (v := (O i)) hC 5 0 rfl rfl (by omega) (by decide) (rfl) dX2_take_58 ?_
            refine z_topi (nI jj) ejj ?_
            refine z_callVN_I (pc := 59) (y := yX1_firstPremiseOf) (wy := wsX1_firstPremiseOf) (rm := { frames := 0, cells := 0, slots := 0, locals := 0 }) (As := [.int (nI jj)]) (rest := [.ref (q 11)]) (na := 1) (C := RX1) (T := TX1) (NF := 8) (ci := 2) (wc := [(q 6, .inr (2, [.ref (q 7), .ref (q 8), .ref (q 9), .ref (q 10), .int c0, .int (nI fc), .int rc, .int ga])), (q 9, .inl (cJ, 4032, .inr (.inl G)))]) (wc2 := [(q 6, .inr (2, [.ref (q 7), .ref (q 8), .ref (q 9), .ref (q 10), .int c0, .int (nI fc), .int rc, .int ga])), (q 9, .inl (cJ, 4032, .inr (.inl G)))]) hC hRm hDis hLis 0 rfl rfl gX2_take_X1_firstPremiseOf_n48 (by decide +kernel) (by decide +kernel) (by decide +kernel) (by decide +kernel) ⟨by decide +kernel, by decide +kernel⟩ rfl ⟨by decide, by decide⟩ ⟨by decide, by decide⟩ rfl (Nat.le_of_ble_eq_true rfl) (by decide +kernel) (c_X1_firstPremiseOf _ _ cI cJ cZ (q) (G) (c0) (nI fc) (rc) (ga) (jj) (hjj)) [3, 4] [0, 1, 2, 5] [0, 1, 2, 4, 5, 3] [(q 11, .inr (3, [.ref (q 12), .ref (q 13), .int (nI 0)])), (q 12, .inl (cI, 4032, .inl Rw)), (q 13, .inl (cJ, 63, .inr (.inl Ng))), (q 10, .inl (cI, 4032, .inl O))] rfl (by decide) rfl (by decide) (by decide) [(q 11, .inr (3, [.ref (q 12), .ref (q 13), .int (nI 0)])), (q 12, .inl (cI, 4032, .inl Rw)), (q 13, .inl (cJ, 63, .inr (.inl Ng))), (q 6, .inr (2, [.ref (q 7), .ref (q 8), .ref (q 9), .ref (q 10), .int c0, .int (nI fc), .int rc, .int ga])), (q 9, .inl (cJ, 4032, .inr (.inl G))), (q 10, .inl (cI, 4032, .inl O))] rfl (by decide) rfl dX2_take_59 ?_
            refine z_callV_V (pc := 62) (y := yX2_need) (wy := wsX2_need) (rm := { frames := 0, cells := 0, slots := 0, locals := 0 }) (As := [.int (fiO (G jj))]) (rest := []) (na := 1) (C := RX2) (T := TX2) (NF := 3) (ci := 3) (wc := [(q 11, .inr (3, [.ref (q 12), .ref (q 13), .int (nI 0)])), (q 13, .inl (cJ, 63, .inr (.inl Ng)))]) (wc2 := [(q 11, .inr (3, [.ref (q 12), .ref (q 13), .int (nI 0)])), (q 13, .inl (cJ, 63, .inr (.inl (needF Ng (fiO (G jj))))))]) hC hRm hDis hLis 0 rfl rfl gX2_take_X2_need ⟨rfl, by decide +kernel, by decide +kernel⟩ rfl ⟨by decide, by decide⟩ ⟨by decide, by decide⟩ rfl (Nat.le_of_ble_eq_true rfl) (by decide +kernel) (c_X2_need _ _ cI cJ cZ (q) (Ng) (nI 0) (fiO (G jj)) ) [0, 2] [1, 3, 4, 5] [4, 0, 5, 1, 2, 3] [(q 12, .inl (cI, 4032, .inl Rw)), (q 6, .inr (2, [.ref (q 7), .ref (q 8), .ref (q 9), .ref (q 10), .int c0, .int (nI fc), .int rc, .int ga])), (q 9, .inl (cJ, 4032, .inr (.inl G))), (q 10, .inl (cI, 4032, .inl O))] rfl (by decide) rfl (by decide) (by decide) [(q 11, .inr (3, [.ref (q 12), .ref (q 13), .int (nI 0)])), (q 12, .inl (cI, 4032, .inl Rw)), (q 13, .inl (cJ, 63, .inr (.inl (needF Ng (fiO (G jj)))))), (q 6, .inr (2, [.ref (q 7), .ref (q 8), .ref (q 9), .ref (q 10), .int c0, .int (nI fc), .int rc, .int ga])), (q 9, .inl (cJ, 4032, .inr (.inl G))), (q 10, .inl (cI, 4032, .inl O))] rfl (by decide) rfl dX2_take_62 ?_
            refine z_aload_n (pc := 65) hC 1 dX2_take_65 rfl ?_
            refine z_aload_n (pc := 66) hC 2 dX2_take_66 rfl ?_
            refine z_aload_n (pc := 67) hC 2 dX2_take_67 rfl ?_
            refine z_getN (pc := 68) (C := RX1) (T := TX1) (N := 8) hC hinX1 3 rfl rfl 3 (by decide) (by decide +kernel) rfl dX2_take_68 ?_
            refine z_iload_n (pc := 71) hC 0 dX2_take_71 rfl ?_
            refine z_iald (pc := 72) (v := (O i)) hC 5 0 rfl rfl (by omega) (by decide) (rfl) dX2_take_72 ?_
            refine z_topi (nI jj) ejj ?_
            refine z_callVN_I (pc := 73) (y := yX1_secondPremiseOf) (wy := wsX1_secondPremiseOf) (rm := { frames := 0, cells := 0, slots := 0, locals := 0 }) (As := [.int (nI jj)]) (rest := [.ref (q 11)]) (na := 1) (C := RX1) (T := TX1) (NF := 8) (ci := 2) (wc := [(q 6, .inr (2, [.ref (q 7), .ref (q 8), .ref (q 9), .ref (q 10), .int c0, .int (nI fc), .int rc, .int ga])), (q 9, .inl (cJ, 4032, .inr (.inl G)))]) (wc2 := [(q 6, .inr (2, [.ref (q 7), .ref (q 8), .ref (q 9), .ref (q 10), .int c0, .int (nI fc), .int rc, .int ga])), (q 9, .inl (cJ, 4032, .inr (.inl G)))]) hC hRm hDis hLis 0 rfl rfl gX2_take_X1_secondPremiseOf_n52 (by decide +kernel) (by decide +kernel) (by decide +kernel) (by decide +kernel) ⟨by decide +kernel, by decide +kernel⟩ rfl ⟨by decide, by decide⟩ ⟨by decide, by decide⟩ rfl (Nat.le_of_ble_eq_true rfl) (by decide +kernel) (c_X1_secondPremiseOf _ _ cI cJ cZ (q) (G) (c0) (nI fc) (rc) (ga) (jj) (hjj)) [3, 4] [0, 1, 2, 5] [0, 1, 2, 4, 5, 3] [(q 11, .inr (3, [.ref (q 12), .ref (q 13), .int (nI 0)])), (q 12, .inl (cI, 4032, .inl Rw)), (q 13, .inl (cJ, 63, .inr (.inl (needF Ng (fiO (G jj)))))), (q 10, .inl (cI, 4032, .inl O))] rfl (by decide) rfl (by decide) (by decide) [(q 11, .inr (3, [.ref (q 12), .ref (q 13), .int (nI 0)])), (q 12, .inl (cI, 4032, .inl Rw)), (q 13, .inl (cJ, 63, .inr (.inl (needF Ng (fiO (G jj)))))), (q 6, .inr (2, [.ref (q 7), .ref (q 8), .ref (q 9), .ref (q 10), .int c0, .int (nI fc), .int rc, .int ga])), (q 9, .inl (cJ, 4032, .inr (.inl G))), (q 10, .inl (cI, 4032, .inl O))] rfl (by decide) rfl dX2_take_73 ?_
            refine z_callV_V (pc := 76) (y := yX2_need) (wy := wsX2_need) (rm := { frames := 0, cells := 0, slots := 0, locals := 0 }) (As := [.int (seO (G jj))]) (rest := []) (na := 1) (C := RX2) (T := TX2) (NF := 3) (ci := 3) (wc := [(q 11, .inr (3, [.ref (q 12), .ref (q 13), .int (nI 0)])), (q 13, .inl (cJ, 63, .inr (.inl (needF Ng (fiO (G jj))))))]) (wc2 := [(q 11, .inr (3, [.ref (q 12), .ref (q 13), .int (nI 0)])), (q 13, .inl (cJ, 63, .inr (.inl (needF (needF Ng (fiO (G jj))) (seO (G jj))))))]) hC hRm hDis hLis 0 rfl rfl gX2_take_X2_need ⟨rfl, by decide +kernel, by decide +kernel⟩ rfl ⟨by decide, by decide⟩ ⟨by decide, by decide⟩ rfl (Nat.le_of_ble_eq_true rfl) (by decide +kernel) (c_X2_need _ _ cI cJ cZ (q) (needF Ng (fiO (G jj))) (nI 0) (seO (G jj)) ) [0, 2] [1, 3, 4, 5] [4, 0, 5, 1, 2, 3] [(q 12, .inl (cI, 4032, .inl Rw)), (q 6, .inr (2, [.ref (q 7), .ref (q 8), .ref (q 9), .ref (q 10), .int c0, .int (nI fc), .int rc, .int ga])), (q 9, .inl (cJ, 4032, .inr (.inl G))), (q 10, .inl (cI, 4032, .inl O))] rfl (by decide) rfl (by decide) (by decide) [(q 11, .inr (3, [.ref (q 12), .ref (q 13), .int (nI 0)])), (q 12, .inl (cI, 4032, .inl Rw)), (q 13, .inl (cJ, 63, .inr (.inl (needF (needF Ng (fiO (G jj))) (seO (G jj)))))), (q 6, .inr (2, [.ref (q 7), .ref (q 8), .ref (q 9), .ref (q 10), .int c0, .int (nI fc), .int rc, .int ga])), (q 9, .inl (cJ, 4032, .inr (.inl G))), (q 10, .inl (cI, 4032, .inl O))] rfl (by decide) rfl dX2_take_76 ?_
            refine z_iinc (pc := 79) (q := 0) (x := (nI i)) (v := (decI i)) hC hNL [(3, .int (decI i)), (0, .ref (q 11)), (1, .ref (q 6)), (2, .int p0)] dX2_take_79 rfl (decI_i i) (by decide) rfl ?_
            refine z_goto (pc := 82) (tgt := 34) hC dX2_take_82 (by decide) ?_
            exact ih34 (i) (needF (needF Ng (fiO (G jj))) (seO (G jj))) (by omega) (by omega) (by first | rw [hX, tkN_s, tkS_f (by rw [ejj, tn_nI (by omega)]; exact h48)] | rw [hX, tkN_s, tkS_t (by rw [ejj, tn_nI (by omega)]; exact h48), ejj, tn_nI (by omega)])
    exact L34 (fc + 1) (fc) (needF (fun _ => 0) p0) (by omega) (by omega) (takeN_t h10)
  · exact z_vret (pc := 13) hC hQ hRT (by rw [takeR_f h10, takeN_f h10]) dX2_take_13
end
section
/-! ElCompletion: its own methods -/
/-- the closure's cells, its count of classes, and whether it is stale -/
abbrev CSt : Type := FS × Nat × Bool
def cloT (n cnt : Nat) (Kd Aa Ab Ac : Nat → Int32) (s : CSt) : CSt := if s.2.2 = true then (fillF n cnt Kd Aa Ab Ac s.1.2.2.1.1, n, false) else s
theorem cloT_t {n cnt : Nat} {Kd Aa Ab Ac : Nat → Int32} {s : CSt} (h : s.2.2 = true) : cloT n cnt Kd Aa Ab Ac s = (fillF n cnt Kd Aa Ab Ac s.1.2.2.1.1, n, false) := if_pos h
theorem cloT_f {n cnt : Nat} {Kd Aa Ab Ac : Nat → Int32} {s : CSt} (h : s.2.2 = false) : cloT n cnt Kd Aa Ab Ac s = s := if_neg (by rw [h]; decide)
theorem isCl_n {a n : Int32} (h : a < 0) : isCl a n = false := decide_eq_false (fun q => q.1 h)
theorem isCl_g {a n : Int32} (h : n ≤ a) : isCl a n = false := decide_eq_false (fun q => q.2 h)
theorem isCl_t {a n : Int32} (h : ¬ a < 0) (h2 : ¬ n ≤ a) : isCl a n = true := decide_eq_true ⟨h, h2⟩
theorem isCl_nI {a n : Nat} (h : a < n) (hn : n < 2 ^ 31) : isCl (nI a) (nI n) = true := isCl_t (nI_pos (by omega)) (nI_ge h hn)
theorem isCl_of {a : Int32} {n : Nat} (hn : n < 2 ^ 31) (h : isCl a (nI n) = true) : clV n a := by
  have := of_decide_eq_true h
  exact nI_not_neg hn this.1 this.2
theorem isRo_nI {a : Nat} (h : a < 6) : isRo (nI a) = true := decide_eq_true ⟨nI_pos (by omega), nI_ge h (by decide)⟩
theorem isRo_of {a : Int32} (h : isRo a = true) : clV 6 a := by
  have := of_decide_eq_true h
  exact nI_not_neg (by decide) this.1 this.2
def isAx (n : Nat) (k a b c : Int32) : Bool :=
  if k = nI 1 then isCl a (nI n) && isCl b (nI n)
  else if k = nI 2 then isCl a (nI n) && isCl b (nI n) && isCl c (nI n)
  else if k = nI 3 then isCl a (nI n) && isRo b && isCl c (nI n)
  else if k = nI 4 then isRo a && isCl b (nI n) && isCl c (nI n)
  else if k = nI 5 then isRo a && isRo b
  else if k = nI 6 then isRo a && isRo b && isRo c
  else if k = nI 7 then isRo a
  else false
section ISAX
variable {n : Nat} {k a b c : Int32}
theorem isAx_1 (h : k = nI 1) : isAx n k a b c = (isCl a (nI n) && isCl b (nI n)) := if_pos h
theorem isAx_2 (h : k = nI 2) : isAx n k a b c = (isCl a (nI n) && isCl b (nI n) && isCl c (nI n)) := by subst h; rfl
theorem isAx_3 (h : k = nI 3) : isAx n k a b c = (isCl a (nI n) && isRo b && isCl c (nI n)) := by subst h; rfl
theorem isAx_4 (h : k = nI 4) : isAx n k a b c = (isRo a && isCl b (nI n) && isCl c (nI n)) := by subst h; rfl
theorem isAx_5 (h : k = nI 5) : isAx n k a b c = (isRo a && isRo b) := by subst h; rfl
theorem isAx_6 (h : k = nI 6) : isAx n k a b c = (isRo a && isRo b && isRo c) := by subst h; rfl
theorem isAx_7 (h : k = nI 7) : isAx n k a b c = isRo a := by subst h; rfl
theorem isAx_n (h1 : ¬ k = nI 1) (h2 : ¬ k = nI 2) (h3 : ¬ k = nI 3) (h4 : ¬ k = nI 4) (h5 : ¬ k = nI 5) (h6 : ¬ k = nI 6) (h7 : ¬ k = nI 7) : isAx n k a b c = false := by
  unfold isAx
  rw [if_neg h1, if_neg h2, if_neg h3, if_neg h4, if_neg h5, if_neg h6, if_neg h7]
end ISAX

set_option maxRecDepth 100000 in
set_option maxHeartbeats 4000000 in
theorem c_X3_isClass (l : Launch) (D : va_G) (cI cJ cZ : ClassId) (q : Nat → Nat) (n : Nat) (st : Bool) (a0 : Int32) : MI l yX3_isClass wsX3_isClass { frames := 0, cells := 0, slots := 0, locals := 0 } D (tyL cI cJ cZ) [.ref (q 0), .int a0] [(q 0, .inr (4, [.ref (q 1), .ref (q 6), .ref (q 11), .int (nI n), .int (bI (st))]))] [(q 0, .inr (4, [.ref (q 1), .ref (q 6), .ref (q 11), .int (nI n), .int (bI (st))]))] (bI (isCl a0 (nI n))) := by
  refine metI_of (cc := cX3_isClass) (maxL := 2) (ret := (some .boolean)) (by decide +kernel) rfl (Nat.le_of_ble_eq_true rfl) ?_
  intro K hC hRm hNL hDis hLis hRT hIni hQ
  have hinX3 : ∀ w ∈ wsX30, w ∈ wsX3_isClass := by decide +kernel
  refine z_iload_n (pc := 0) hC 1 dX3_isClass_0 rfl ?_
  refine z_if_lt (pc := 1) (tgt := 16) hC dX3_isClass_1 (by decide) (fun h1 => ?_) (fun h1 => ?_)
  · refine z_iconst (pc := 16) (v := (nI 0)) hC dX3_isClass_16 (by decide +kernel) ?_
    exact z_iret (pc := 17) hC hQ hRT (by decide +kernel) (by first | exact bI_f (isCl_n h1) | exact bI_f (isCl_g h9) | exact bI_t (isCl_t h1 h9)) (rfl) dX3_isClass_17
  · refine z_iload_n (pc := 4) hC 1 dX3_isClass_4 rfl ?_
    refine z_aload_n (pc := 5) hC 0 dX3_isClass_5 rfl ?_
    refine z_get (pc := 6) (C := RX3) (T := TX3) (N := 5) hC hinX3 0 rfl rfl 3 (by decide) (by decide +kernel) rfl dX3_isClass_6 ?_
    refine z_icmp_ge (pc := 9) (tgt := 16) hC dX3_isClass_9 (by decide) (fun h9 => ?_) (fun h9 => ?_)
    · refine z_iconst (pc := 16) (v := (nI 0)) hC dX3_isClass_16 (by decide +kernel) ?_
      exact z_iret (pc := 17) hC hQ hRT (by decide +kernel) (by first | exact bI_f (isCl_n h1) | exact bI_f (isCl_g h9) | exact bI_t (isCl_t h1 h9)) (rfl) dX3_isClass_17
    · refine z_iconst (pc := 12) (v := (nI 1)) hC dX3_isClass_12 (by decide +kernel) ?_
      refine z_goto (pc := 13) (tgt := 17) hC dX3_isClass_13 (by decide) ?_
      exact z_iret (pc := 17) hC hQ hRT (by decide +kernel) (by first | exact bI_f (isCl_n h1) | exact bI_f (isCl_g h9) | exact bI_t (isCl_t h1 h9)) (rfl) dX3_isClass_17

set_option maxRecDepth 100000 in
set_option maxHeartbeats 4000000 in
theorem c_X3_isAxiom (l : Launch) (D : va_G) (cI cJ cZ : ClassId) (q : Nat → Nat) (n : Nat) (st : Bool) (k0 : Int32) (a0 : Int32) (b0 : Int32) (c0 : Int32) : MI l yX3_isAxiom wsX3_isAxiom { frames := 1, cells := 0, slots := 0, locals := 21 } D (tyL cI cJ cZ) [.ref (q 0), .int k0, .int a0, .int b0, .int c0] [(q 0, .inr (4, [.ref (q 1), .ref (q 6), .ref (q 11), .int (nI n), .int (bI (st))]))] [(q 0, .inr (4, [.ref (q 1), .ref (q 6), .ref (q 11), .int (nI n), .int (bI (st))]))] (bI (isAx n k0 a0 b0 c0)) := by
  refine metI_of (cc := cX3_isAxiom) (maxL := 5) (ret := (some .boolean)) (by decide +kernel) rfl (Nat.le_of_ble_eq_true rfl) ?_
  intro K hC hRm hNL hDis hLis hRT hIni hQ
  refine z_iload_n (pc := 0) hC 1 dX3_isAxiom_0 rfl ?_
  by_cases e1_1 : k0 = nI 1
  · refine z_tableIn (pc := 1) (x := k0) (off := 43) (tgt := 44) hC dX3_isAxiom_1 (by rw [e1_1]; decide +kernel) (by rw [e1_1]; decide +kernel) (by rw [e1_1]; decide +kernel) (by decide) ?_
    refine z_aload_n (pc := 44) hC 0 dX3_isAxiom_44 rfl ?_
    refine z_iload_n (pc := 45) hC 2 dX3_isAxiom_45 rfl ?_
    refine z_callV_I (pc := 46) (y := yX3_isClass) (wy := wsX3_isClass) (rm := { frames := 0, cells := 0, slots := 0, locals := 0 }) (As := [.int a0]) (rest := []) (na := 1) (C := RX3) (T := TX3) (NF := 5) (ci := 4) (wc := [(q 0, .inr (4, [.ref (q 1), .ref (q 6), .ref (q 11), .int (nI n), .int (bI (st))]))]) (wc2 := [(q 0, .inr (4, [.ref (q 1), .ref (q 6), .ref (q 11), .int (nI n), .int (bI (st))]))]) hC hRm hDis hLis 0 rfl rfl gX3_isAxiom_X3_isClass ⟨rfl, by decide +kernel, by decide +kernel⟩ rfl ⟨by decide, by decide⟩ ⟨by decide, by decide⟩ rfl (Nat.le_of_ble_eq_true rfl) (by decide +kernel) (c_X3_isClass _ _ cI cJ cZ (q) (n) (st) (a0) ) [0] [] [0] [] rfl (by decide) rfl (by decide) (by decide) [(q 0, .inr (4, [.ref (q 1), .ref (q 6), .ref (q 11), .int (nI n), .int (bI (st))]))] rfl (by decide) rfl dX3_isAxiom_46 ?_
    refine z_bif_eq (pc := 49) (tgt := 64) hC dX3_isAxiom_49 (by decide) (fun h49 => ?_) (fun h49 => ?_)
    · refine z_iconst (pc := 64) (v := (nI 0)) hC dX3_isAxiom_64 (by decide +kernel) ?_
      exact z_iret (pc := 65) hC hQ hRT (by decide +kernel) (by first | exact bI_f (by rw [isAx_1 e1_1, h49]; rfl) | exact bI_f (by rw [isAx_1 e1_1, h49, h57]; rfl) | exact bI_t (by rw [isAx_1 e1_1, h49, h57]; rfl)) (rfl) dX3_isAxiom_65
    · refine z_aload_n (pc := 52) hC 0 dX3_isAxiom_52 rfl ?_
      refine z_iload_n (pc := 53) hC 3 dX3_isAxiom_53 rfl ?_
      refine z_callV_I (pc := 54) (y := yX3_isClass) (wy := wsX3_isClass) (rm := { frames := 0, cells := 0, slots := 0, locals := 0 }) (As := [.int b0]) (rest := []) (na := 1) (C := RX3) (T := TX3) (NF := 5) (ci := 4) (wc := [(q 0, .inr (4, [.ref (q 1), .ref (q 6), .ref (q 11), .int (nI n), .int (bI (st))]))]) (wc2 := [(q 0, .inr (4, [.ref (q 1), .ref (q 6), .ref (q 11), .int (nI n), .int (bI (st))]))]) hC hRm hDis hLis 0 rfl rfl gX3_isAxiom_X3_isClass ⟨rfl, by decide +kernel, by decide +kernel⟩ rfl ⟨by decide, by decide⟩ ⟨by decide, by decide⟩ rfl (Nat.le_of_ble_eq_true rfl) (by decide +kernel) (c_X3_isClass _ _ cI cJ cZ (q) (n) (st) (b0) ) [0] [] [0] [] rfl (by decide) rfl (by decide) (by decide) [(q 0, .inr (4, [.ref (q 1), .ref (q 6), .ref (q 11), .int (nI n), .int (bI (st))]))] rfl (by decide) rfl dX3_isAxiom_54 ?_
      refine z_bif_eq (pc := 57) (tgt := 64) hC dX3_isAxiom_57 (by decide) (fun h57 => ?_) (fun h57 => ?_)
      · refine z_iconst (pc := 64) (v := (nI 0)) hC dX3_isAxiom_64 (by decide +kernel) ?_
        exact z_iret (pc := 65) hC hQ hRT (by decide +kernel) (by first | exact bI_f (by rw [isAx_1 e1_1, h49]; rfl) | exact bI_f (by rw [isAx_1 e1_1, h49, h57]; rfl) | exact bI_t (by rw [isAx_1 e1_1, h49, h57]; rfl)) (rfl) dX3_isAxiom_65
      · refine z_iconst (pc := 60) (v := (nI 1)) hC dX3_isAxiom_60 (by decide +kernel) ?_
        refine z_goto (pc := 61) (tgt := 65) hC dX3_isAxiom_61 (by decide) ?_
        exact z_iret (pc := 65) hC hQ hRT (by decide +kernel) (by first | exact bI_f (by rw [isAx_1 e1_1, h49]; rfl) | exact bI_f (by rw [isAx_1 e1_1, h49, h57]; rfl) | exact bI_t (by rw [isAx_1 e1_1, h49, h57]; rfl)) (rfl) dX3_isAxiom_65
  by_cases e1_2 : k0 = nI 2
  · refine z_tableIn (pc := 1) (x := k0) (off := 65) (tgt := 66) hC dX3_isAxiom_1 (by rw [e1_2]; decide +kernel) (by rw [e1_2]; decide +kernel) (by rw [e1_2]; decide +kernel) (by decide) ?_
    refine z_aload_n (pc := 66) hC 0 dX3_isAxiom_66 rfl ?_
    refine z_iload_n (pc := 67) hC 2 dX3_isAxiom_67 rfl ?_
    refine z_callV_I (pc := 68) (y := yX3_isClass) (wy := wsX3_isClass) (rm := { frames := 0, cells := 0, slots := 0, locals := 0 }) (As := [.int a0]) (rest := []) (na := 1) (C := RX3) (T := TX3) (NF := 5) (ci := 4) (wc := [(q 0, .inr (4, [.ref (q 1), .ref (q 6), .ref (q 11), .int (nI n), .int (bI (st))]))]) (wc2 := [(q 0, .inr (4, [.ref (q 1), .ref (q 6), .ref (q 11), .int (nI n), .int (bI (st))]))]) hC hRm hDis hLis 0 rfl rfl gX3_isAxiom_X3_isClass ⟨rfl, by decide +kernel, by decide +kernel⟩ rfl ⟨by decide, by decide⟩ ⟨by decide, by decide⟩ rfl (Nat.le_of_ble_eq_true rfl) (by decide +kernel) (c_X3_isClass _ _ cI cJ cZ (q) (n) (st) (a0) ) [0] [] [0] [] rfl (by decide) rfl (by decide) (by decide) [(q 0, .inr (4, [.ref (q 1), .ref (q 6), .ref (q 11), .int (nI n), .int (bI (st))]))] rfl (by decide) rfl dX3_isAxiom_68 ?_
    refine z_bif_eq (pc := 71) (tgt := 95) hC dX3_isAxiom_71 (by decide) (fun h71 => ?_) (fun h71 => ?_)
    · refine z_iconst (pc := 95) (v := (nI 0)) hC dX3_isAxiom_95 (by decide +kernel) ?_
      exact z_iret (pc := 96) hC hQ hRT (by decide +kernel) (by first | exact bI_f (by rw [isAx_2 e1_2, h71]; rfl) | exact bI_f (by rw [isAx_2 e1_2, h71, h79]; rfl) | exact bI_f (by rw [isAx_2 e1_2, h71, h79, h88]; rfl) | exact bI_t (by rw [isAx_2 e1_2, h71, h79, h88]; rfl)) (rfl) dX3_isAxiom_96
    · refine z_aload_n (pc := 74) hC 0 dX3_isAxiom_74 rfl ?_
      refine z_iload_n (pc := 75) hC 3 dX3_isAxiom_75 rfl ?_
      refine z_callV_I (pc := 76) (y := yX3_isClass) (wy := wsX3_isClass) (rm := { frames := 0, cells := 0, slots := 0, locals := 0 }) (As := [.int b0]) (rest := []) (na := 1) (C := RX3) (T := TX3) (NF := 5) (ci := 4) (wc := [(q 0, .inr (4, [.ref (q 1), .ref (q 6), .ref (q 11), .int (nI n), .int (bI (st))]))]) (wc2 := [(q 0, .inr (4, [.ref (q 1), .ref (q 6), .ref (q 11), .int (nI n), .int (bI (st))]))]) hC hRm hDis hLis 0 rfl rfl gX3_isAxiom_X3_isClass ⟨rfl, by decide +kernel, by decide +kernel⟩ rfl ⟨by decide, by decide⟩ ⟨by decide, by decide⟩ rfl (Nat.le_of_ble_eq_true rfl) (by decide +kernel) (c_X3_isClass _ _ cI cJ cZ (q) (n) (st) (b0) ) [0] [] [0] [] rfl (by decide) rfl (by decide) (by decide) [(q 0, .inr (4, [.ref (q 1), .ref (q 6), .ref (q 11), .int (nI n), .int (bI (st))]))] rfl (by decide) rfl dX3_isAxiom_76 ?_
      refine z_bif_eq (pc := 79) (tgt := 95) hC dX3_isAxiom_79 (by decide) (fun h79 => ?_) (fun h79 => ?_)
      · refine z_iconst (pc := 95) (v := (nI 0)) hC dX3_isAxiom_95 (by decide +kernel) ?_
        exact z_iret (pc := 96) hC hQ hRT (by decide +kernel) (by first | exact bI_f (by rw [isAx_2 e1_2, h71]; rfl) | exact bI_f (by rw [isAx_2 e1_2, h71, h79]; rfl) | exact bI_f (by rw [isAx_2 e1_2, h71, h79, h88]; rfl) | exact bI_t (by rw [isAx_2 e1_2, h71, h79, h88]; rfl)) (rfl) dX3_isAxiom_96
      · refine z_aload_n (pc := 82) hC 0 dX3_isAxiom_82 rfl ?_
        refine z_iload (pc := 83) hC 4 dX3_isAxiom_83 rfl ?_
        refine z_callV_I (pc := 85) (y := yX3_isClass) (wy := wsX3_isClass) (rm := { frames := 0, cells := 0, slots := 0, locals := 0 }) (As := [.int c0]) (rest := []) (na := 1) (C := RX3) (T := TX3) (NF := 5) (ci := 4) (wc := [(q 0, .inr (4, [.ref (q 1), .ref (q 6), .ref (q 11), .int (nI n), .int (bI (st))]))]) (wc2 := [(q 0, .inr (4, [.ref (q 1), .ref (q 6), .ref (q 11), .int (nI n), .int (bI (st))]))]) hC hRm hDis hLis 0 rfl rfl gX3_isAxiom_X3_isClass ⟨rfl, by decide +kernel, by decide +kernel⟩ rfl ⟨by decide, by decide⟩ ⟨by decide, by decide⟩ rfl (Nat.le_of_ble_eq_true rfl) (by decide +kernel) (c_X3_isClass _ _ cI cJ cZ (q) (n) (st) (c0) ) [0] [] [0] [] rfl (by decide) rfl (by decide) (by decide) [(q 0, .inr (4, [.ref (q 1), .ref (q 6), .ref (q 11), .int (nI n), .int (bI (st))]))] rfl (by decide) rfl dX3_isAxiom_85 ?_
        refine z_bif_eq (pc := 88) (tgt := 95) hC dX3_isAxiom_88 (by decide) (fun h88 => ?_) (fun h88 => ?_)
        · refine z_iconst (pc := 95) (v := (nI 0)) hC dX3_isAxiom_95 (by decide +kernel) ?_
          exact z_iret (pc := 96) hC hQ hRT (by decide +kernel) (by first | exact bI_f (by rw [isAx_2 e1_2, h71]; rfl) | exact bI_f (by rw [isAx_2 e1_2, h71, h79]; rfl) | exact bI_f (by rw [isAx_2 e1_2, h71, h79, h88]; rfl) | exact bI_t (by rw [isAx_2 e1_2, h71, h79, h88]; rfl)) (rfl) dX3_isAxiom_96
        · refine z_iconst (pc := 91) (v := (nI 1)) hC dX3_isAxiom_91 (by decide +kernel) ?_
          refine z_goto (pc := 92) (tgt := 96) hC dX3_isAxiom_92 (by decide) ?_
          exact z_iret (pc := 96) hC hQ hRT (by decide +kernel) (by first | exact bI_f (by rw [isAx_2 e1_2, h71]; rfl) | exact bI_f (by rw [isAx_2 e1_2, h71, h79]; rfl) | exact bI_f (by rw [isAx_2 e1_2, h71, h79, h88]; rfl) | exact bI_t (by rw [isAx_2 e1_2, h71, h79, h88]; rfl)) (rfl) dX3_isAxiom_96
  by_cases e1_3 : k0 = nI 3
  · refine z_tableIn (pc := 1) (x := k0) (off := 96) (tgt := 97) hC dX3_isAxiom_1 (by rw [e1_3]; decide +kernel) (by rw [e1_3]; decide +kernel) (by rw [e1_3]; decide +kernel) (by decide) ?_
    refine z_aload_n (pc := 97) hC 0 dX3_isAxiom_97 rfl ?_
    refine z_iload_n (pc := 98) hC 2 dX3_isAxiom_98 rfl ?_
    refine z_callV_I (pc := 99) (y := yX3_isClass) (wy := wsX3_isClass) (rm := { frames := 0, cells := 0, slots := 0, locals := 0 }) (As := [.int a0]) (rest := []) (na := 1) (C := RX3) (T := TX3) (NF := 5) (ci := 4) (wc := [(q 0, .inr (4, [.ref (q 1), .ref (q 6), .ref (q 11), .int (nI n), .int (bI (st))]))]) (wc2 := [(q 0, .inr (4, [.ref (q 1), .ref (q 6), .ref (q 11), .int (nI n), .int (bI (st))]))]) hC hRm hDis hLis 0 rfl rfl gX3_isAxiom_X3_isClass ⟨rfl, by decide +kernel, by decide +kernel⟩ rfl ⟨by decide, by decide⟩ ⟨by decide, by decide⟩ rfl (Nat.le_of_ble_eq_true rfl) (by decide +kernel) (c_X3_isClass _ _ cI cJ cZ (q) (n) (st) (a0) ) [0] [] [0] [] rfl (by decide) rfl (by decide) (by decide) [(q 0, .inr (4, [.ref (q 1), .ref (q 6), .ref (q 11), .int (nI n), .int (bI (st))]))] rfl (by decide) rfl dX3_isAxiom_99 ?_
    refine z_bif_eq (pc := 102) (tgt := 125) hC dX3_isAxiom_102 (by decide) (fun h102 => ?_) (fun h102 => ?_)
    · refine z_iconst (pc := 125) (v := (nI 0)) hC dX3_isAxiom_125 (by decide +kernel) ?_
      exact z_iret (pc := 126) hC hQ hRT (by decide +kernel) (by first | exact bI_f (by rw [isAx_3 e1_3, h102]; rfl) | exact bI_f (by rw [isAx_3 e1_3, h102, h109]; rfl) | exact bI_f (by rw [isAx_3 e1_3, h102, h109, h118]; rfl) | exact bI_t (by rw [isAx_3 e1_3, h102, h109, h118]; rfl)) (rfl) dX3_isAxiom_126
    · refine z_iload_n (pc := 105) hC 3 dX3_isAxiom_105 rfl ?_
      refine z_callS_I (pc := 106) (y := yX3_isRole) (wy := wsX3_isRole) (rm := { frames := 0, cells := 0, slots := 0, locals := 0 }) (As := [.int b0]) (rest := []) (na := 1)  (wc := []) (wc2 := []) hC hRm hDis hLis gX3_isAxiom_X3_isRole ⟨by decide +kernel, by decide +kernel⟩ rfl ⟨by decide, by decide⟩ ⟨by decide, by decide⟩ rfl (Nat.le_of_ble_eq_true rfl) (by decide +kernel) (c_X3_isRole _ _ cI cJ cZ (b0) ) [] [0] [0] [(q 0, .inr (4, [.ref (q 1), .ref (q 6), .ref (q 11), .int (nI n), .int (bI (st))]))] rfl (by decide) rfl (by decide) (by decide) [(q 0, .inr (4, [.ref (q 1), .ref (q 6), .ref (q 11), .int (nI n), .int (bI (st))]))] rfl (by decide) rfl dX3_isAxiom_106 ?_
      refine z_bif_eq (pc := 109) (tgt := 125) hC dX3_isAxiom_109 (by decide) (fun h109 => ?_) (fun h109 => ?_)
      · refine z_iconst (pc := 125) (v := (nI 0)) hC dX3_isAxiom_125 (by decide +kernel) ?_
        exact z_iret (pc := 126) hC hQ hRT (by decide +kernel) (by first | exact bI_f (by rw [isAx_3 e1_3, h102]; rfl) | exact bI_f (by rw [isAx_3 e1_3, h102, h109]; rfl) | exact bI_f (by rw [isAx_3 e1_3, h102, h109, h118]; rfl) | exact bI_t (by rw [isAx_3 e1_3, h102, h109, h118]; rfl)) (rfl) dX3_isAxiom_126
      · refine z_aload_n (pc := 112) hC 0 dX3_isAxiom_112 rfl ?_
        refine z_iload (pc := 113) hC 4 dX3_isAxiom_113 rfl ?_
        refine z_callV_I (pc := 115) (y := yX3_isClass) (wy := wsX3_isClass) (rm := { frames := 0, cells := 0, slots := 0, locals := 0 }) (As := [.int c0]) (rest := []) (na := 1) (C := RX3) (T := TX3) (NF := 5) (ci := 4) (wc := [(q 0, .inr (4, [.ref (q 1), .ref (q 6), .ref (q 11), .int (nI n), .int (bI (st))]))]) (wc2 := [(q 0, .inr (4, [.ref (q 1), .ref (q 6), .ref (q 11), .int (nI n), .int (bI (st))]))]) hC hRm hDis hLis 0 rfl rfl gX3_isAxiom_X3_isClass ⟨rfl, by decide +kernel, by decide +kernel⟩ rfl ⟨by decide, by decide⟩ ⟨by decide, by decide⟩ rfl (Nat.le_of_ble_eq_true rfl) (by decide +kernel) (c_X3_isClass _ _ cI cJ cZ (q) (n) (st) (c0) ) [0] [] [0] [] rfl (by decide) rfl (by decide) (by decide) [(q 0, .inr (4, [.ref (q 1), .ref (q 6), .ref (q 11), .int (nI n), .int (bI (st))]))] rfl (by decide) rfl dX3_isAxiom_115 ?_
        refine z_bif_eq (pc := 118) (tgt := 125) hC dX3_isAxiom_118 (by decide) (fun h118 => ?_) (fun h118 => ?_)
        · refine z_iconst (pc := 125) (v := (nI 0)) hC dX3_isAxiom_125 (by decide +kernel) ?_
          exact z_iret (pc := 126) hC hQ hRT (by decide +kernel) (by first | exact bI_f (by rw [isAx_3 e1_3, h102]; rfl) | exact bI_f (by rw [isAx_3 e1_3, h102, h109]; rfl) | exact bI_f (by rw [isAx_3 e1_3, h102, h109, h118]; rfl) | exact bI_t (by rw [isAx_3 e1_3, h102, h109, h118]; rfl)) (rfl) dX3_isAxiom_126
        · refine z_iconst (pc := 121) (v := (nI 1)) hC dX3_isAxiom_121 (by decide +kernel) ?_
          refine z_goto (pc := 122) (tgt := 126) hC dX3_isAxiom_122 (by decide) ?_
          exact z_iret (pc := 126) hC hQ hRT (by decide +kernel) (by first | exact bI_f (by rw [isAx_3 e1_3, h102]; rfl) | exact bI_f (by rw [isAx_3 e1_3, h102, h109]; rfl) | exact bI_f (by rw [isAx_3 e1_3, h102, h109, h118]; rfl) | exact bI_t (by rw [isAx_3 e1_3, h102, h109, h118]; rfl)) (rfl) dX3_isAxiom_126
  by_cases e1_4 : k0 = nI 4
  · refine z_tableIn (pc := 1) (x := k0) (off := 126) (tgt := 127) hC dX3_isAxiom_1 (by rw [e1_4]; decide +kernel) (by rw [e1_4]; decide +kernel) (by rw [e1_4]; decide +kernel) (by decide) ?_
    refine z_iload_n (pc := 127) hC 2 dX3_isAxiom_127 rfl ?_
    refine z_callS_I (pc := 128) (y := yX3_isRole) (wy := wsX3_isRole) (rm := { frames := 0, cells := 0, slots := 0, locals := 0 }) (As := [.int a0]) (rest := []) (na := 1)  (wc := []) (wc2 := []) hC hRm hDis hLis gX3_isAxiom_X3_isRole ⟨by decide +kernel, by decide +kernel⟩ rfl ⟨by decide, by decide⟩ ⟨by decide, by decide⟩ rfl (Nat.le_of_ble_eq_true rfl) (by decide +kernel) (c_X3_isRole _ _ cI cJ cZ (a0) ) [] [0] [0] [(q 0, .inr (4, [.ref (q 1), .ref (q 6), .ref (q 11), .int (nI n), .int (bI (st))]))] rfl (by decide) rfl (by decide) (by decide) [(q 0, .inr (4, [.ref (q 1), .ref (q 6), .ref (q 11), .int (nI n), .int (bI (st))]))] rfl (by decide) rfl dX3_isAxiom_128 ?_
    refine z_bif_eq (pc := 131) (tgt := 155) hC dX3_isAxiom_131 (by decide) (fun h131 => ?_) (fun h131 => ?_)
    · refine z_iconst (pc := 155) (v := (nI 0)) hC dX3_isAxiom_155 (by decide +kernel) ?_
      exact z_iret (pc := 156) hC hQ hRT (by decide +kernel) (by first | exact bI_f (by rw [isAx_4 e1_4, h131]; rfl) | exact bI_f (by rw [isAx_4 e1_4, h131, h139]; rfl) | exact bI_f (by rw [isAx_4 e1_4, h131, h139, h148]; rfl) | exact bI_t (by rw [isAx_4 e1_4, h131, h139, h148]; rfl)) (rfl) dX3_isAxiom_156
    · refine z_aload_n (pc := 134) hC 0 dX3_isAxiom_134 rfl ?_
      refine z_iload_n (pc := 135) hC 3 dX3_isAxiom_135 rfl ?_
      refine z_callV_I (pc := 136) (y := yX3_isClass) (wy := wsX3_isClass) (rm := { frames := 0, cells := 0, slots := 0, locals := 0 }) (As := [.int b0]) (rest := []) (na := 1) (C := RX3) (T := TX3) (NF := 5) (ci := 4) (wc := [(q 0, .inr (4, [.ref (q 1), .ref (q 6), .ref (q 11), .int (nI n), .int (bI (st))]))]) (wc2 := [(q 0, .inr (4, [.ref (q 1), .ref (q 6), .ref (q 11), .int (nI n), .int (bI (st))]))]) hC hRm hDis hLis 0 rfl rfl gX3_isAxiom_X3_isClass ⟨rfl, by decide +kernel, by decide +kernel⟩ rfl ⟨by decide, by decide⟩ ⟨by decide, by decide⟩ rfl (Nat.le_of_ble_eq_true rfl) (by decide +kernel) (c_X3_isClass _ _ cI cJ cZ (q) (n) (st) (b0) ) [0] [] [0] [] rfl (by decide) rfl (by decide) (by decide) [(q 0, .inr (4, [.ref (q 1), .ref (q 6), .ref (q 11), .int (nI n), .int (bI (st))]))] rfl (by decide) rfl dX3_isAxiom_136 ?_
      refine z_bif_eq (pc := 139) (tgt := 155) hC dX3_isAxiom_139 (by decide) (fun h139 => ?_) (fun h139 => ?_)
      · refine z_iconst (pc := 155) (v := (nI 0)) hC dX3_isAxiom_155 (by decide +kernel) ?_
        exact z_iret (pc := 156) hC hQ hRT (by decide +kernel) (by first | exact bI_f (by rw [isAx_4 e1_4, h131]; rfl) | exact bI_f (by rw [isAx_4 e1_4, h131, h139]; rfl) | exact bI_f (by rw [isAx_4 e1_4, h131, h139, h148]; rfl) | exact bI_t (by rw [isAx_4 e1_4, h131, h139, h148]; rfl)) (rfl) dX3_isAxiom_156
      · refine z_aload_n (pc := 142) hC 0 dX3_isAxiom_142 rfl ?_
        refine z_iload (pc := 143) hC 4 dX3_isAxiom_143 rfl ?_
        refine z_callV_I (pc := 145) (y := yX3_isClass) (wy := wsX3_isClass) (rm := { frames := 0, cells := 0, slots := 0, locals := 0 }) (As := [.int c0]) (rest := []) (na := 1) (C := RX3) (T := TX3) (NF := 5) (ci := 4) (wc := [(q 0, .inr (4, [.ref (q 1), .ref (q 6), .ref (q 11), .int (nI n), .int (bI (st))]))]) (wc2 := [(q 0, .inr (4, [.ref (q 1), .ref (q 6), .ref (q 11), .int (nI n), .int (bI (st))]))]) hC hRm hDis hLis 0 rfl rfl gX3_isAxiom_X3_isClass ⟨rfl, by decide +kernel, by decide +kernel⟩ rfl ⟨by decide, by decide⟩ ⟨by decide, by decide⟩ rfl (Nat.le_of_ble_eq_true rfl) (by decide +kernel) (c_X3_isClass _ _ cI cJ cZ (q) (n) (st) (c0) ) [0] [] [0] [] rfl (by decide) rfl (by decide) (by decide) [(q 0, .inr (4, [.ref (q 1), .ref (q 6), .ref (q 11), .int (nI n), .int (bI (st))]))] rfl (by decide) rfl dX3_isAxiom_145 ?_
        refine z_bif_eq (pc := 148) (tgt := 155) hC dX3_isAxiom_148 (by decide) (fun h148 => ?_) (fun h148 => ?_)
        · refine z_iconst (pc := 155) (v := (nI 0)) hC dX3_isAxiom_155 (by decide +kernel) ?_
          exact z_iret (pc := 156) hC hQ hRT (by decide +kernel) (by first | exact bI_f (by rw [isAx_4 e1_4, h131]; rfl) | exact bI_f (by rw [isAx_4 e1_4, h131, h139]; rfl) | exact bI_f (by rw [isAx_4 e1_4, h131, h139, h148]; rfl) | exact bI_t (by rw [isAx_4 e1_4, h131, h139, h148]; rfl)) (rfl) dX3_isAxiom_156
        · refine z_iconst (pc := 151) (v := (nI 1)) hC dX3_isAxiom_151 (by decide +kernel) ?_
          refine z_goto (pc := 152) (tgt := 156) hC dX3_isAxiom_152 (by decide) ?_
          exact z_iret (pc := 156) hC hQ hRT (by decide +kernel) (by first | exact bI_f (by rw [isAx_4 e1_4, h131]; rfl) | exact bI_f (by rw [isAx_4 e1_4, h131, h139]; rfl) | exact bI_f (by rw [isAx_4 e1_4, h131, h139, h148]; rfl) | exact bI_t (by rw [isAx_4 e1_4, h131, h139, h148]; rfl)) (rfl) dX3_isAxiom_156
  by_cases e1_5 : k0 = nI 5
  · refine z_tableIn (pc := 1) (x := k0) (off := 156) (tgt := 157) hC dX3_isAxiom_1 (by rw [e1_5]; decide +kernel) (by rw [e1_5]; decide +kernel) (by rw [e1_5]; decide +kernel) (by decide) ?_
    refine z_iload_n (pc := 157) hC 2 dX3_isAxiom_157 rfl ?_
    refine z_callS_I (pc := 158) (y := yX3_isRole) (wy := wsX3_isRole) (rm := { frames := 0, cells := 0, slots := 0, locals := 0 }) (As := [.int a0]) (rest := []) (na := 1)  (wc := []) (wc2 := []) hC hRm hDis hLis gX3_isAxiom_X3_isRole ⟨by decide +kernel, by decide +kernel⟩ rfl ⟨by decide, by decide⟩ ⟨by decide, by decide⟩ rfl (Nat.le_of_ble_eq_true rfl) (by decide +kernel) (c_X3_isRole _ _ cI cJ cZ (a0) ) [] [0] [0] [(q 0, .inr (4, [.ref (q 1), .ref (q 6), .ref (q 11), .int (nI n), .int (bI (st))]))] rfl (by decide) rfl (by decide) (by decide) [(q 0, .inr (4, [.ref (q 1), .ref (q 6), .ref (q 11), .int (nI n), .int (bI (st))]))] rfl (by decide) rfl dX3_isAxiom_158 ?_
    refine z_bif_eq (pc := 161) (tgt := 175) hC dX3_isAxiom_161 (by decide) (fun h161 => ?_) (fun h161 => ?_)
    · refine z_iconst (pc := 175) (v := (nI 0)) hC dX3_isAxiom_175 (by decide +kernel) ?_
      exact z_iret (pc := 176) hC hQ hRT (by decide +kernel) (by first | exact bI_f (by rw [isAx_5 e1_5, h161]; rfl) | exact bI_f (by rw [isAx_5 e1_5, h161, h168]; rfl) | exact bI_t (by rw [isAx_5 e1_5, h161, h168]; rfl)) (rfl) dX3_isAxiom_176
    · refine z_iload_n (pc := 164) hC 3 dX3_isAxiom_164 rfl ?_
      refine z_callS_I (pc := 165) (y := yX3_isRole) (wy := wsX3_isRole) (rm := { frames := 0, cells := 0, slots := 0, locals := 0 }) (As := [.int b0]) (rest := []) (na := 1)  (wc := []) (wc2 := []) hC hRm hDis hLis gX3_isAxiom_X3_isRole ⟨by decide +kernel, by decide +kernel⟩ rfl ⟨by decide, by decide⟩ ⟨by decide, by decide⟩ rfl (Nat.le_of_ble_eq_true rfl) (by decide +kernel) (c_X3_isRole _ _ cI cJ cZ (b0) ) [] [0] [0] [(q 0, .inr (4, [.ref (q 1), .ref (q 6), .ref (q 11), .int (nI n), .int (bI (st))]))] rfl (by decide) rfl (by decide) (by decide) [(q 0, .inr (4, [.ref (q 1), .ref (q 6), .ref (q 11), .int (nI n), .int (bI (st))]))] rfl (by decide) rfl dX3_isAxiom_165 ?_
      refine z_bif_eq (pc := 168) (tgt := 175) hC dX3_isAxiom_168 (by decide) (fun h168 => ?_) (fun h168 => ?_)
      · refine z_iconst (pc := 175) (v := (nI 0)) hC dX3_isAxiom_175 (by decide +kernel) ?_
        exact z_iret (pc := 176) hC hQ hRT (by decide +kernel) (by first | exact bI_f (by rw [isAx_5 e1_5, h161]; rfl) | exact bI_f (by rw [isAx_5 e1_5, h161, h168]; rfl) | exact bI_t (by rw [isAx_5 e1_5, h161, h168]; rfl)) (rfl) dX3_isAxiom_176
      · refine z_iconst (pc := 171) (v := (nI 1)) hC dX3_isAxiom_171 (by decide +kernel) ?_
        refine z_goto (pc := 172) (tgt := 176) hC dX3_isAxiom_172 (by decide) ?_
        exact z_iret (pc := 176) hC hQ hRT (by decide +kernel) (by first | exact bI_f (by rw [isAx_5 e1_5, h161]; rfl) | exact bI_f (by rw [isAx_5 e1_5, h161, h168]; rfl) | exact bI_t (by rw [isAx_5 e1_5, h161, h168]; rfl)) (rfl) dX3_isAxiom_176
  by_cases e1_6 : k0 = nI 6
  · refine z_tableIn (pc := 1) (x := k0) (off := 176) (tgt := 177) hC dX3_isAxiom_1 (by rw [e1_6]; decide +kernel) (by rw [e1_6]; decide +kernel) (by rw [e1_6]; decide +kernel) (by decide) ?_
    refine z_iload_n (pc := 177) hC 2 dX3_isAxiom_177 rfl ?_
    refine z_callS_I (pc := 178) (y := yX3_isRole) (wy := wsX3_isRole) (rm := { frames := 0, cells := 0, slots := 0, locals := 0 }) (As := [.int a0]) (rest := []) (na := 1)  (wc := []) (wc2 := []) hC hRm hDis hLis gX3_isAxiom_X3_isRole ⟨by decide +kernel, by decide +kernel⟩ rfl ⟨by decide, by decide⟩ ⟨by decide, by decide⟩ rfl (Nat.le_of_ble_eq_true rfl) (by decide +kernel) (c_X3_isRole _ _ cI cJ cZ (a0) ) [] [0] [0] [(q 0, .inr (4, [.ref (q 1), .ref (q 6), .ref (q 11), .int (nI n), .int (bI (st))]))] rfl (by decide) rfl (by decide) (by decide) [(q 0, .inr (4, [.ref (q 1), .ref (q 6), .ref (q 11), .int (nI n), .int (bI (st))]))] rfl (by decide) rfl dX3_isAxiom_178 ?_
    refine z_bif_eq (pc := 181) (tgt := 203) hC dX3_isAxiom_181 (by decide) (fun h181 => ?_) (fun h181 => ?_)
    · refine z_iconst (pc := 203) (v := (nI 0)) hC dX3_isAxiom_203 (by decide +kernel) ?_
      exact z_iret (pc := 204) hC hQ hRT (by decide +kernel) (by first | exact bI_f (by rw [isAx_6 e1_6, h181]; rfl) | exact bI_f (by rw [isAx_6 e1_6, h181, h188]; rfl) | exact bI_f (by rw [isAx_6 e1_6, h181, h188, h196]; rfl) | exact bI_t (by rw [isAx_6 e1_6, h181, h188, h196]; rfl)) (rfl) dX3_isAxiom_204
    · refine z_iload_n (pc := 184) hC 3 dX3_isAxiom_184 rfl ?_
      refine z_callS_I (pc := 185) (y := yX3_isRole) (wy := wsX3_isRole) (rm := { frames := 0, cells := 0, slots := 0, locals := 0 }) (As := [.int b0]) (rest := []) (na := 1)  (wc := []) (wc2 := []) hC hRm hDis hLis gX3_isAxiom_X3_isRole ⟨by decide +kernel, by decide +kernel⟩ rfl ⟨by decide, by decide⟩ ⟨by decide, by decide⟩ rfl (Nat.le_of_ble_eq_true rfl) (by decide +kernel) (c_X3_isRole _ _ cI cJ cZ (b0) ) [] [0] [0] [(q 0, .inr (4, [.ref (q 1), .ref (q 6), .ref (q 11), .int (nI n), .int (bI (st))]))] rfl (by decide) rfl (by decide) (by decide) [(q 0, .inr (4, [.ref (q 1), .ref (q 6), .ref (q 11), .int (nI n), .int (bI (st))]))] rfl (by decide) rfl dX3_isAxiom_185 ?_
      refine z_bif_eq (pc := 188) (tgt := 203) hC dX3_isAxiom_188 (by decide) (fun h188 => ?_) (fun h188 => ?_)
      · refine z_iconst (pc := 203) (v := (nI 0)) hC dX3_isAxiom_203 (by decide +kernel) ?_
        exact z_iret (pc := 204) hC hQ hRT (by decide +kernel) (by first | exact bI_f (by rw [isAx_6 e1_6, h181]; rfl) | exact bI_f (by rw [isAx_6 e1_6, h181, h188]; rfl) | exact bI_f (by rw [isAx_6 e1_6, h181, h188, h196]; rfl) | exact bI_t (by rw [isAx_6 e1_6, h181, h188, h196]; rfl)) (rfl) dX3_isAxiom_204
      · refine z_iload (pc := 191) hC 4 dX3_isAxiom_191 rfl ?_
        refine z_callS_I (pc := 193) (y := yX3_isRole) (wy := wsX3_isRole) (rm := { frames := 0, cells := 0, slots := 0, locals := 0 }) (As := [.int c0]) (rest := []) (na := 1)  (wc := []) (wc2 := []) hC hRm hDis hLis gX3_isAxiom_X3_isRole ⟨by decide +kernel, by decide +kernel⟩ rfl ⟨by decide, by decide⟩ ⟨by decide, by decide⟩ rfl (Nat.le_of_ble_eq_true rfl) (by decide +kernel) (c_X3_isRole _ _ cI cJ cZ (c0) ) [] [0] [0] [(q 0, .inr (4, [.ref (q 1), .ref (q 6), .ref (q 11), .int (nI n), .int (bI (st))]))] rfl (by decide) rfl (by decide) (by decide) [(q 0, .inr (4, [.ref (q 1), .ref (q 6), .ref (q 11), .int (nI n), .int (bI (st))]))] rfl (by decide) rfl dX3_isAxiom_193 ?_
        refine z_bif_eq (pc := 196) (tgt := 203) hC dX3_isAxiom_196 (by decide) (fun h196 => ?_) (fun h196 => ?_)
        · refine z_iconst (pc := 203) (v := (nI 0)) hC dX3_isAxiom_203 (by decide +kernel) ?_
          exact z_iret (pc := 204) hC hQ hRT (by decide +kernel) (by first | exact bI_f (by rw [isAx_6 e1_6, h181]; rfl) | exact bI_f (by rw [isAx_6 e1_6, h181, h188]; rfl) | exact bI_f (by rw [isAx_6 e1_6, h181, h188, h196]; rfl) | exact bI_t (by rw [isAx_6 e1_6, h181, h188, h196]; rfl)) (rfl) dX3_isAxiom_204
        · refine z_iconst (pc := 199) (v := (nI 1)) hC dX3_isAxiom_199 (by decide +kernel) ?_
          refine z_goto (pc := 200) (tgt := 204) hC dX3_isAxiom_200 (by decide) ?_
          exact z_iret (pc := 204) hC hQ hRT (by decide +kernel) (by first | exact bI_f (by rw [isAx_6 e1_6, h181]; rfl) | exact bI_f (by rw [isAx_6 e1_6, h181, h188]; rfl) | exact bI_f (by rw [isAx_6 e1_6, h181, h188, h196]; rfl) | exact bI_t (by rw [isAx_6 e1_6, h181, h188, h196]; rfl)) (rfl) dX3_isAxiom_204
  by_cases e1_7 : k0 = nI 7
  · refine z_tableIn (pc := 1) (x := k0) (off := 204) (tgt := 205) hC dX3_isAxiom_1 (by rw [e1_7]; decide +kernel) (by rw [e1_7]; decide +kernel) (by rw [e1_7]; decide +kernel) (by decide) ?_
    refine z_iload_n (pc := 205) hC 2 dX3_isAxiom_205 rfl ?_
    refine z_callS_I (pc := 206) (y := yX3_isRole) (wy := wsX3_isRole) (rm := { frames := 0, cells := 0, slots := 0, locals := 0 }) (As := [.int a0]) (rest := []) (na := 1)  (wc := []) (wc2 := []) hC hRm hDis hLis gX3_isAxiom_X3_isRole ⟨by decide +kernel, by decide +kernel⟩ rfl ⟨by decide, by decide⟩ ⟨by decide, by decide⟩ rfl (Nat.le_of_ble_eq_true rfl) (by decide +kernel) (c_X3_isRole _ _ cI cJ cZ (a0) ) [] [0] [0] [(q 0, .inr (4, [.ref (q 1), .ref (q 6), .ref (q 11), .int (nI n), .int (bI (st))]))] rfl (by decide) rfl (by decide) (by decide) [(q 0, .inr (4, [.ref (q 1), .ref (q 6), .ref (q 11), .int (nI n), .int (bI (st))]))] rfl (by decide) rfl dX3_isAxiom_206 ?_
    exact z_iret (pc := 209) hC hQ hRT (nar_b _) (by rw [isAx_7 e1_7]) (rfl) dX3_isAxiom_209
  refine z_tableOut (pc := 1) (x := k0) (tgt := 210) hC dX3_isAxiom_1 (by have q0 := sw_ne e1_1 (by decide); have q1 := sw_ne e1_2 (by decide); have q2 := sw_ne e1_3 (by decide); have q3 := sw_ne e1_4 (by decide); have q4 := sw_ne e1_5 (by decide); have q5 := sw_ne e1_6 (by decide); have q6 := sw_ne e1_7 (by decide); omega) (by decide) ?_
  refine z_iconst (pc := 210) (v := (nI 0)) hC dX3_isAxiom_210 (by decide +kernel) ?_
  exact z_iret (pc := 211) hC hQ hRT (by decide +kernel) (bI_f (isAx_n e1_1 e1_2 e1_3 e1_4 e1_5 e1_6 e1_7)) (rfl) dX3_isAxiom_211

set_option maxRecDepth 100000 in
set_option maxHeartbeats 4000000 in
theorem c_X3_closed (l : Launch) (D : va_G) (cI cJ cZ : ClassId) (q : Nat → Nat) (n : Nat) (Kd : Nat → Int32) (Aa : Nat → Int32) (Ab : Nat → Int32) (Ac : Nat → Int32) (cnt : Nat) (s : CSt) (hn : n ≤ 24) (hcnt : cnt ≤ 80) (hax : ∀ k, k < cnt → axV n (Kd k) (Aa k) (Ab k) (Ac k)) : MA l yX3_closed wsX3_closed { frames := 5, cells := 0, slots := 0, locals := 127 } D (tyL cI cJ cZ) [.ref (q 0)] [(q 0, .inr (4, [.ref (q 1), .ref (q 6), .ref (q 11), .int (nI n), .int (bI (s.2.2))])), (q 1, .inr (1, [.ref (q 2), .ref (q 3), .ref (q 4), .ref (q 5), .int (nI cnt)])), (q 2, .inl (cI, 80, .inl Kd)), (q 3, .inl (cI, 80, .inl Aa)), (q 4, .inl (cI, 80, .inl Ab)), (q 5, .inl (cI, 80, .inl Ac)), (q 6, .inr (2, [.ref (q 7), .ref (q 8), .ref (q 9), .ref (q 10), .int (nI (s.2.1)), .int (nI ((s.1).2.2.1.2)), .int (nI ((s.1).2.2.2)), .int ((s.1).1.2.2)])), (q 7, .inl (cI, 168, .inl ((s.1).2.1))), (q 8, .inl (cI, 168, .inl ((s.1).1.1))), (q 9, .inl (cJ, 4032, .inr (.inl ((s.1).1.2.1)))), (q 10, .inl (cI, 4032, .inl ((s.1).2.2.1.1)))] [(q 0, .inr (4, [.ref (q 1), .ref (q 6), .ref (q 11), .int (nI n), .int (bI ((cloT n cnt Kd Aa Ab Ac s).2.2))])), (q 1, .inr (1, [.ref (q 2), .ref (q 3), .ref (q 4), .ref (q 5), .int (nI cnt)])), (q 2, .inl (cI, 80, .inl Kd)), (q 3, .inl (cI, 80, .inl Aa)), (q 4, .inl (cI, 80, .inl Ab)), (q 5, .inl (cI, 80, .inl Ac)), (q 6, .inr (2, [.ref (q 7), .ref (q 8), .ref (q 9), .ref (q 10), .int (nI ((cloT n cnt Kd Aa Ab Ac s).2.1)), .int (nI (((cloT n cnt Kd Aa Ab Ac s).1).2.2.1.2)), .int (nI (((cloT n cnt Kd Aa Ab Ac s).1).2.2.2)), .int (((cloT n cnt Kd Aa Ab Ac s).1).1.2.2)])), (q 7, .inl (cI, 168, .inl (((cloT n cnt Kd Aa Ab Ac s).1).2.1))), (q 8, .inl (cI, 168, .inl (((cloT n cnt Kd Aa Ab Ac s).1).1.1))), (q 9, .inl (cJ, 4032, .inr (.inl (((cloT n cnt Kd Aa Ab Ac s).1).1.2.1)))), (q 10, .inl (cI, 4032, .inl (((cloT n cnt Kd Aa Ab Ac s).1).2.2.1.1)))] (q 6) := by
  refine metA_of (cc := cX3_closed) (maxL := 1) (ret := (some (.object "ElCompletion$Closure"))) (by decide +kernel) rfl (Nat.le_of_ble_eq_true rfl) ?_
  intro K hC hRm hNL hDis hLis hRT hIni hQ
  have hinX3 : ∀ w ∈ wsX30, w ∈ wsX3_closed := by decide +kernel
  refine z_aload_n (pc := 0) hC 0 dX3_closed_0 rfl ?_
  refine z_get (pc := 1) (C := RX3) (T := TX3) (N := 5) hC hinX3 0 rfl rfl 4 (by decide) (by decide +kernel) rfl dX3_closed_1 ?_
  refine z_bif_eq (pc := 4) (tgt := 27) hC dX3_closed_4 (by decide) (fun h4 => ?_) (fun h4 => ?_)
  · refine z_aload_n (pc := 27) hC 0 dX3_closed_27 rfl ?_
    refine z_get (pc := 28) (C := RX3) (T := TX3) (N := 5) hC hinX3 0 rfl rfl 1 (by decide) (by decide +kernel) rfl dX3_closed_28 ?_
    exact z_aret (pc := 31) hC hQ hRT (Or.inl ⟨_, rfl⟩) (rfl) (by first | rw [cloT_f h4] | (rw [cloT_t h4]; rfl)) dX3_closed_31
  · refine z_aload_n (pc := 7) hC 0 dX3_closed_7 rfl ?_
    refine z_get (pc := 8) (C := RX3) (T := TX3) (N := 5) hC hinX3 0 rfl rfl 1 (by decide) (by decide +kernel) rfl dX3_closed_8 ?_
    refine z_aload_n (pc := 11) hC 0 dX3_closed_11 rfl ?_
    refine z_get (pc := 12) (C := RX3) (T := TX3) (N := 5) hC hinX3 0 rfl rfl 0 (by decide) (by decide +kernel) rfl dX3_closed_12 ?_
    refine z_aload_n (pc := 15) hC 0 dX3_closed_15 rfl ?_
    refine z_get (pc := 16) (C := RX3) (T := TX3) (N := 5) hC hinX3 0 rfl rfl 3 (by decide) (by decide +kernel) rfl dX3_closed_16 ?_
    refine z_callVN_V (pc := 19) (y := yX1_fill) (wy := wsX1_fill) (rm := { frames := 4, cells := 0, slots := 0, locals := 103 }) (As := [.ref (q 1), .int (nI n)]) (rest := []) (na := 2) (C := RX1) (T := TX1) (NF := 8) (ci := 2) (wc := [(q 6, .inr (2, [.ref (q 7), .ref (q 8), .ref (q 9), .ref (q 10), .int (nI (s.2.1)), .int (nI ((s.1).2.2.1.2)), .int (nI ((s.1).2.2.2)), .int ((s.1).1.2.2)])), (q 7, .inl (cI, 168, .inl ((s.1).2.1))), (q 8, .inl (cI, 168, .inl ((s.1).1.1))), (q 9, .inl (cJ, 4032, .inr (.inl ((s.1).1.2.1)))), (q 10, .inl (cI, 4032, .inl ((s.1).2.2.1.1))), (q 1, .inr (1, [.ref (q 2), .ref (q 3), .ref (q 4), .ref (q 5), .int (nI cnt)])), (q 2, .inl (cI, 80, .inl Kd)), (q 3, .inl (cI, 80, .inl Aa)), (q 4, .inl (cI, 80, .inl Ab)), (q 5, .inl (cI, 80, .inl Ac))]) (wc2 := [(q 6, .inr (2, [.ref (q 7), .ref (q 8), .ref (q 9), .ref (q 10), .int (nI n), .int (nI ((fillF n cnt Kd Aa Ab Ac ((s.1).2.2.1.1)).2.2.1.2)), .int (nI ((fillF n cnt Kd Aa Ab Ac ((s.1).2.2.1.1)).2.2.2)), .int ((fillF n cnt Kd Aa Ab Ac ((s.1).2.2.1.1)).1.2.2)])), (q 7, .inl (cI, 168, .inl ((fillF n cnt Kd Aa Ab Ac ((s.1).2.2.1.1)).2.1))), (q 8, .inl (cI, 168, .inl ((fillF n cnt Kd Aa Ab Ac ((s.1).2.2.1.1)).1.1))), (q 9, .inl (cJ, 4032, .inr (.inl ((fillF n cnt Kd Aa Ab Ac ((s.1).2.2.1.1)).1.2.1)))), (q 10, .inl (cI, 4032, .inl ((fillF n cnt Kd Aa Ab Ac ((s.1).2.2.1.1)).2.2.1.1))), (q 1, .inr (1, [.ref (q 2), .ref (q 3), .ref (q 4), .ref (q 5), .int (nI cnt)])), (q 2, .inl (cI, 80, .inl Kd)), (q 3, .inl (cI, 80, .inl Aa)), (q 4, .inl (cI, 80, .inl Ab)), (q 5, .inl (cI, 80, .inl Ac))]) hC hRm hDis hLis 0 rfl rfl gX3_closed_X1_fill_n121 (by decide +kernel) (by decide +kernel) (by decide +kernel) (by decide +kernel) ⟨by decide +kernel, by decide +kernel⟩ rfl ⟨by decide, by decide⟩ ⟨by decide, by decide⟩ rfl (Nat.le_of_ble_eq_true rfl) (by decide +kernel) (c_X1_fill _ _ cI cJ cZ (q) ((s.1).2.1) ((s.1).1.1) ((s.1).1.2.1) ((s.1).2.2.1.1) (nI (s.2.1)) (nI ((s.1).2.2.1.2)) (nI ((s.1).2.2.2)) ((s.1).1.2.2) (Kd) (Aa) (Ab) (Ac) (cnt) (n) (hn) (hcnt) (hax)) [6, 7, 8, 9, 10, 1, 2, 3, 4, 5] [0] [0, 6, 7, 8, 9, 10, 1, 2, 3, 4, 5] [(q 0, .inr (4, [.ref (q 1), .ref (q 6), .ref (q 11), .int (nI n), .int (bI (s.2.2))]))] rfl (by decide) rfl (by decide) (by decide) [(q 0, .inr (4, [.ref (q 1), .ref (q 6), .ref (q 11), .int (nI n), .int (bI (s.2.2))])), (q 1, .inr (1, [.ref (q 2), .ref (q 3), .ref (q 4), .ref (q 5), .int (nI cnt)])), (q 2, .inl (cI, 80, .inl Kd)), (q 3, .inl (cI, 80, .inl Aa)), (q 4, .inl (cI, 80, .inl Ab)), (q 5, .inl (cI, 80, .inl Ac)), (q 6, .inr (2, [.ref (q 7), .ref (q 8), .ref (q 9), .ref (q 10), .int (nI n), .int (nI ((fillF n cnt Kd Aa Ab Ac ((s.1).2.2.1.1)).2.2.1.2)), .int (nI ((fillF n cnt Kd Aa Ab Ac ((s.1).2.2.1.1)).2.2.2)), .int ((fillF n cnt Kd Aa Ab Ac ((s.1).2.2.1.1)).1.2.2)])), (q 7, .inl (cI, 168, .inl ((fillF n cnt Kd Aa Ab Ac ((s.1).2.2.1.1)).2.1))), (q 8, .inl (cI, 168, .inl ((fillF n cnt Kd Aa Ab Ac ((s.1).2.2.1.1)).1.1))), (q 9, .inl (cJ, 4032, .inr (.inl ((fillF n cnt Kd Aa Ab Ac ((s.1).2.2.1.1)).1.2.1)))), (q 10, .inl (cI, 4032, .inl ((fillF n cnt Kd Aa Ab Ac ((s.1).2.2.1.1)).2.2.1.1)))] rfl (by decide) rfl dX3_closed_19 ?_
    refine z_aload_n (pc := 22) hC 0 dX3_closed_22 rfl ?_
    refine z_iconst (pc := 23) (v := (nI 0)) hC dX3_closed_23 (by decide +kernel) ?_
    refine z_put (pc := 24) (C := RX3) (T := TX3) (N := 5) hC hinX3 0 rfl rfl 4 (by decide) tyX3 tyX3_ok nmX3 (by decide +kernel) rfl (by decide +kernel) (by decide +kernel) (Nat.le_of_ble_eq_true rfl) [(q 0, .inr (4, [.ref (q 1), .ref (q 6), .ref (q 11), .int (nI n), .int (nI 0)])), (q 1, .inr (1, [.ref (q 2), .ref (q 3), .ref (q 4), .ref (q 5), .int (nI cnt)])), (q 2, .inl (cI, 80, .inl Kd)), (q 3, .inl (cI, 80, .inl Aa)), (q 4, .inl (cI, 80, .inl Ab)), (q 5, .inl (cI, 80, .inl Ac)), (q 6, .inr (2, [.ref (q 7), .ref (q 8), .ref (q 9), .ref (q 10), .int (nI n), .int (nI ((fillF n cnt Kd Aa Ab Ac ((s.1).2.2.1.1)).2.2.1.2)), .int (nI ((fillF n cnt Kd Aa Ab Ac ((s.1).2.2.1.1)).2.2.2)), .int ((fillF n cnt Kd Aa Ab Ac ((s.1).2.2.1.1)).1.2.2)])), (q 7, .inl (cI, 168, .inl ((fillF n cnt Kd Aa Ab Ac ((s.1).2.2.1.1)).2.1))), (q 8, .inl (cI, 168, .inl ((fillF n cnt Kd Aa Ab Ac ((s.1).2.2.1.1)).1.1))), (q 9, .inl (cJ, 4032, .inr (.inl ((fillF n cnt Kd Aa Ab Ac ((s.1).2.2.1.1)).1.2.1)))), (q 10, .inl (cI, 4032, .inl ((fillF n cnt Kd Aa Ab Ac ((s.1).2.2.1.1)).2.2.1.1)))] rfl dX3_closed_24 ?_
    refine z_aload_n (pc := 27) hC 0 dX3_closed_27 rfl ?_
    refine z_get (pc := 28) (C := RX3) (T := TX3) (N := 5) hC hinX3 0 rfl rfl 1 (by decide) (by decide +kernel) rfl dX3_closed_28 ?_
    exact z_aret (pc := 31) hC hQ hRT (Or.inl ⟨_, rfl⟩) (rfl) (by first | rw [cloT_f h4] | (rw [cloT_t h4]; rfl)) dX3_closed_31

set_option maxRecDepth 100000 in
set_option maxHeartbeats 4000000 in
theorem c_X3_grow_ok (l : Launch) (D : va_G) (cI cJ cZ : ClassId) (q : Nat → Nat) (n : Nat) (st : Bool) (hn : n < 24) : MI l yX3_grow wsX3_grow { frames := 0, cells := 0, slots := 0, locals := 0 } D (tyL cI cJ cZ) [.ref (q 0)] [(q 0, .inr (4, [.ref (q 1), .ref (q 6), .ref (q 11), .int (nI n), .int (bI (st))]))] [(q 0, .inr (4, [.ref (q 1), .ref (q 6), .ref (q 11), .int (nI (n + 1)), .int (bI (true))]))] (nI n) := by
  refine metI_of (cc := cX3_grow) (maxL := 1) (ret := (some .int)) (by decide +kernel) rfl (Nat.le_of_ble_eq_true rfl) ?_
  intro K hC hRm hNL hDis hLis hRT hIni hQ
  have hinX3 : ∀ w ∈ wsX30, w ∈ wsX3_grow := by decide +kernel
  refine z_aload_n (pc := 0) hC 0 dX3_grow_0 rfl ?_
  refine z_get (pc := 1) (C := RX3) (T := TX3) (N := 5) hC hinX3 0 rfl rfl 3 (by decide) (by decide +kernel) rfl dX3_grow_1 ?_
  refine z_bipush (pc := 4) (v := (nI 24)) hC dX3_grow_4 (by decide +kernel) ?_
  refine z_ncmp_lt (pc := 6) (tgt := 12) hC dX3_grow_6 (by decide) (by omega) (by omega) (fun h6 => ?_) (fun h6 => absurd h6 (by omega))
  refine z_aload_n (pc := 12) hC 0 dX3_grow_12 rfl ?_
  refine z_iconst (pc := 13) (v := (nI 1)) hC dX3_grow_13 (by decide +kernel) ?_
  refine z_put (pc := 14) (C := RX3) (T := TX3) (N := 5) hC hinX3 0 rfl rfl 4 (by decide) tyX3 tyX3_ok nmX3 (by decide +kernel) rfl (by decide +kernel) (by decide +kernel) (Nat.le_of_ble_eq_true rfl) [(q 0, .inr (4, [.ref (q 1), .ref (q 6), .ref (q 11), .int (nI n), .int (nI 1)]))] rfl dX3_grow_14 ?_
  refine z_aload_n (pc := 17) hC 0 dX3_grow_17 rfl ?_
  refine z_dup (pc := 18) hC dX3_grow_18 rfl ?_
  refine z_get (pc := 19) (C := RX3) (T := TX3) (N := 5) hC hinX3 0 rfl rfl 3 (by decide) (by decide +kernel) rfl dX3_grow_19 ?_
  refine z_iconst (pc := 22) (v := (nI 1)) hC dX3_grow_22 (by decide +kernel) ?_
  refine z_iadd (pc := 23) (v := (nI (n + 1))) hC dX3_grow_23 (nI_add _ _) ?_
  refine z_put (pc := 24) (C := RX3) (T := TX3) (N := 5) hC hinX3 0 rfl rfl 3 (by decide) tyX3 tyX3_ok nmX3 (by decide +kernel) rfl (rfl) (rfl) (Nat.le_of_ble_eq_true rfl) [(q 0, .inr (4, [.ref (q 1), .ref (q 6), .ref (q 11), .int (nI (n + 1)), .int (nI 1)]))] rfl dX3_grow_24 ?_
  refine z_aload_n (pc := 27) hC 0 dX3_grow_27 rfl ?_
  refine z_get (pc := 28) (C := RX3) (T := TX3) (N := 5) hC hinX3 0 rfl rfl 3 (by decide) (by decide +kernel) rfl dX3_grow_28 ?_
  refine z_iconst (pc := 31) (v := (nI 1)) hC dX3_grow_31 (by decide +kernel) ?_
  refine z_isub (pc := 32) (v := (nI ((n + 1) - 1))) hC dX3_grow_32 (pk_sub (by omega)) ?_
  exact z_iret (pc := 33) hC hQ hRT (rfl) (by rw [Nat.add_sub_cancel]) (rfl) dX3_grow_33

set_option maxRecDepth 100000 in
set_option maxHeartbeats 4000000 in
theorem c_X3_grow_full (l : Launch) (D : va_G) (cI cJ cZ : ClassId) (q : Nat → Nat) (n : Nat) (st : Bool) (hn : n = 24) : MI l yX3_grow wsX3_grow { frames := 0, cells := 0, slots := 0, locals := 0 } D (tyL cI cJ cZ) [.ref (q 0)] [(q 0, .inr (4, [.ref (q 1), .ref (q 6), .ref (q 11), .int (nI n), .int (bI (st))]))] [(q 0, .inr (4, [.ref (q 1), .ref (q 6), .ref (q 11), .int (nI n), .int (bI (st))]))] (-2) := by
  refine metI_of (cc := cX3_grow) (maxL := 1) (ret := (some .int)) (by decide +kernel) rfl (Nat.le_of_ble_eq_true rfl) ?_
  intro K hC hRm hNL hDis hLis hRT hIni hQ
  have hinX3 : ∀ w ∈ wsX30, w ∈ wsX3_grow := by decide +kernel
  refine z_aload_n (pc := 0) hC 0 dX3_grow_0 rfl ?_
  refine z_get (pc := 1) (C := RX3) (T := TX3) (N := 5) hC hinX3 0 rfl rfl 3 (by decide) (by decide +kernel) rfl dX3_grow_1 ?_
  refine z_bipush (pc := 4) (v := (nI 24)) hC dX3_grow_4 (by decide +kernel) ?_
  refine z_ncmp_lt (pc := 6) (tgt := 12) hC dX3_grow_6 (by decide) (by omega) (by omega) (fun h6 => absurd h6 (by omega)) (fun h6 => ?_)
  refine z_bipush (pc := 9) (v := (-2)) hC dX3_grow_9 (by decide +kernel) ?_
  exact z_iret (pc := 11) hC hQ hRT (rfl) (rfl) (rfl) dX3_grow_11

set_option maxRecDepth 100000 in
set_option maxHeartbeats 4000000 in
theorem c_X3_axiom_bad (l : Launch) (D : va_G) (cI cJ cZ : ClassId) (q : Nat → Nat) (n : Nat) (st : Bool) (Kd : Nat → Int32) (Aa : Nat → Int32) (Ab : Nat → Int32) (Ac : Nat → Int32) (cnt : Nat) (k0 : Int32) (a0 : Int32) (b0 : Int32) (c0 : Int32) (hi : isAx n k0 a0 b0 c0 = false) : MI l yX3_axiom wsX3_axiom { frames := 2, cells := 0, slots := 0, locals := 45 } D (tyL cI cJ cZ) [.ref (q 0), .int k0, .int a0, .int b0, .int c0] [(q 0, .inr (4, [.ref (q 1), .ref (q 6), .ref (q 11), .int (nI n), .int (bI (st))])), (q 1, .inr (1, [.ref (q 2), .ref (q 3), .ref (q 4), .ref (q 5), .int (nI cnt)])), (q 2, .inl (cI, 80, .inl Kd)), (q 3, .inl (cI, 80, .inl Aa)), (q 4, .inl (cI, 80, .inl Ab)), (q 5, .inl (cI, 80, .inl Ac))] [(q 0, .inr (4, [.ref (q 1), .ref (q 6), .ref (q 11), .int (nI n), .int (bI (st))])), (q 1, .inr (1, [.ref (q 2), .ref (q 3), .ref (q 4), .ref (q 5), .int (nI cnt)])), (q 2, .inl (cI, 80, .inl Kd)), (q 3, .inl (cI, 80, .inl Aa)), (q 4, .inl (cI, 80, .inl Ab)), (q 5, .inl (cI, 80, .inl Ac))] (-1) := by
  refine metI_of (cc := cX3_axiom) (maxL := 5) (ret := (some .int)) (by decide +kernel) rfl (Nat.le_of_ble_eq_true rfl) ?_
  intro K hC hRm hNL hDis hLis hRT hIni hQ
  refine z_aload_n (pc := 0) hC 0 dX3_axiom_0 rfl ?_
  refine z_iload_n (pc := 1) hC 1 dX3_axiom_1 rfl ?_
  refine z_iload_n (pc := 2) hC 2 dX3_axiom_2 rfl ?_
  refine z_iload_n (pc := 3) hC 3 dX3_axiom_3 rfl ?_
  refine z_iload (pc := 4) hC 4 dX3_axiom_4 rfl ?_
  refine z_callV_I (pc := 6) (y := yX3_isAxiom) (wy := wsX3_isAxiom) (rm := { frames := 1, cells := 0, slots := 0, locals := 21 }) (As := [.int k0, .int a0, .int b0, .int c0]) (rest := []) (na := 4) (C := RX3) (T := TX3) (NF := 5) (ci := 4) (wc := [(q 0, .inr (4, [.ref (q 1), .ref (q 6), .ref (q 11), .int (nI n), .int (bI (st))]))]) (wc2 := [(q 0, .inr (4, [.ref (q 1), .ref (q 6), .ref (q 11), .int (nI n), .int (bI (st))]))]) hC hRm hDis hLis 0 rfl rfl gX3_axiom_X3_isAxiom ⟨rfl, by decide +kernel, by decide +kernel⟩ rfl ⟨by decide, by decide⟩ ⟨by decide, by decide⟩ rfl (Nat.le_of_ble_eq_true rfl) (by decide +kernel) (c_X3_isAxiom _ _ cI cJ cZ (q) (n) (st) (k0) (a0) (b0) (c0) ) [0] [1, 2, 3, 4, 5] [5, 0, 1, 2, 3, 4] [(q 1, .inr (1, [.ref (q 2), .ref (q 3), .ref (q 4), .ref (q 5), .int (nI cnt)])), (q 2, .inl (cI, 80, .inl Kd)), (q 3, .inl (cI, 80, .inl Aa)), (q 4, .inl (cI, 80, .inl Ab)), (q 5, .inl (cI, 80, .inl Ac))] rfl (by decide) rfl (by decide) (by decide) [(q 0, .inr (4, [.ref (q 1), .ref (q 6), .ref (q 11), .int (nI n), .int (bI (st))])), (q 1, .inr (1, [.ref (q 2), .ref (q 3), .ref (q 4), .ref (q 5), .int (nI cnt)])), (q 2, .inl (cI, 80, .inl Kd)), (q 3, .inl (cI, 80, .inl Aa)), (q 4, .inl (cI, 80, .inl Ab)), (q 5, .inl (cI, 80, .inl Ac))] rfl (by decide) rfl dX3_axiom_6 ?_
  refine z_bif_ne (pc := 9) (tgt := 14) hC dX3_axiom_9 (by decide) (fun h9 => absurd h9 (by rw [hi]; decide)) (fun h9 => ?_)
  refine z_iconst (pc := 12) (v := (-1)) hC dX3_axiom_12 (by decide +kernel) ?_
  exact z_iret (pc := 13) hC hQ hRT (rfl) (rfl) (rfl) dX3_axiom_13

set_option maxRecDepth 100000 in
set_option maxHeartbeats 4000000 in
theorem c_X3_axiom_full (l : Launch) (D : va_G) (cI cJ cZ : ClassId) (q : Nat → Nat) (n : Nat) (st : Bool) (Kd : Nat → Int32) (Aa : Nat → Int32) (Ab : Nat → Int32) (Ac : Nat → Int32) (cnt : Nat) (k0 : Int32) (a0 : Int32) (b0 : Int32) (c0 : Int32) (hi : isAx n k0 a0 b0 c0 = true) (hc : cnt = 80) : MI l yX3_axiom wsX3_axiom { frames := 2, cells := 0, slots := 0, locals := 45 } D (tyL cI cJ cZ) [.ref (q 0), .int k0, .int a0, .int b0, .int c0] [(q 0, .inr (4, [.ref (q 1), .ref (q 6), .ref (q 11), .int (nI n), .int (bI (st))])), (q 1, .inr (1, [.ref (q 2), .ref (q 3), .ref (q 4), .ref (q 5), .int (nI cnt)])), (q 2, .inl (cI, 80, .inl Kd)), (q 3, .inl (cI, 80, .inl Aa)), (q 4, .inl (cI, 80, .inl Ab)), (q 5, .inl (cI, 80, .inl Ac))] [(q 0, .inr (4, [.ref (q 1), .ref (q 6), .ref (q 11), .int (nI n), .int (bI (st))])), (q 1, .inr (1, [.ref (q 2), .ref (q 3), .ref (q 4), .ref (q 5), .int (nI cnt)])), (q 2, .inl (cI, 80, .inl Kd)), (q 3, .inl (cI, 80, .inl Aa)), (q 4, .inl (cI, 80, .inl Ab)), (q 5, .inl (cI, 80, .inl Ac))] (-2) := by
  refine metI_of (cc := cX3_axiom) (maxL := 5) (ret := (some .int)) (by decide +kernel) rfl (Nat.le_of_ble_eq_true rfl) ?_
  intro K hC hRm hNL hDis hLis hRT hIni hQ
  have hinX0 : ∀ w ∈ wsX00, w ∈ wsX3_axiom := by decide +kernel
  have hinX3 : ∀ w ∈ wsX30, w ∈ wsX3_axiom := by decide +kernel
  refine z_aload_n (pc := 0) hC 0 dX3_axiom_0 rfl ?_
  refine z_iload_n (pc := 1) hC 1 dX3_axiom_1 rfl ?_
  refine z_iload_n (pc := 2) hC 2 dX3_axiom_2 rfl ?_
  refine z_iload_n (pc := 3) hC 3 dX3_axiom_3 rfl ?_
  refine z_iload (pc := 4) hC 4 dX3_axiom_4 rfl ?_
  refine z_callV_I (pc := 6) (y := yX3_isAxiom) (wy := wsX3_isAxiom) (rm := { frames := 1, cells := 0, slots := 0, locals := 21 }) (As := [.int k0, .int a0, .int b0, .int c0]) (rest := []) (na := 4) (C := RX3) (T := TX3) (NF := 5) (ci := 4) (wc := [(q 0, .inr (4, [.ref (q 1), .ref (q 6), .ref (q 11), .int (nI n), .int (bI (st))]))]) (wc2 := [(q 0, .inr (4, [.ref (q 1), .ref (q 6), .ref (q 11), .int (nI n), .int (bI (st))]))]) hC hRm hDis hLis 0 rfl rfl gX3_axiom_X3_isAxiom ⟨rfl, by decide +kernel, by decide +kernel⟩ rfl ⟨by decide, by decide⟩ ⟨by decide, by decide⟩ rfl (Nat.le_of_ble_eq_true rfl) (by decide +kernel) (c_X3_isAxiom _ _ cI cJ cZ (q) (n) (st) (k0) (a0) (b0) (c0) ) [0] [1, 2, 3, 4, 5] [5, 0, 1, 2, 3, 4] [(q 1, .inr (1, [.ref (q 2), .ref (q 3), .ref (q 4), .ref (q 5), .int (nI cnt)])), (q 2, .inl (cI, 80, .inl Kd)), (q 3, .inl (cI, 80, .inl Aa)), (q 4, .inl (cI, 80, .inl Ab)), (q 5, .inl (cI, 80, .inl Ac))] rfl (by decide) rfl (by decide) (by decide) [(q 0, .inr (4, [.ref (q 1), .ref (q 6), .ref (q 11), .int (nI n), .int (bI (st))])), (q 1, .inr (1, [.ref (q 2), .ref (q 3), .ref (q 4), .ref (q 5), .int (nI cnt)])), (q 2, .inl (cI, 80, .inl Kd)), (q 3, .inl (cI, 80, .inl Aa)), (q 4, .inl (cI, 80, .inl Ab)), (q 5, .inl (cI, 80, .inl Ac))] rfl (by decide) rfl dX3_axiom_6 ?_
  refine z_bif_ne (pc := 9) (tgt := 14) hC dX3_axiom_9 (by decide) (fun h9 => ?_) (fun h9 => absurd h9 (by rw [hi]; decide))
  refine z_aload_n (pc := 14) hC 0 dX3_axiom_14 rfl ?_
  refine z_get (pc := 15) (C := RX3) (T := TX3) (N := 5) hC hinX3 0 rfl rfl 0 (by decide) (by decide +kernel) rfl dX3_axiom_15 ?_
  refine z_getN (pc := 18) (C := RX0) (T := TX0) (N := 5) hC hinX0 1 rfl rfl 4 (by decide) (by decide +kernel) rfl dX3_axiom_18 ?_
  refine z_bipush (pc := 21) (v := (nI 80)) hC dX3_axiom_21 (by decide +kernel) ?_
  refine z_ncmp_lt (pc := 23) (tgt := 29) hC dX3_axiom_23 (by decide) (by omega) (by omega) (fun h23 => absurd h23 (by omega)) (fun h23 => ?_)
  refine z_bipush (pc := 26) (v := (-2)) hC dX3_axiom_26 (by decide +kernel) ?_
  exact z_iret (pc := 28) hC hQ hRT (rfl) (rfl) (rfl) dX3_axiom_28

set_option maxRecDepth 100000 in
set_option maxHeartbeats 4000000 in
theorem c_X3_axiom_ok (l : Launch) (D : va_G) (cI cJ cZ : ClassId) (q : Nat → Nat) (n : Nat) (st : Bool) (Kd : Nat → Int32) (Aa : Nat → Int32) (Ab : Nat → Int32) (Ac : Nat → Int32) (cnt : Nat) (k0 : Int32) (a0 : Int32) (b0 : Int32) (c0 : Int32) (hi : isAx n k0 a0 b0 c0 = true) (hc : cnt < 80) : MI l yX3_axiom wsX3_axiom { frames := 2, cells := 0, slots := 0, locals := 45 } D (tyL cI cJ cZ) [.ref (q 0), .int k0, .int a0, .int b0, .int c0] [(q 0, .inr (4, [.ref (q 1), .ref (q 6), .ref (q 11), .int (nI n), .int (bI (st))])), (q 1, .inr (1, [.ref (q 2), .ref (q 3), .ref (q 4), .ref (q 5), .int (nI cnt)])), (q 2, .inl (cI, 80, .inl Kd)), (q 3, .inl (cI, 80, .inl Aa)), (q 4, .inl (cI, 80, .inl Ab)), (q 5, .inl (cI, 80, .inl Ac))] [(q 0, .inr (4, [.ref (q 1), .ref (q 6), .ref (q 11), .int (nI n), .int (bI (true))])), (q 1, .inr (1, [.ref (q 2), .ref (q 3), .ref (q 4), .ref (q 5), .int (nI (cnt + 1))])), (q 2, .inl (cI, 80, .inl (upd Kd cnt k0))), (q 3, .inl (cI, 80, .inl (upd Aa cnt a0))), (q 4, .inl (cI, 80, .inl (upd Ab cnt b0))), (q 5, .inl (cI, 80, .inl (upd Ac cnt c0)))] (nI cnt) := by
  refine metI_of (cc := cX3_axiom) (maxL := 5) (ret := (some .int)) (by decide +kernel) rfl (Nat.le_of_ble_eq_true rfl) ?_
  intro K hC hRm hNL hDis hLis hRT hIni hQ
  have hinX0 : ∀ w ∈ wsX00, w ∈ wsX3_axiom := by decide +kernel
  have hinX3 : ∀ w ∈ wsX30, w ∈ wsX3_axiom := by decide +kernel
  refine z_aload_n (pc := 0) hC 0 dX3_axiom_0 rfl ?_
  refine z_iload_n (pc := 1) hC 1 dX3_axiom_1 rfl ?_
  refine z_iload_n (pc := 2) hC 2 dX3_axiom_2 rfl ?_
  refine z_iload_n (pc := 3) hC 3 dX3_axiom_3 rfl ?_
  refine z_iload (pc := 4) hC 4 dX3_axiom_4 rfl ?_
  refine z_callV_I (pc := 6) (y := yX3_isAxiom) (wy := wsX3_isAxiom) (rm := { frames := 1, cells := 0, slots := 0, locals := 21 }) (As := [.int k0, .int a0, .int b0, .int c0]) (rest := []) (na := 4) (C := RX3) (T := TX3) (NF := 5) (ci := 4) (wc := [(q 0, .inr (4, [.ref (q 1), .ref (q 6), .ref (q 11), .int (nI n), .int (bI (st))]))]) (wc2 := [(q 0, .inr (4, [.ref (q 1), .ref (q 6), .ref (q 11), .int (nI n), .int (bI (st))]))]) hC hRm hDis hLis 0 rfl rfl gX3_axiom_X3_isAxiom ⟨rfl, by decide +kernel, by decide +kernel⟩ rfl ⟨by decide, by decide⟩ ⟨by decide, by decide⟩ rfl (Nat.le_of_ble_eq_true rfl) (by decide +kernel) (c_X3_isAxiom _ _ cI cJ cZ (q) (n) (st) (k0) (a0) (b0) (c0) ) [0] [1, 2, 3, 4, 5] [5, 0, 1, 2, 3, 4] [(q 1, .inr (1, [.ref (q 2), .ref (q 3), .ref (q 4), .ref (q 5), .int (nI cnt)])), (q 2, .inl (cI, 80, .inl Kd)), (q 3, .inl (cI, 80, .inl Aa)), (q 4, .inl (cI, 80, .inl Ab)), (q 5, .inl (cI, 80, .inl Ac))] rfl (by decide) rfl (by decide) (by decide) [(q 0, .inr (4, [.ref (q 1), .ref (q 6), .ref (q 11), .int (nI n), .int (bI (st))])), (q 1, .inr (1, [.ref (q 2), .ref (q 3), .ref (q 4), .ref (q 5), .int (nI cnt)])), (q 2, .inl (cI, 80, .inl Kd)), (q 3, .inl (cI, 80, .inl Aa)), (q 4, .inl (cI, 80, .inl Ab)), (q 5, .inl (cI, 80, .inl Ac))] rfl (by decide) rfl dX3_axiom_6 ?_
  refine z_bif_ne (pc := 9) (tgt := 14) hC dX3_axiom_9 (by decide) (fun h9 => ?_) (fun h9 => absurd h9 (by rw [hi]; decide))
  refine z_aload_n (pc := 14) hC 0 dX3_axiom_14 rfl ?_
  refine z_get (pc := 15) (C := RX3) (T := TX3) (N := 5) hC hinX3 0 rfl rfl 0 (by decide) (by decide +kernel) rfl dX3_axiom_15 ?_
  refine z_getN (pc := 18) (C := RX0) (T := TX0) (N := 5) hC hinX0 1 rfl rfl 4 (by decide) (by decide +kernel) rfl dX3_axiom_18 ?_
  refine z_bipush (pc := 21) (v := (nI 80)) hC dX3_axiom_21 (by decide +kernel) ?_
  refine z_ncmp_lt (pc := 23) (tgt := 29) hC dX3_axiom_23 (by decide) (by omega) (by omega) (fun h23 => ?_) (fun h23 => absurd h23 (by omega))
  refine z_aload_n (pc := 29) hC 0 dX3_axiom_29 rfl ?_
  refine z_iconst (pc := 30) (v := (nI 1)) hC dX3_axiom_30 (by decide +kernel) ?_
  refine z_put (pc := 31) (C := RX3) (T := TX3) (N := 5) hC hinX3 0 rfl rfl 4 (by decide) tyX3 tyX3_ok nmX3 (by decide +kernel) rfl (by decide +kernel) (by decide +kernel) (Nat.le_of_ble_eq_true rfl) [(q 0, .inr (4, [.ref (q 1), .ref (q 6), .ref (q 11), .int (nI n), .int (nI 1)])), (q 1, .inr (1, [.ref (q 2), .ref (q 3), .ref (q 4), .ref (q 5), .int (nI cnt)])), (q 2, .inl (cI, 80, .inl Kd)), (q 3, .inl (cI, 80, .inl Aa)), (q 4, .inl (cI, 80, .inl Ab)), (q 5, .inl (cI, 80, .inl Ac))] rfl dX3_axiom_31 ?_
  refine z_aload_n (pc := 34) hC 0 dX3_axiom_34 rfl ?_
  refine z_get (pc := 35) (C := RX3) (T := TX3) (N := 5) hC hinX3 0 rfl rfl 0 (by decide) (by decide +kernel) rfl dX3_axiom_35 ?_
  refine z_iload_n (pc := 38) hC 1 dX3_axiom_38 rfl ?_
  refine z_iload_n (pc := 39) hC 2 dX3_axiom_39 rfl ?_
  refine z_iload_n (pc := 40) hC 3 dX3_axiom_40 rfl ?_
  refine z_iload (pc := 41) hC 4 dX3_axiom_41 rfl ?_
  refine z_callVN_I (pc := 43) (y := yX0_append) (wy := wsX0_append) (rm := { frames := 0, cells := 0, slots := 0, locals := 0 }) (As := [.int k0, .int a0, .int b0, .int c0]) (rest := []) (na := 4) (C := RX0) (T := TX0) (NF := 5) (ci := 1) (wc := [(q 1, .inr (1, [.ref (q 2), .ref (q 3), .ref (q 4), .ref (q 5), .int (nI cnt)])), (q 2, .inl (cI, 80, .inl Kd)), (q 3, .inl (cI, 80, .inl Aa)), (q 4, .inl (cI, 80, .inl Ab)), (q 5, .inl (cI, 80, .inl Ac))]) (wc2 := [(q 1, .inr (1, [.ref (q 2), .ref (q 3), .ref (q 4), .ref (q 5), .int (nI (cnt + 1))])), (q 2, .inl (cI, 80, .inl (upd Kd cnt k0))), (q 3, .inl (cI, 80, .inl (upd Aa cnt a0))), (q 4, .inl (cI, 80, .inl (upd Ab cnt b0))), (q 5, .inl (cI, 80, .inl (upd Ac cnt c0)))]) hC hRm hDis hLis 0 rfl rfl gX3_axiom_X0_append_n45 (by decide +kernel) (by decide +kernel) (by decide +kernel) (by decide +kernel) ⟨by decide +kernel, by decide +kernel⟩ rfl ⟨by decide, by decide⟩ ⟨by decide, by decide⟩ rfl (Nat.le_of_ble_eq_true rfl) (by decide +kernel) (c_X0_append _ _ cI cJ cZ (q) (Kd) (Aa) (Ab) (Ac) (cnt) (k0) (a0) (b0) (c0) (hc)) [1, 2, 3, 4, 5] [0] [0, 1, 2, 3, 4, 5] [(q 0, .inr (4, [.ref (q 1), .ref (q 6), .ref (q 11), .int (nI n), .int (nI 1)]))] rfl (by decide) rfl (by decide) (by decide) [(q 0, .inr (4, [.ref (q 1), .ref (q 6), .ref (q 11), .int (nI n), .int (nI 1)])), (q 1, .inr (1, [.ref (q 2), .ref (q 3), .ref (q 4), .ref (q 5), .int (nI (cnt + 1))])), (q 2, .inl (cI, 80, .inl (upd Kd cnt k0))), (q 3, .inl (cI, 80, .inl (upd Aa cnt a0))), (q 4, .inl (cI, 80, .inl (upd Ab cnt b0))), (q 5, .inl (cI, 80, .inl (upd Ac cnt c0)))] rfl (by decide) rfl dX3_axiom_43 ?_
  exact z_iret (pc := 46) hC hQ hRT (rfl) (rfl) (rfl) dX3_axiom_46

set_option maxRecDepth 100000 in
set_option maxHeartbeats 4000000 in
theorem c_X3_drop_bad (l : Launch) (D : va_G) (cI cJ cZ : ClassId) (q : Nat → Nat) (n : Nat) (st : Bool) (Kd : Nat → Int32) (Aa : Nat → Int32) (Ab : Nat → Int32) (Ac : Nat → Int32) (cnt : Nat) (k0 : Int32) (hc : cnt ≤ 80) (hi : isCl k0 (nI cnt) = false) : MI l yX3_drop wsX3_drop { frames := 0, cells := 0, slots := 0, locals := 0 } D (tyL cI cJ cZ) [.ref (q 0), .int k0] [(q 0, .inr (4, [.ref (q 1), .ref (q 6), .ref (q 11), .int (nI n), .int (bI (st))])), (q 1, .inr (1, [.ref (q 2), .ref (q 3), .ref (q 4), .ref (q 5), .int (nI cnt)])), (q 2, .inl (cI, 80, .inl Kd)), (q 3, .inl (cI, 80, .inl Aa)), (q 4, .inl (cI, 80, .inl Ab)), (q 5, .inl (cI, 80, .inl Ac))] [(q 0, .inr (4, [.ref (q 1), .ref (q 6), .ref (q 11), .int (nI n), .int (bI (st))])), (q 1, .inr (1, [.ref (q 2), .ref (q 3), .ref (q 4), .ref (q 5), .int (nI cnt)])), (q 2, .inl (cI, 80, .inl Kd)), (q 3, .inl (cI, 80, .inl Aa)), (q 4, .inl (cI, 80, .inl Ab)), (q 5, .inl (cI, 80, .inl Ac))] (-1) := by
  refine metI_of (cc := cX3_drop) (maxL := 2) (ret := (some .int)) (by decide +kernel) rfl (Nat.le_of_ble_eq_true rfl) ?_
  intro K hC hRm hNL hDis hLis hRT hIni hQ
  have hinX0 : ∀ w ∈ wsX00, w ∈ wsX3_drop := by decide +kernel
  have hinX3 : ∀ w ∈ wsX30, w ∈ wsX3_drop := by decide +kernel
  refine z_iload_n (pc := 0) hC 1 dX3_drop_0 rfl ?_
  refine z_if_lt (pc := 1) (tgt := 15) hC dX3_drop_1 (by decide) (fun h1 => ?_) (fun h1 => ?_)
  · refine z_iconst (pc := 15) (v := (-1)) hC dX3_drop_15 (by decide +kernel) ?_
    exact z_iret (pc := 16) hC hQ hRT (rfl) (rfl) (rfl) dX3_drop_16
  · refine z_iload_n (pc := 4) hC 1 dX3_drop_4 rfl ?_
    refine z_aload_n (pc := 5) hC 0 dX3_drop_5 rfl ?_
    refine z_get (pc := 6) (C := RX3) (T := TX3) (N := 5) hC hinX3 0 rfl rfl 0 (by decide) (by decide +kernel) rfl dX3_drop_6 ?_
    refine z_getN (pc := 9) (C := RX0) (T := TX0) (N := 5) hC hinX0 1 rfl rfl 4 (by decide) (by decide +kernel) rfl dX3_drop_9 ?_
    refine z_icmp_lt (pc := 12) (tgt := 17) hC dX3_drop_12 (by decide) (fun h12 => absurd (isCl_t h1 (Int32.not_le.mpr h12)) (by rw [hi]; decide)) (fun h12 => ?_)
    refine z_iconst (pc := 15) (v := (-1)) hC dX3_drop_15 (by decide +kernel) ?_
    exact z_iret (pc := 16) hC hQ hRT (rfl) (rfl) (rfl) dX3_drop_16

set_option maxRecDepth 100000 in
set_option maxHeartbeats 4000000 in
theorem c_X3_drop_ok (l : Launch) (D : va_G) (cI cJ cZ : ClassId) (q : Nat → Nat) (n : Nat) (st : Bool) (Kd : Nat → Int32) (Aa : Nat → Int32) (Ab : Nat → Int32) (Ac : Nat → Int32) (cnt : Nat) (k : Nat) (hk : k < cnt) (hc : cnt ≤ 80) : MI l yX3_drop wsX3_drop { frames := 3, cells := 0, slots := 0, locals := 103 } D (tyL cI cJ cZ) [.ref (q 0), .int (nI k)] [(q 0, .inr (4, [.ref (q 1), .ref (q 6), .ref (q 11), .int (nI n), .int (bI (st))])), (q 1, .inr (1, [.ref (q 2), .ref (q 3), .ref (q 4), .ref (q 5), .int (nI cnt)])), (q 2, .inl (cI, 80, .inl Kd)), (q 3, .inl (cI, 80, .inl Aa)), (q 4, .inl (cI, 80, .inl Ab)), (q 5, .inl (cI, 80, .inl Ac))] [(q 0, .inr (4, [.ref (q 1), .ref (q 6), .ref (q 11), .int (nI n), .int (bI (true))])), (q 1, .inr (1, [.ref (q 2), .ref (q 3), .ref (q 4), .ref (q 5), .int (nI (cnt - 1))])), (q 2, .inl (cI, 80, .inl (va_cpy Kd Kd (k + 1) k (cnt - 1 - k)))), (q 3, .inl (cI, 80, .inl (va_cpy Aa Aa (k + 1) k (cnt - 1 - k)))), (q 4, .inl (cI, 80, .inl (va_cpy Ab Ab (k + 1) k (cnt - 1 - k)))), (q 5, .inl (cI, 80, .inl (va_cpy Ac Ac (k + 1) k (cnt - 1 - k))))] (nI (cnt - 1)) := by
  refine metI_of (cc := cX3_drop) (maxL := 2) (ret := (some .int)) (by decide +kernel) rfl (Nat.le_of_ble_eq_true rfl) ?_
  intro K hC hRm hNL hDis hLis hRT hIni hQ
  have hinX0 : ∀ w ∈ wsX00, w ∈ wsX3_drop := by decide +kernel
  have hinX3 : ∀ w ∈ wsX30, w ∈ wsX3_drop := by decide +kernel
  refine z_iload_n (pc := 0) hC 1 dX3_drop_0 rfl ?_
  refine z_nif_lt (pc := 1) (tgt := 15) hC dX3_drop_1 (by decide) (by omega) (fun h1 => absurd h1 (by exact id)) (fun h1 => ?_)
  refine z_iload_n (pc := 4) hC 1 dX3_drop_4 rfl ?_
  refine z_aload_n (pc := 5) hC 0 dX3_drop_5 rfl ?_
  refine z_get (pc := 6) (C := RX3) (T := TX3) (N := 5) hC hinX3 0 rfl rfl 0 (by decide) (by decide +kernel) rfl dX3_drop_6 ?_
  refine z_getN (pc := 9) (C := RX0) (T := TX0) (N := 5) hC hinX0 1 rfl rfl 4 (by decide) (by decide +kernel) rfl dX3_drop_9 ?_
  refine z_ncmp_lt (pc := 12) (tgt := 17) hC dX3_drop_12 (by decide) (by omega) (by omega) (fun h12 => ?_) (fun h12 => absurd h12 (by omega))
  refine z_aload_n (pc := 17) hC 0 dX3_drop_17 rfl ?_
  refine z_iconst (pc := 18) (v := (nI 1)) hC dX3_drop_18 (by decide +kernel) ?_
  refine z_put (pc := 19) (C := RX3) (T := TX3) (N := 5) hC hinX3 0 rfl rfl 4 (by decide) tyX3 tyX3_ok nmX3 (by decide +kernel) rfl (by decide +kernel) (by decide +kernel) (Nat.le_of_ble_eq_true rfl) [(q 0, .inr (4, [.ref (q 1), .ref (q 6), .ref (q 11), .int (nI n), .int (nI 1)])), (q 1, .inr (1, [.ref (q 2), .ref (q 3), .ref (q 4), .ref (q 5), .int (nI cnt)])), (q 2, .inl (cI, 80, .inl Kd)), (q 3, .inl (cI, 80, .inl Aa)), (q 4, .inl (cI, 80, .inl Ab)), (q 5, .inl (cI, 80, .inl Ac))] rfl dX3_drop_19 ?_
  refine z_aload_n (pc := 22) hC 0 dX3_drop_22 rfl ?_
  refine z_get (pc := 23) (C := RX3) (T := TX3) (N := 5) hC hinX3 0 rfl rfl 0 (by decide) (by decide +kernel) rfl dX3_drop_23 ?_
  refine z_iload_n (pc := 26) hC 1 dX3_drop_26 rfl ?_
  refine z_callVN_I (pc := 27) (y := yX0_remove) (wy := wsX0_remove) (rm := { frames := 2, cells := 0, slots := 0, locals := 82 }) (As := [.int (nI k)]) (rest := []) (na := 1) (C := RX0) (T := TX0) (NF := 5) (ci := 1) (wc := [(q 1, .inr (1, [.ref (q 2), .ref (q 3), .ref (q 4), .ref (q 5), .int (nI cnt)])), (q 2, .inl (cI, 80, .inl Kd)), (q 3, .inl (cI, 80, .inl Aa)), (q 4, .inl (cI, 80, .inl Ab)), (q 5, .inl (cI, 80, .inl Ac))]) (wc2 := [(q 1, .inr (1, [.ref (q 2), .ref (q 3), .ref (q 4), .ref (q 5), .int (nI (cnt - 1))])), (q 2, .inl (cI, 80, .inl (va_cpy Kd Kd (k + 1) k (cnt - 1 - k)))), (q 3, .inl (cI, 80, .inl (va_cpy Aa Aa (k + 1) k (cnt - 1 - k)))), (q 4, .inl (cI, 80, .inl (va_cpy Ab Ab (k + 1) k (cnt - 1 - k)))), (q 5, .inl (cI, 80, .inl (va_cpy Ac Ac (k + 1) k (cnt - 1 - k))))]) hC hRm hDis hLis 0 rfl rfl gX3_drop_X0_remove_n49 (by decide +kernel) (by decide +kernel) (by decide +kernel) (by decide +kernel) ⟨by decide +kernel, by decide +kernel⟩ rfl ⟨by decide, by decide⟩ ⟨by decide, by decide⟩ rfl (Nat.le_of_ble_eq_true rfl) (by decide +kernel) (c_X0_remove _ _ cI cJ cZ (q) (Kd) (Aa) (Ab) (Ac) (cnt) (k) (hk) (hc)) [1, 2, 3, 4, 5] [0] [0, 1, 2, 3, 4, 5] [(q 0, .inr (4, [.ref (q 1), .ref (q 6), .ref (q 11), .int (nI n), .int (nI 1)]))] rfl (by decide) rfl (by decide) (by decide) [(q 0, .inr (4, [.ref (q 1), .ref (q 6), .ref (q 11), .int (nI n), .int (nI 1)])), (q 1, .inr (1, [.ref (q 2), .ref (q 3), .ref (q 4), .ref (q 5), .int (nI (cnt - 1))])), (q 2, .inl (cI, 80, .inl (va_cpy Kd Kd (k + 1) k (cnt - 1 - k)))), (q 3, .inl (cI, 80, .inl (va_cpy Aa Aa (k + 1) k (cnt - 1 - k)))), (q 4, .inl (cI, 80, .inl (va_cpy Ab Ab (k + 1) k (cnt - 1 - k)))), (q 5, .inl (cI, 80, .inl (va_cpy Ac Ac (k + 1) k (cnt - 1 - k))))] rfl (by decide) rfl dX3_drop_27 ?_
  exact z_iret (pc := 30) hC hQ hRT (rfl) (rfl) (rfl) dX3_drop_30
end
section
/-! ElCompletion: the asking methods -/

set_option maxRecDepth 100000 in
set_option maxHeartbeats 4000000 in
theorem c_X3_sub_bad (l : Launch) (D : va_G) (cI cJ cZ : ClassId) (q : Nat → Nat) (n : Nat) (st : Bool) (a0 : Int32) (b0 : Int32) (hi : (isCl a0 (nI n) && isCl b0 (nI n)) = false) : MI l yX3_sub wsX3_sub { frames := 1, cells := 0, slots := 0, locals := 21 } D (tyL cI cJ cZ) [.ref (q 0), .int a0, .int b0] [(q 0, .inr (4, [.ref (q 1), .ref (q 6), .ref (q 11), .int (nI n), .int (bI (st))]))] [(q 0, .inr (4, [.ref (q 1), .ref (q 6), .ref (q 11), .int (nI n), .int (bI (st))]))] (-1) := by
  refine metI_of (cc := cX3_sub) (maxL := 3) (ret := (some .int)) (by decide +kernel) rfl (Nat.le_of_ble_eq_true rfl) ?_
  intro K hC hRm hNL hDis hLis hRT hIni hQ
  refine z_aload_n (pc := 0) hC 0 dX3_sub_0 rfl ?_
  refine z_iload_n (pc := 1) hC 1 dX3_sub_1 rfl ?_
  refine z_callV_I (pc := 2) (y := yX3_isClass) (wy := wsX3_isClass) (rm := { frames := 0, cells := 0, slots := 0, locals := 0 }) (As := [.int a0]) (rest := []) (na := 1) (C := RX3) (T := TX3) (NF := 5) (ci := 4) (wc := [(q 0, .inr (4, [.ref (q 1), .ref (q 6), .ref (q 11), .int (nI n), .int (bI (st))]))]) (wc2 := [(q 0, .inr (4, [.ref (q 1), .ref (q 6), .ref (q 11), .int (nI n), .int (bI (st))]))]) hC hRm hDis hLis 0 rfl rfl gX3_sub_X3_isClass ⟨rfl, by decide +kernel, by decide +kernel⟩ rfl ⟨by decide, by decide⟩ ⟨by decide, by decide⟩ rfl (Nat.le_of_ble_eq_true rfl) (by decide +kernel) (c_X3_isClass _ _ cI cJ cZ (q) (n) (st) (a0) ) [0] [] [0] [] rfl (by decide) rfl (by decide) (by decide) [(q 0, .inr (4, [.ref (q 1), .ref (q 6), .ref (q 11), .int (nI n), .int (bI (st))]))] rfl (by decide) rfl dX3_sub_2 ?_
  refine z_bif_eq (pc := 5) (tgt := 16) hC dX3_sub_5 (by decide) (fun h5 => ?_) (fun h5 => ?_)
  · refine z_iconst (pc := 16) (v := (-1)) hC dX3_sub_16 (by decide +kernel) ?_
    exact z_iret (pc := 17) hC hQ hRT (rfl) (rfl) (rfl) dX3_sub_17
  · refine z_aload_n (pc := 8) hC 0 dX3_sub_8 rfl ?_
    refine z_iload_n (pc := 9) hC 2 dX3_sub_9 rfl ?_
    refine z_callV_I (pc := 10) (y := yX3_isClass) (wy := wsX3_isClass) (rm := { frames := 0, cells := 0, slots := 0, locals := 0 }) (As := [.int b0]) (rest := []) (na := 1) (C := RX3) (T := TX3) (NF := 5) (ci := 4) (wc := [(q 0, .inr (4, [.ref (q 1), .ref (q 6), .ref (q 11), .int (nI n), .int (bI (st))]))]) (wc2 := [(q 0, .inr (4, [.ref (q 1), .ref (q 6), .ref (q 11), .int (nI n), .int (bI (st))]))]) hC hRm hDis hLis 0 rfl rfl gX3_sub_X3_isClass ⟨rfl, by decide +kernel, by decide +kernel⟩ rfl ⟨by decide, by decide⟩ ⟨by decide, by decide⟩ rfl (Nat.le_of_ble_eq_true rfl) (by decide +kernel) (c_X3_isClass _ _ cI cJ cZ (q) (n) (st) (b0) ) [0] [] [0] [] rfl (by decide) rfl (by decide) (by decide) [(q 0, .inr (4, [.ref (q 1), .ref (q 6), .ref (q 11), .int (nI n), .int (bI (st))]))] rfl (by decide) rfl dX3_sub_10 ?_
    refine z_bif_ne (pc := 13) (tgt := 18) hC dX3_sub_13 (by decide) (fun h13 => absurd hi (by rw [h5, h13]; decide)) (fun h13 => ?_)
    refine z_iconst (pc := 16) (v := (-1)) hC dX3_sub_16 (by decide +kernel) ?_
    exact z_iret (pc := 17) hC hQ hRT (rfl) (rfl) (rfl) dX3_sub_17

set_option maxRecDepth 100000 in
set_option maxHeartbeats 4000000 in
theorem c_X3_sub_ok (l : Launch) (D : va_G) (cI cJ cZ : ClassId) (q : Nat → Nat) (n : Nat) (Kd : Nat → Int32) (Aa : Nat → Int32) (Ab : Nat → Int32) (Ac : Nat → Int32) (cnt : Nat) (s : CSt) (a : Nat) (b : Nat) (hn : n ≤ 24) (hcnt : cnt ≤ 80) (hax : ∀ k, k < cnt → axV n (Kd k) (Aa k) (Ab k) (Ac k)) (ha : a < n) (hb : b < n) : MI l yX3_sub wsX3_sub { frames := 6, cells := 0, slots := 0, locals := 147 } D (tyL cI cJ cZ) [.ref (q 0), .int (nI a), .int (nI b)] [(q 0, .inr (4, [.ref (q 1), .ref (q 6), .ref (q 11), .int (nI n), .int (bI (s.2.2))])), (q 1, .inr (1, [.ref (q 2), .ref (q 3), .ref (q 4), .ref (q 5), .int (nI cnt)])), (q 2, .inl (cI, 80, .inl Kd)), (q 3, .inl (cI, 80, .inl Aa)), (q 4, .inl (cI, 80, .inl Ab)), (q 5, .inl (cI, 80, .inl Ac)), (q 6, .inr (2, [.ref (q 7), .ref (q 8), .ref (q 9), .ref (q 10), .int (nI (s.2.1)), .int (nI ((s.1).2.2.1.2)), .int (nI ((s.1).2.2.2)), .int ((s.1).1.2.2)])), (q 7, .inl (cI, 168, .inl ((s.1).2.1))), (q 8, .inl (cI, 168, .inl ((s.1).1.1))), (q 9, .inl (cJ, 4032, .inr (.inl ((s.1).1.2.1)))), (q 10, .inl (cI, 4032, .inl ((s.1).2.2.1.1)))] [(q 0, .inr (4, [.ref (q 1), .ref (q 6), .ref (q 11), .int (nI n), .int (bI ((cloT n cnt Kd Aa Ab Ac s).2.2))])), (q 1, .inr (1, [.ref (q 2), .ref (q 3), .ref (q 4), .ref (q 5), .int (nI cnt)])), (q 2, .inl (cI, 80, .inl Kd)), (q 3, .inl (cI, 80, .inl Aa)), (q 4, .inl (cI, 80, .inl Ab)), (q 5, .inl (cI, 80, .inl Ac)), (q 6, .inr (2, [.ref (q 7), .ref (q 8), .ref (q 9), .ref (q 10), .int (nI ((cloT n cnt Kd Aa Ab Ac s).2.1)), .int (nI (((cloT n cnt Kd Aa Ab Ac s).1).2.2.1.2)), .int (nI (((cloT n cnt Kd Aa Ab Ac s).1).2.2.2)), .int (((cloT n cnt Kd Aa Ab Ac s).1).1.2.2)])), (q 7, .inl (cI, 168, .inl (((cloT n cnt Kd Aa Ab Ac s).1).2.1))), (q 8, .inl (cI, 168, .inl (((cloT n cnt Kd Aa Ab Ac s).1).1.1))), (q 9, .inl (cJ, 4032, .inr (.inl (((cloT n cnt Kd Aa Ab Ac s).1).1.2.1)))), (q 10, .inl (cI, 4032, .inl (((cloT n cnt Kd Aa Ab Ac s).1).2.2.1.1)))] (bI (inB (nI a) ((cloT n cnt Kd Aa Ab Ac s).1.1.1 b))) := by
  refine metI_of (cc := cX3_sub) (maxL := 3) (ret := (some .int)) (by decide +kernel) rfl (Nat.le_of_ble_eq_true rfl) ?_
  intro K hC hRm hNL hDis hLis hRT hIni hQ
  refine z_aload_n (pc := 0) hC 0 dX3_sub_0 rfl ?_
  refine z_iload_n (pc := 1) hC 1 dX3_sub_1 rfl ?_
  refine z_callV_I (pc := 2) (y := yX3_isClass) (wy := wsX3_isClass) (rm := { frames := 0, cells := 0, slots := 0, locals := 0 }) (As := [.int (nI a)]) (rest := []) (na := 1) (C := RX3) (T := TX3) (NF := 5) (ci := 4) (wc := [(q 0, .inr (4, [.ref (q 1), .ref (q 6), .ref (q 11), .int (nI n), .int (bI (s.2.2))]))]) (wc2 := [(q 0, .inr (4, [.ref (q 1), .ref (q 6), .ref (q 11), .int (nI n), .int (bI (s.2.2))]))]) hC hRm hDis hLis 0 rfl rfl gX3_sub_X3_isClass ⟨rfl, by decide +kernel, by decide +kernel⟩ rfl ⟨by decide, by decide⟩ ⟨by decide, by decide⟩ rfl (Nat.le_of_ble_eq_true rfl) (by decide +kernel) (c_X3_isClass _ _ cI cJ cZ (q) (n) (s.2.2) (nI a) ) [0] [1, 2, 3, 4, 5, 6, 7, 8, 9, 10] [10, 0, 1, 2, 3, 4, 5, 6, 7, 8, 9] [(q 1, .inr (1, [.ref (q 2), .ref (q 3), .ref (q 4), .ref (q 5), .int (nI cnt)])), (q 2, .inl (cI, 80, .inl Kd)), (q 3, .inl (cI, 80, .inl Aa)), (q 4, .inl (cI, 80, .inl Ab)), (q 5, .inl (cI, 80, .inl Ac)), (q 6, .inr (2, [.ref (q 7), .ref (q 8), .ref (q 9), .ref (q 10), .int (nI (s.2.1)), .int (nI ((s.1).2.2.1.2)), .int (nI ((s.1).2.2.2)), .int ((s.1).1.2.2)])), (q 7, .inl (cI, 168, .inl ((s.1).2.1))), (q 8, .inl (cI, 168, .inl ((s.1).1.1))), (q 9, .inl (cJ, 4032, .inr (.inl ((s.1).1.2.1)))), (q 10, .inl (cI, 4032, .inl ((s.1).2.2.1.1)))] rfl (by decide) rfl (by decide) (by decide) [(q 0, .inr (4, [.ref (q 1), .ref (q 6), .ref (q 11), .int (nI n), .int (bI (s.2.2))])), (q 1, .inr (1, [.ref (q 2), .ref (q 3), .ref (q 4), .ref (q 5), .int (nI cnt)])), (q 2, .inl (cI, 80, .inl Kd)), (q 3, .inl (cI, 80, .inl Aa)), (q 4, .inl (cI, 80, .inl Ab)), (q 5, .inl (cI, 80, .inl Ac)), (q 6, .inr (2, [.ref (q 7), .ref (q 8), .ref (q 9), .ref (q 10), .int (nI (s.2.1)), .int (nI ((s.1).2.2.1.2)), .int (nI ((s.1).2.2.2)), .int ((s.1).1.2.2)])), (q 7, .inl (cI, 168, .inl ((s.1).2.1))), (q 8, .inl (cI, 168, .inl ((s.1).1.1))), (q 9, .inl (cJ, 4032, .inr (.inl ((s.1).1.2.1)))), (q 10, .inl (cI, 4032, .inl ((s.1).2.2.1.1)))] rfl (by decide) rfl dX3_sub_2 ?_
  refine z_bif_eq (pc := 5) (tgt := 16) hC dX3_sub_5 (by decide) (fun h5 => absurd (isCl_nI ha (by omega)) (by rw [h5]; decide)) (fun h5 => ?_)
  refine z_aload_n (pc := 8) hC 0 dX3_sub_8 rfl ?_
  refine z_iload_n (pc := 9) hC 2 dX3_sub_9 rfl ?_
  refine z_callV_I (pc := 10) (y := yX3_isClass) (wy := wsX3_isClass) (rm := { frames := 0, cells := 0, slots := 0, locals := 0 }) (As := [.int (nI b)]) (rest := []) (na := 1) (C := RX3) (T := TX3) (NF := 5) (ci := 4) (wc := [(q 0, .inr (4, [.ref (q 1), .ref (q 6), .ref (q 11), .int (nI n), .int (bI (s.2.2))]))]) (wc2 := [(q 0, .inr (4, [.ref (q 1), .ref (q 6), .ref (q 11), .int (nI n), .int (bI (s.2.2))]))]) hC hRm hDis hLis 0 rfl rfl gX3_sub_X3_isClass ⟨rfl, by decide +kernel, by decide +kernel⟩ rfl ⟨by decide, by decide⟩ ⟨by decide, by decide⟩ rfl (Nat.le_of_ble_eq_true rfl) (by decide +kernel) (c_X3_isClass _ _ cI cJ cZ (q) (n) (s.2.2) (nI b) ) [0] [1, 2, 3, 4, 5, 6, 7, 8, 9, 10] [10, 0, 1, 2, 3, 4, 5, 6, 7, 8, 9] [(q 1, .inr (1, [.ref (q 2), .ref (q 3), .ref (q 4), .ref (q 5), .int (nI cnt)])), (q 2, .inl (cI, 80, .inl Kd)), (q 3, .inl (cI, 80, .inl Aa)), (q 4, .inl (cI, 80, .inl Ab)), (q 5, .inl (cI, 80, .inl Ac)), (q 6, .inr (2, [.ref (q 7), .ref (q 8), .ref (q 9), .ref (q 10), .int (nI (s.2.1)), .int (nI ((s.1).2.2.1.2)), .int (nI ((s.1).2.2.2)), .int ((s.1).1.2.2)])), (q 7, .inl (cI, 168, .inl ((s.1).2.1))), (q 8, .inl (cI, 168, .inl ((s.1).1.1))), (q 9, .inl (cJ, 4032, .inr (.inl ((s.1).1.2.1)))), (q 10, .inl (cI, 4032, .inl ((s.1).2.2.1.1)))] rfl (by decide) rfl (by decide) (by decide) [(q 0, .inr (4, [.ref (q 1), .ref (q 6), .ref (q 11), .int (nI n), .int (bI (s.2.2))])), (q 1, .inr (1, [.ref (q 2), .ref (q 3), .ref (q 4), .ref (q 5), .int (nI cnt)])), (q 2, .inl (cI, 80, .inl Kd)), (q 3, .inl (cI, 80, .inl Aa)), (q 4, .inl (cI, 80, .inl Ab)), (q 5, .inl (cI, 80, .inl Ac)), (q 6, .inr (2, [.ref (q 7), .ref (q 8), .ref (q 9), .ref (q 10), .int (nI (s.2.1)), .int (nI ((s.1).2.2.1.2)), .int (nI ((s.1).2.2.2)), .int ((s.1).1.2.2)])), (q 7, .inl (cI, 168, .inl ((s.1).2.1))), (q 8, .inl (cI, 168, .inl ((s.1).1.1))), (q 9, .inl (cJ, 4032, .inr (.inl ((s.1).1.2.1)))), (q 10, .inl (cI, 4032, .inl ((s.1).2.2.1.1)))] rfl (by decide) rfl dX3_sub_10 ?_
  refine z_bif_ne (pc := 13) (tgt := 18) hC dX3_sub_13 (by decide) (fun h13 => ?_) (fun h13 => absurd (isCl_nI hb (by omega)) (by rw [h13]; decide))
  refine z_aload_n (pc := 18) hC 0 dX3_sub_18 rfl ?_
  refine z_callV_A (pc := 19) (y := yX3_closed) (wy := wsX3_closed) (rm := { frames := 5, cells := 0, slots := 0, locals := 127 }) (As := []) (rest := []) (na := 0) (C := RX3) (T := TX3) (NF := 5) (ci := 4) (wc := [(q 0, .inr (4, [.ref (q 1), .ref (q 6), .ref (q 11), .int (nI n), .int (bI (s.2.2))])), (q 1, .inr (1, [.ref (q 2), .ref (q 3), .ref (q 4), .ref (q 5), .int (nI cnt)])), (q 2, .inl (cI, 80, .inl Kd)), (q 3, .inl (cI, 80, .inl Aa)), (q 4, .inl (cI, 80, .inl Ab)), (q 5, .inl (cI, 80, .inl Ac)), (q 6, .inr (2, [.ref (q 7), .ref (q 8), .ref (q 9), .ref (q 10), .int (nI (s.2.1)), .int (nI ((s.1).2.2.1.2)), .int (nI ((s.1).2.2.2)), .int ((s.1).1.2.2)])), (q 7, .inl (cI, 168, .inl ((s.1).2.1))), (q 8, .inl (cI, 168, .inl ((s.1).1.1))), (q 9, .inl (cJ, 4032, .inr (.inl ((s.1).1.2.1)))), (q 10, .inl (cI, 4032, .inl ((s.1).2.2.1.1)))]) (wc2 := [(q 0, .inr (4, [.ref (q 1), .ref (q 6), .ref (q 11), .int (nI n), .int (bI ((cloT n cnt Kd Aa Ab Ac s).2.2))])), (q 1, .inr (1, [.ref (q 2), .ref (q 3), .ref (q 4), .ref (q 5), .int (nI cnt)])), (q 2, .inl (cI, 80, .inl Kd)), (q 3, .inl (cI, 80, .inl Aa)), (q 4, .inl (cI, 80, .inl Ab)), (q 5, .inl (cI, 80, .inl Ac)), (q 6, .inr (2, [.ref (q 7), .ref (q 8), .ref (q 9), .ref (q 10), .int (nI ((cloT n cnt Kd Aa Ab Ac s).2.1)), .int (nI (((cloT n cnt Kd Aa Ab Ac s).1).2.2.1.2)), .int (nI (((cloT n cnt Kd Aa Ab Ac s).1).2.2.2)), .int (((cloT n cnt Kd Aa Ab Ac s).1).1.2.2)])), (q 7, .inl (cI, 168, .inl (((cloT n cnt Kd Aa Ab Ac s).1).2.1))), (q 8, .inl (cI, 168, .inl (((cloT n cnt Kd Aa Ab Ac s).1).1.1))), (q 9, .inl (cJ, 4032, .inr (.inl (((cloT n cnt Kd Aa Ab Ac s).1).1.2.1)))), (q 10, .inl (cI, 4032, .inl (((cloT n cnt Kd Aa Ab Ac s).1).2.2.1.1)))]) hC hRm hDis hLis 0 rfl rfl gX3_sub_X3_closed ⟨rfl, by decide +kernel, by decide +kernel⟩ rfl ⟨by decide, by decide⟩ ⟨by decide, by decide⟩ rfl (Nat.le_of_ble_eq_true rfl) (by decide +kernel) (c_X3_closed _ _ cI cJ cZ (q) (n) (Kd) (Aa) (Ab) (Ac) (cnt) (s) (hn) (hcnt) (hax)) [0, 1, 2, 3, 4, 5, 6, 7, 8, 9, 10] [] [0, 1, 2, 3, 4, 5, 6, 7, 8, 9, 10] [] rfl (by decide) rfl (by decide) (by decide) [(q 0, .inr (4, [.ref (q 1), .ref (q 6), .ref (q 11), .int (nI n), .int (bI ((cloT n cnt Kd Aa Ab Ac s).2.2))])), (q 1, .inr (1, [.ref (q 2), .ref (q 3), .ref (q 4), .ref (q 5), .int (nI cnt)])), (q 2, .inl (cI, 80, .inl Kd)), (q 3, .inl (cI, 80, .inl Aa)), (q 4, .inl (cI, 80, .inl Ab)), (q 5, .inl (cI, 80, .inl Ac)), (q 6, .inr (2, [.ref (q 7), .ref (q 8), .ref (q 9), .ref (q 10), .int (nI ((cloT n cnt Kd Aa Ab Ac s).2.1)), .int (nI (((cloT n cnt Kd Aa Ab Ac s).1).2.2.1.2)), .int (nI (((cloT n cnt Kd Aa Ab Ac s).1).2.2.2)), .int (((cloT n cnt Kd Aa Ab Ac s).1).1.2.2)])), (q 7, .inl (cI, 168, .inl (((cloT n cnt Kd Aa Ab Ac s).1).2.1))), (q 8, .inl (cI, 168, .inl (((cloT n cnt Kd Aa Ab Ac s).1).1.1))), (q 9, .inl (cJ, 4032, .inr (.inl (((cloT n cnt Kd Aa Ab Ac s).1).1.2.1)))), (q 10, .inl (cI, 4032, .inl (((cloT n cnt Kd Aa Ab Ac s).1).2.2.1.1)))] rfl (by decide) rfl dX3_sub_19 ?_
  refine z_iload_n (pc := 22) hC 1 dX3_sub_22 rfl ?_
  refine z_iload_n (pc := 23) hC 2 dX3_sub_23 rfl ?_
  refine z_callVN_I (pc := 24) (y := yX1_has) (wy := wsX1_has) (rm := { frames := 1, cells := 0, slots := 0, locals := 21 }) (As := [.int (nI a), .int (nI b)]) (rest := []) (na := 2) (C := RX1) (T := TX1) (NF := 8) (ci := 2) (wc := [(q 6, .inr (2, [.ref (q 7), .ref (q 8), .ref (q 9), .ref (q 10), .int (nI ((cloT n cnt Kd Aa Ab Ac s).2.1)), .int (nI (((cloT n cnt Kd Aa Ab Ac s).1).2.2.1.2)), .int (nI (((cloT n cnt Kd Aa Ab Ac s).1).2.2.2)), .int (((cloT n cnt Kd Aa Ab Ac s).1).1.2.2)])), (q 8, .inl (cI, 168, .inl (((cloT n cnt Kd Aa Ab Ac s).1).1.1)))]) (wc2 := [(q 6, .inr (2, [.ref (q 7), .ref (q 8), .ref (q 9), .ref (q 10), .int (nI (((cloT n cnt Kd Aa Ab Ac s).2.1))), .int (nI (((cloT n cnt Kd Aa Ab Ac s).1).2.2.1.2)), .int (nI (((cloT n cnt Kd Aa Ab Ac s).1).2.2.2)), .int (((cloT n cnt Kd Aa Ab Ac s).1).1.2.2)])), (q 8, .inl (cI, 168, .inl (((cloT n cnt Kd Aa Ab Ac s).1).1.1)))]) hC hRm hDis hLis 0 rfl rfl gX3_sub_X1_has_n61 (by decide +kernel) (by decide +kernel) (by decide +kernel) (by decide +kernel) ⟨by decide +kernel, by decide +kernel⟩ rfl ⟨by decide, by decide⟩ ⟨by decide, by decide⟩ rfl (Nat.le_of_ble_eq_true rfl) (by decide +kernel) (c_X1_has _ _ cI cJ cZ (q) (((cloT n cnt Kd Aa Ab Ac s).1).1.1) ((cloT n cnt Kd Aa Ab Ac s).2.1) (nI (((cloT n cnt Kd Aa Ab Ac s).1).2.2.1.2)) (nI (((cloT n cnt Kd Aa Ab Ac s).1).2.2.2)) (((cloT n cnt Kd Aa Ab Ac s).1).1.2.2) (nI a) (b) (by omega)) [6, 8] [0, 1, 2, 3, 4, 5, 7, 9, 10] [0, 1, 2, 3, 4, 5, 9, 6, 10, 7, 8] [(q 0, .inr (4, [.ref (q 1), .ref (q 6), .ref (q 11), .int (nI n), .int (bI ((cloT n cnt Kd Aa Ab Ac s).2.2))])), (q 1, .inr (1, [.ref (q 2), .ref (q 3), .ref (q 4), .ref (q 5), .int (nI cnt)])), (q 2, .inl (cI, 80, .inl Kd)), (q 3, .inl (cI, 80, .inl Aa)), (q 4, .inl (cI, 80, .inl Ab)), (q 5, .inl (cI, 80, .inl Ac)), (q 7, .inl (cI, 168, .inl (((cloT n cnt Kd Aa Ab Ac s).1).2.1))), (q 9, .inl (cJ, 4032, .inr (.inl (((cloT n cnt Kd Aa Ab Ac s).1).1.2.1)))), (q 10, .inl (cI, 4032, .inl (((cloT n cnt Kd Aa Ab Ac s).1).2.2.1.1)))] rfl (by decide) rfl (by decide) (by decide) [(q 0, .inr (4, [.ref (q 1), .ref (q 6), .ref (q 11), .int (nI n), .int (bI ((cloT n cnt Kd Aa Ab Ac s).2.2))])), (q 1, .inr (1, [.ref (q 2), .ref (q 3), .ref (q 4), .ref (q 5), .int (nI cnt)])), (q 2, .inl (cI, 80, .inl Kd)), (q 3, .inl (cI, 80, .inl Aa)), (q 4, .inl (cI, 80, .inl Ab)), (q 5, .inl (cI, 80, .inl Ac)), (q 6, .inr (2, [.ref (q 7), .ref (q 8), .ref (q 9), .ref (q 10), .int (nI (((cloT n cnt Kd Aa Ab Ac s).2.1))), .int (nI (((cloT n cnt Kd Aa Ab Ac s).1).2.2.1.2)), .int (nI (((cloT n cnt Kd Aa Ab Ac s).1).2.2.2)), .int (((cloT n cnt Kd Aa Ab Ac s).1).1.2.2)])), (q 7, .inl (cI, 168, .inl (((cloT n cnt Kd Aa Ab Ac s).1).2.1))), (q 8, .inl (cI, 168, .inl (((cloT n cnt Kd Aa Ab Ac s).1).1.1))), (q 9, .inl (cJ, 4032, .inr (.inl (((cloT n cnt Kd Aa Ab Ac s).1).1.2.1)))), (q 10, .inl (cI, 4032, .inl (((cloT n cnt Kd Aa Ab Ac s).1).2.2.1.1)))] rfl (by decide) rfl dX3_sub_24 ?_
  refine z_bif_eq (pc := 27) (tgt := 34) hC dX3_sub_27 (by decide) (fun h27 => ?_) (fun h27 => ?_)
  · refine z_iconst (pc := 34) (v := (nI 0)) hC dX3_sub_34 (by decide +kernel) ?_
    exact z_iret (pc := 35) hC hQ hRT (rfl) (by first | exact bI_f h27 | exact bI_t h27) (rfl) dX3_sub_35
  · refine z_iconst (pc := 30) (v := (nI 1)) hC dX3_sub_30 (by decide +kernel) ?_
    refine z_goto (pc := 31) (tgt := 35) hC dX3_sub_31 (by decide) ?_
    exact z_iret (pc := 35) hC hQ hRT (rfl) (by first | exact bI_f h27 | exact bI_t h27) (rfl) dX3_sub_35

set_option maxRecDepth 100000 in
set_option maxHeartbeats 4000000 in
theorem c_X3_link_bad (l : Launch) (D : va_G) (cI cJ cZ : ClassId) (q : Nat → Nat) (n : Nat) (st : Bool) (a0 : Int32) (r0 : Int32) (b0 : Int32) (hi : (isCl a0 (nI n) && isRo r0 && isCl b0 (nI n)) = false) : MI l yX3_link wsX3_link { frames := 1, cells := 0, slots := 0, locals := 21 } D (tyL cI cJ cZ) [.ref (q 0), .int a0, .int r0, .int b0] [(q 0, .inr (4, [.ref (q 1), .ref (q 6), .ref (q 11), .int (nI n), .int (bI (st))]))] [(q 0, .inr (4, [.ref (q 1), .ref (q 6), .ref (q 11), .int (nI n), .int (bI (st))]))] (-1) := by
  refine metI_of (cc := cX3_link) (maxL := 4) (ret := (some .int)) (by decide +kernel) rfl (Nat.le_of_ble_eq_true rfl) ?_
  intro K hC hRm hNL hDis hLis hRT hIni hQ
  refine z_aload_n (pc := 0) hC 0 dX3_link_0 rfl ?_
  refine z_iload_n (pc := 1) hC 1 dX3_link_1 rfl ?_
  refine z_callV_I (pc := 2) (y := yX3_isClass) (wy := wsX3_isClass) (rm := { frames := 0, cells := 0, slots := 0, locals := 0 }) (As := [.int a0]) (rest := []) (na := 1) (C := RX3) (T := TX3) (NF := 5) (ci := 4) (wc := [(q 0, .inr (4, [.ref (q 1), .ref (q 6), .ref (q 11), .int (nI n), .int (bI (st))]))]) (wc2 := [(q 0, .inr (4, [.ref (q 1), .ref (q 6), .ref (q 11), .int (nI n), .int (bI (st))]))]) hC hRm hDis hLis 0 rfl rfl gX3_link_X3_isClass ⟨rfl, by decide +kernel, by decide +kernel⟩ rfl ⟨by decide, by decide⟩ ⟨by decide, by decide⟩ rfl (Nat.le_of_ble_eq_true rfl) (by decide +kernel) (c_X3_isClass _ _ cI cJ cZ (q) (n) (st) (a0) ) [0] [] [0] [] rfl (by decide) rfl (by decide) (by decide) [(q 0, .inr (4, [.ref (q 1), .ref (q 6), .ref (q 11), .int (nI n), .int (bI (st))]))] rfl (by decide) rfl dX3_link_2 ?_
  refine z_bif_eq (pc := 5) (tgt := 23) hC dX3_link_5 (by decide) (fun h5 => ?_) (fun h5 => ?_)
  · refine z_iconst (pc := 23) (v := (-1)) hC dX3_link_23 (by decide +kernel) ?_
    exact z_iret (pc := 24) hC hQ hRT (rfl) (rfl) (rfl) dX3_link_24
  · refine z_iload_n (pc := 8) hC 2 dX3_link_8 rfl ?_
    refine z_callS_I (pc := 9) (y := yX3_isRole) (wy := wsX3_isRole) (rm := { frames := 0, cells := 0, slots := 0, locals := 0 }) (As := [.int r0]) (rest := []) (na := 1)  (wc := []) (wc2 := []) hC hRm hDis hLis gX3_link_X3_isRole ⟨by decide +kernel, by decide +kernel⟩ rfl ⟨by decide, by decide⟩ ⟨by decide, by decide⟩ rfl (Nat.le_of_ble_eq_true rfl) (by decide +kernel) (c_X3_isRole _ _ cI cJ cZ (r0) ) [] [0] [0] [(q 0, .inr (4, [.ref (q 1), .ref (q 6), .ref (q 11), .int (nI n), .int (bI (st))]))] rfl (by decide) rfl (by decide) (by decide) [(q 0, .inr (4, [.ref (q 1), .ref (q 6), .ref (q 11), .int (nI n), .int (bI (st))]))] rfl (by decide) rfl dX3_link_9 ?_
    refine z_bif_eq (pc := 12) (tgt := 23) hC dX3_link_12 (by decide) (fun h12 => ?_) (fun h12 => ?_)
    · refine z_iconst (pc := 23) (v := (-1)) hC dX3_link_23 (by decide +kernel) ?_
      exact z_iret (pc := 24) hC hQ hRT (rfl) (rfl) (rfl) dX3_link_24
    · refine z_aload_n (pc := 15) hC 0 dX3_link_15 rfl ?_
      refine z_iload_n (pc := 16) hC 3 dX3_link_16 rfl ?_
      refine z_callV_I (pc := 17) (y := yX3_isClass) (wy := wsX3_isClass) (rm := { frames := 0, cells := 0, slots := 0, locals := 0 }) (As := [.int b0]) (rest := []) (na := 1) (C := RX3) (T := TX3) (NF := 5) (ci := 4) (wc := [(q 0, .inr (4, [.ref (q 1), .ref (q 6), .ref (q 11), .int (nI n), .int (bI (st))]))]) (wc2 := [(q 0, .inr (4, [.ref (q 1), .ref (q 6), .ref (q 11), .int (nI n), .int (bI (st))]))]) hC hRm hDis hLis 0 rfl rfl gX3_link_X3_isClass ⟨rfl, by decide +kernel, by decide +kernel⟩ rfl ⟨by decide, by decide⟩ ⟨by decide, by decide⟩ rfl (Nat.le_of_ble_eq_true rfl) (by decide +kernel) (c_X3_isClass _ _ cI cJ cZ (q) (n) (st) (b0) ) [0] [] [0] [] rfl (by decide) rfl (by decide) (by decide) [(q 0, .inr (4, [.ref (q 1), .ref (q 6), .ref (q 11), .int (nI n), .int (bI (st))]))] rfl (by decide) rfl dX3_link_17 ?_
      refine z_bif_ne (pc := 20) (tgt := 25) hC dX3_link_20 (by decide) (fun h20 => absurd hi (by rw [h5, h12, h20]; decide)) (fun h20 => ?_)
      refine z_iconst (pc := 23) (v := (-1)) hC dX3_link_23 (by decide +kernel) ?_
      exact z_iret (pc := 24) hC hQ hRT (rfl) (rfl) (rfl) dX3_link_24

set_option maxRecDepth 100000 in
set_option maxHeartbeats 4000000 in
theorem c_X3_link_ok (l : Launch) (D : va_G) (cI cJ cZ : ClassId) (q : Nat → Nat) (n : Nat) (Kd : Nat → Int32) (Aa : Nat → Int32) (Ab : Nat → Int32) (Ac : Nat → Int32) (cnt : Nat) (s : CSt) (a : Nat) (r : Nat) (b : Nat) (hn : n ≤ 24) (hcnt : cnt ≤ 80) (hax : ∀ k, k < cnt → axV n (Kd k) (Aa k) (Ab k) (Ac k)) (ha : a < n) (hr : r < 6) (hb : b < n) : MI l yX3_link wsX3_link { frames := 6, cells := 0, slots := 0, locals := 147 } D (tyL cI cJ cZ) [.ref (q 0), .int (nI a), .int (nI r), .int (nI b)] [(q 0, .inr (4, [.ref (q 1), .ref (q 6), .ref (q 11), .int (nI n), .int (bI (s.2.2))])), (q 1, .inr (1, [.ref (q 2), .ref (q 3), .ref (q 4), .ref (q 5), .int (nI cnt)])), (q 2, .inl (cI, 80, .inl Kd)), (q 3, .inl (cI, 80, .inl Aa)), (q 4, .inl (cI, 80, .inl Ab)), (q 5, .inl (cI, 80, .inl Ac)), (q 6, .inr (2, [.ref (q 7), .ref (q 8), .ref (q 9), .ref (q 10), .int (nI (s.2.1)), .int (nI ((s.1).2.2.1.2)), .int (nI ((s.1).2.2.2)), .int ((s.1).1.2.2)])), (q 7, .inl (cI, 168, .inl ((s.1).2.1))), (q 8, .inl (cI, 168, .inl ((s.1).1.1))), (q 9, .inl (cJ, 4032, .inr (.inl ((s.1).1.2.1)))), (q 10, .inl (cI, 4032, .inl ((s.1).2.2.1.1)))] [(q 0, .inr (4, [.ref (q 1), .ref (q 6), .ref (q 11), .int (nI n), .int (bI ((cloT n cnt Kd Aa Ab Ac s).2.2))])), (q 1, .inr (1, [.ref (q 2), .ref (q 3), .ref (q 4), .ref (q 5), .int (nI cnt)])), (q 2, .inl (cI, 80, .inl Kd)), (q 3, .inl (cI, 80, .inl Aa)), (q 4, .inl (cI, 80, .inl Ab)), (q 5, .inl (cI, 80, .inl Ac)), (q 6, .inr (2, [.ref (q 7), .ref (q 8), .ref (q 9), .ref (q 10), .int (nI ((cloT n cnt Kd Aa Ab Ac s).2.1)), .int (nI (((cloT n cnt Kd Aa Ab Ac s).1).2.2.1.2)), .int (nI (((cloT n cnt Kd Aa Ab Ac s).1).2.2.2)), .int (((cloT n cnt Kd Aa Ab Ac s).1).1.2.2)])), (q 7, .inl (cI, 168, .inl (((cloT n cnt Kd Aa Ab Ac s).1).2.1))), (q 8, .inl (cI, 168, .inl (((cloT n cnt Kd Aa Ab Ac s).1).1.1))), (q 9, .inl (cJ, 4032, .inr (.inl (((cloT n cnt Kd Aa Ab Ac s).1).1.2.1)))), (q 10, .inl (cI, 4032, .inl (((cloT n cnt Kd Aa Ab Ac s).1).2.2.1.1)))] (bI (inB (nI a) ((cloT n cnt Kd Aa Ab Ac s).1.1.1 (lcol r b)))) := by
  refine metI_of (cc := cX3_link) (maxL := 4) (ret := (some .int)) (by decide +kernel) rfl (Nat.le_of_ble_eq_true rfl) ?_
  intro K hC hRm hNL hDis hLis hRT hIni hQ
  refine z_aload_n (pc := 0) hC 0 dX3_link_0 rfl ?_
  refine z_iload_n (pc := 1) hC 1 dX3_link_1 rfl ?_
  refine z_callV_I (pc := 2) (y := yX3_isClass) (wy := wsX3_isClass) (rm := { frames := 0, cells := 0, slots := 0, locals := 0 }) (As := [.int (nI a)]) (rest := []) (na := 1) (C := RX3) (T := TX3) (NF := 5) (ci := 4) (wc := [(q 0, .inr (4, [.ref (q 1), .ref (q 6), .ref (q 11), .int (nI n), .int (bI (s.2.2))]))]) (wc2 := [(q 0, .inr (4, [.ref (q 1), .ref (q 6), .ref (q 11), .int (nI n), .int (bI (s.2.2))]))]) hC hRm hDis hLis 0 rfl rfl gX3_link_X3_isClass ⟨rfl, by decide +kernel, by decide +kernel⟩ rfl ⟨by decide, by decide⟩ ⟨by decide, by decide⟩ rfl (Nat.le_of_ble_eq_true rfl) (by decide +kernel) (c_X3_isClass _ _ cI cJ cZ (q) (n) (s.2.2) (nI a) ) [0] [1, 2, 3, 4, 5, 6, 7, 8, 9, 10] [10, 0, 1, 2, 3, 4, 5, 6, 7, 8, 9] [(q 1, .inr (1, [.ref (q 2), .ref (q 3), .ref (q 4), .ref (q 5), .int (nI cnt)])), (q 2, .inl (cI, 80, .inl Kd)), (q 3, .inl (cI, 80, .inl Aa)), (q 4, .inl (cI, 80, .inl Ab)), (q 5, .inl (cI, 80, .inl Ac)), (q 6, .inr (2, [.ref (q 7), .ref (q 8), .ref (q 9), .ref (q 10), .int (nI (s.2.1)), .int (nI ((s.1).2.2.1.2)), .int (nI ((s.1).2.2.2)), .int ((s.1).1.2.2)])), (q 7, .inl (cI, 168, .inl ((s.1).2.1))), (q 8, .inl (cI, 168, .inl ((s.1).1.1))), (q 9, .inl (cJ, 4032, .inr (.inl ((s.1).1.2.1)))), (q 10, .inl (cI, 4032, .inl ((s.1).2.2.1.1)))] rfl (by decide) rfl (by decide) (by decide) [(q 0, .inr (4, [.ref (q 1), .ref (q 6), .ref (q 11), .int (nI n), .int (bI (s.2.2))])), (q 1, .inr (1, [.ref (q 2), .ref (q 3), .ref (q 4), .ref (q 5), .int (nI cnt)])), (q 2, .inl (cI, 80, .inl Kd)), (q 3, .inl (cI, 80, .inl Aa)), (q 4, .inl (cI, 80, .inl Ab)), (q 5, .inl (cI, 80, .inl Ac)), (q 6, .inr (2, [.ref (q 7), .ref (q 8), .ref (q 9), .ref (q 10), .int (nI (s.2.1)), .int (nI ((s.1).2.2.1.2)), .int (nI ((s.1).2.2.2)), .int ((s.1).1.2.2)])), (q 7, .inl (cI, 168, .inl ((s.1).2.1))), (q 8, .inl (cI, 168, .inl ((s.1).1.1))), (q 9, .inl (cJ, 4032, .inr (.inl ((s.1).1.2.1)))), (q 10, .inl (cI, 4032, .inl ((s.1).2.2.1.1)))] rfl (by decide) rfl dX3_link_2 ?_
  refine z_bif_eq (pc := 5) (tgt := 23) hC dX3_link_5 (by decide) (fun h5 => absurd (isCl_nI ha (by omega)) (by rw [h5]; decide)) (fun h5 => ?_)
  refine z_iload_n (pc := 8) hC 2 dX3_link_8 rfl ?_
  refine z_callS_I (pc := 9) (y := yX3_isRole) (wy := wsX3_isRole) (rm := { frames := 0, cells := 0, slots := 0, locals := 0 }) (As := [.int (nI r)]) (rest := []) (na := 1)  (wc := []) (wc2 := []) hC hRm hDis hLis gX3_link_X3_isRole ⟨by decide +kernel, by decide +kernel⟩ rfl ⟨by decide, by decide⟩ ⟨by decide, by decide⟩ rfl (Nat.le_of_ble_eq_true rfl) (by decide +kernel) (c_X3_isRole _ _ cI cJ cZ (nI r) ) [] [0, 1, 2, 3, 4, 5, 6, 7, 8, 9, 10] [0, 1, 2, 3, 4, 5, 6, 7, 8, 9, 10] [(q 0, .inr (4, [.ref (q 1), .ref (q 6), .ref (q 11), .int (nI n), .int (bI (s.2.2))])), (q 1, .inr (1, [.ref (q 2), .ref (q 3), .ref (q 4), .ref (q 5), .int (nI cnt)])), (q 2, .inl (cI, 80, .inl Kd)), (q 3, .inl (cI, 80, .inl Aa)), (q 4, .inl (cI, 80, .inl Ab)), (q 5, .inl (cI, 80, .inl Ac)), (q 6, .inr (2, [.ref (q 7), .ref (q 8), .ref (q 9), .ref (q 10), .int (nI (s.2.1)), .int (nI ((s.1).2.2.1.2)), .int (nI ((s.1).2.2.2)), .int ((s.1).1.2.2)])), (q 7, .inl (cI, 168, .inl ((s.1).2.1))), (q 8, .inl (cI, 168, .inl ((s.1).1.1))), (q 9, .inl (cJ, 4032, .inr (.inl ((s.1).1.2.1)))), (q 10, .inl (cI, 4032, .inl ((s.1).2.2.1.1)))] rfl (by decide) rfl (by decide) (by decide) [(q 0, .inr (4, [.ref (q 1), .ref (q 6), .ref (q 11), .int (nI n), .int (bI (s.2.2))])), (q 1, .inr (1, [.ref (q 2), .ref (q 3), .ref (q 4), .ref (q 5), .int (nI cnt)])), (q 2, .inl (cI, 80, .inl Kd)), (q 3, .inl (cI, 80, .inl Aa)), (q 4, .inl (cI, 80, .inl Ab)), (q 5, .inl (cI, 80, .inl Ac)), (q 6, .inr (2, [.ref (q 7), .ref (q 8), .ref (q 9), .ref (q 10), .int (nI (s.2.1)), .int (nI ((s.1).2.2.1.2)), .int (nI ((s.1).2.2.2)), .int ((s.1).1.2.2)])), (q 7, .inl (cI, 168, .inl ((s.1).2.1))), (q 8, .inl (cI, 168, .inl ((s.1).1.1))), (q 9, .inl (cJ, 4032, .inr (.inl ((s.1).1.2.1)))), (q 10, .inl (cI, 4032, .inl ((s.1).2.2.1.1)))] rfl (by decide) rfl dX3_link_9 ?_
  refine z_bif_eq (pc := 12) (tgt := 23) hC dX3_link_12 (by decide) (fun h12 => absurd (isRo_nI hr) (by rw [h12]; decide)) (fun h12 => ?_)
  refine z_aload_n (pc := 15) hC 0 dX3_link_15 rfl ?_
  refine z_iload_n (pc := 16) hC 3 dX3_link_16 rfl ?_
  refine z_callV_I (pc := 17) (y := yX3_isClass) (wy := wsX3_isClass) (rm := { frames := 0, cells := 0, slots := 0, locals := 0 }) (As := [.int (nI b)]) (rest := []) (na := 1) (C := RX3) (T := TX3) (NF := 5) (ci := 4) (wc := [(q 0, .inr (4, [.ref (q 1), .ref (q 6), .ref (q 11), .int (nI n), .int (bI (s.2.2))]))]) (wc2 := [(q 0, .inr (4, [.ref (q 1), .ref (q 6), .ref (q 11), .int (nI n), .int (bI (s.2.2))]))]) hC hRm hDis hLis 0 rfl rfl gX3_link_X3_isClass ⟨rfl, by decide +kernel, by decide +kernel⟩ rfl ⟨by decide, by decide⟩ ⟨by decide, by decide⟩ rfl (Nat.le_of_ble_eq_true rfl) (by decide +kernel) (c_X3_isClass _ _ cI cJ cZ (q) (n) (s.2.2) (nI b) ) [0] [1, 2, 3, 4, 5, 6, 7, 8, 9, 10] [10, 0, 1, 2, 3, 4, 5, 6, 7, 8, 9] [(q 1, .inr (1, [.ref (q 2), .ref (q 3), .ref (q 4), .ref (q 5), .int (nI cnt)])), (q 2, .inl (cI, 80, .inl Kd)), (q 3, .inl (cI, 80, .inl Aa)), (q 4, .inl (cI, 80, .inl Ab)), (q 5, .inl (cI, 80, .inl Ac)), (q 6, .inr (2, [.ref (q 7), .ref (q 8), .ref (q 9), .ref (q 10), .int (nI (s.2.1)), .int (nI ((s.1).2.2.1.2)), .int (nI ((s.1).2.2.2)), .int ((s.1).1.2.2)])), (q 7, .inl (cI, 168, .inl ((s.1).2.1))), (q 8, .inl (cI, 168, .inl ((s.1).1.1))), (q 9, .inl (cJ, 4032, .inr (.inl ((s.1).1.2.1)))), (q 10, .inl (cI, 4032, .inl ((s.1).2.2.1.1)))] rfl (by decide) rfl (by decide) (by decide) [(q 0, .inr (4, [.ref (q 1), .ref (q 6), .ref (q 11), .int (nI n), .int (bI (s.2.2))])), (q 1, .inr (1, [.ref (q 2), .ref (q 3), .ref (q 4), .ref (q 5), .int (nI cnt)])), (q 2, .inl (cI, 80, .inl Kd)), (q 3, .inl (cI, 80, .inl Aa)), (q 4, .inl (cI, 80, .inl Ab)), (q 5, .inl (cI, 80, .inl Ac)), (q 6, .inr (2, [.ref (q 7), .ref (q 8), .ref (q 9), .ref (q 10), .int (nI (s.2.1)), .int (nI ((s.1).2.2.1.2)), .int (nI ((s.1).2.2.2)), .int ((s.1).1.2.2)])), (q 7, .inl (cI, 168, .inl ((s.1).2.1))), (q 8, .inl (cI, 168, .inl ((s.1).1.1))), (q 9, .inl (cJ, 4032, .inr (.inl ((s.1).1.2.1)))), (q 10, .inl (cI, 4032, .inl ((s.1).2.2.1.1)))] rfl (by decide) rfl dX3_link_17 ?_
  refine z_bif_ne (pc := 20) (tgt := 25) hC dX3_link_20 (by decide) (fun h20 => ?_) (fun h20 => absurd (isCl_nI hb (by omega)) (by rw [h20]; decide))
  refine z_aload_n (pc := 25) hC 0 dX3_link_25 rfl ?_
  refine z_callV_A (pc := 26) (y := yX3_closed) (wy := wsX3_closed) (rm := { frames := 5, cells := 0, slots := 0, locals := 127 }) (As := []) (rest := []) (na := 0) (C := RX3) (T := TX3) (NF := 5) (ci := 4) (wc := [(q 0, .inr (4, [.ref (q 1), .ref (q 6), .ref (q 11), .int (nI n), .int (bI (s.2.2))])), (q 1, .inr (1, [.ref (q 2), .ref (q 3), .ref (q 4), .ref (q 5), .int (nI cnt)])), (q 2, .inl (cI, 80, .inl Kd)), (q 3, .inl (cI, 80, .inl Aa)), (q 4, .inl (cI, 80, .inl Ab)), (q 5, .inl (cI, 80, .inl Ac)), (q 6, .inr (2, [.ref (q 7), .ref (q 8), .ref (q 9), .ref (q 10), .int (nI (s.2.1)), .int (nI ((s.1).2.2.1.2)), .int (nI ((s.1).2.2.2)), .int ((s.1).1.2.2)])), (q 7, .inl (cI, 168, .inl ((s.1).2.1))), (q 8, .inl (cI, 168, .inl ((s.1).1.1))), (q 9, .inl (cJ, 4032, .inr (.inl ((s.1).1.2.1)))), (q 10, .inl (cI, 4032, .inl ((s.1).2.2.1.1)))]) (wc2 := [(q 0, .inr (4, [.ref (q 1), .ref (q 6), .ref (q 11), .int (nI n), .int (bI ((cloT n cnt Kd Aa Ab Ac s).2.2))])), (q 1, .inr (1, [.ref (q 2), .ref (q 3), .ref (q 4), .ref (q 5), .int (nI cnt)])), (q 2, .inl (cI, 80, .inl Kd)), (q 3, .inl (cI, 80, .inl Aa)), (q 4, .inl (cI, 80, .inl Ab)), (q 5, .inl (cI, 80, .inl Ac)), (q 6, .inr (2, [.ref (q 7), .ref (q 8), .ref (q 9), .ref (q 10), .int (nI ((cloT n cnt Kd Aa Ab Ac s).2.1)), .int (nI (((cloT n cnt Kd Aa Ab Ac s).1).2.2.1.2)), .int (nI (((cloT n cnt Kd Aa Ab Ac s).1).2.2.2)), .int (((cloT n cnt Kd Aa Ab Ac s).1).1.2.2)])), (q 7, .inl (cI, 168, .inl (((cloT n cnt Kd Aa Ab Ac s).1).2.1))), (q 8, .inl (cI, 168, .inl (((cloT n cnt Kd Aa Ab Ac s).1).1.1))), (q 9, .inl (cJ, 4032, .inr (.inl (((cloT n cnt Kd Aa Ab Ac s).1).1.2.1)))), (q 10, .inl (cI, 4032, .inl (((cloT n cnt Kd Aa Ab Ac s).1).2.2.1.1)))]) hC hRm hDis hLis 0 rfl rfl gX3_link_X3_closed ⟨rfl, by decide +kernel, by decide +kernel⟩ rfl ⟨by decide, by decide⟩ ⟨by decide, by decide⟩ rfl (Nat.le_of_ble_eq_true rfl) (by decide +kernel) (c_X3_closed _ _ cI cJ cZ (q) (n) (Kd) (Aa) (Ab) (Ac) (cnt) (s) (hn) (hcnt) (hax)) [0, 1, 2, 3, 4, 5, 6, 7, 8, 9, 10] [] [0, 1, 2, 3, 4, 5, 6, 7, 8, 9, 10] [] rfl (by decide) rfl (by decide) (by decide) [(q 0, .inr (4, [.ref (q 1), .ref (q 6), .ref (q 11), .int (nI n), .int (bI ((cloT n cnt Kd Aa Ab Ac s).2.2))])), (q 1, .inr (1, [.ref (q 2), .ref (q 3), .ref (q 4), .ref (q 5), .int (nI cnt)])), (q 2, .inl (cI, 80, .inl Kd)), (q 3, .inl (cI, 80, .inl Aa)), (q 4, .inl (cI, 80, .inl Ab)), (q 5, .inl (cI, 80, .inl Ac)), (q 6, .inr (2, [.ref (q 7), .ref (q 8), .ref (q 9), .ref (q 10), .int (nI ((cloT n cnt Kd Aa Ab Ac s).2.1)), .int (nI (((cloT n cnt Kd Aa Ab Ac s).1).2.2.1.2)), .int (nI (((cloT n cnt Kd Aa Ab Ac s).1).2.2.2)), .int (((cloT n cnt Kd Aa Ab Ac s).1).1.2.2)])), (q 7, .inl (cI, 168, .inl (((cloT n cnt Kd Aa Ab Ac s).1).2.1))), (q 8, .inl (cI, 168, .inl (((cloT n cnt Kd Aa Ab Ac s).1).1.1))), (q 9, .inl (cJ, 4032, .inr (.inl (((cloT n cnt Kd Aa Ab Ac s).1).1.2.1)))), (q 10, .inl (cI, 4032, .inl (((cloT n cnt Kd Aa Ab Ac s).1).2.2.1.1)))] rfl (by decide) rfl dX3_link_26 ?_
  refine z_iload_n (pc := 29) hC 1 dX3_link_29 rfl ?_
  refine z_iload_n (pc := 30) hC 2 dX3_link_30 rfl ?_
  refine z_iload_n (pc := 31) hC 3 dX3_link_31 rfl ?_
  refine z_callS_I (pc := 32) (y := yX3_linkColumn) (wy := wsX3_linkColumn) (rm := { frames := 0, cells := 0, slots := 0, locals := 0 }) (As := [.int (nI r), .int (nI b)]) (rest := [.int (nI a), .ref (q 6)]) (na := 2)  (wc := []) (wc2 := []) hC hRm hDis hLis gX3_link_X3_linkColumn ⟨by decide +kernel, by decide +kernel⟩ rfl ⟨by decide, by decide⟩ ⟨by decide, by decide⟩ rfl (Nat.le_of_ble_eq_true rfl) (by decide +kernel) (c_X3_linkColumnN _ _ cI cJ cZ (r) (b) ) [] [0, 1, 2, 3, 4, 5, 6, 7, 8, 9, 10] [0, 1, 2, 3, 4, 5, 6, 7, 8, 9, 10] [(q 0, .inr (4, [.ref (q 1), .ref (q 6), .ref (q 11), .int (nI n), .int (bI ((cloT n cnt Kd Aa Ab Ac s).2.2))])), (q 1, .inr (1, [.ref (q 2), .ref (q 3), .ref (q 4), .ref (q 5), .int (nI cnt)])), (q 2, .inl (cI, 80, .inl Kd)), (q 3, .inl (cI, 80, .inl Aa)), (q 4, .inl (cI, 80, .inl Ab)), (q 5, .inl (cI, 80, .inl Ac)), (q 6, .inr (2, [.ref (q 7), .ref (q 8), .ref (q 9), .ref (q 10), .int (nI ((cloT n cnt Kd Aa Ab Ac s).2.1)), .int (nI (((cloT n cnt Kd Aa Ab Ac s).1).2.2.1.2)), .int (nI (((cloT n cnt Kd Aa Ab Ac s).1).2.2.2)), .int (((cloT n cnt Kd Aa Ab Ac s).1).1.2.2)])), (q 7, .inl (cI, 168, .inl (((cloT n cnt Kd Aa Ab Ac s).1).2.1))), (q 8, .inl (cI, 168, .inl (((cloT n cnt Kd Aa Ab Ac s).1).1.1))), (q 9, .inl (cJ, 4032, .inr (.inl (((cloT n cnt Kd Aa Ab Ac s).1).1.2.1)))), (q 10, .inl (cI, 4032, .inl (((cloT n cnt Kd Aa Ab Ac s).1).2.2.1.1)))] rfl (by decide) rfl (by decide) (by decide) [(q 0, .inr (4, [.ref (q 1), .ref (q 6), .ref (q 11), .int (nI n), .int (bI ((cloT n cnt Kd Aa Ab Ac s).2.2))])), (q 1, .inr (1, [.ref (q 2), .ref (q 3), .ref (q 4), .ref (q 5), .int (nI cnt)])), (q 2, .inl (cI, 80, .inl Kd)), (q 3, .inl (cI, 80, .inl Aa)), (q 4, .inl (cI, 80, .inl Ab)), (q 5, .inl (cI, 80, .inl Ac)), (q 6, .inr (2, [.ref (q 7), .ref (q 8), .ref (q 9), .ref (q 10), .int (nI ((cloT n cnt Kd Aa Ab Ac s).2.1)), .int (nI (((cloT n cnt Kd Aa Ab Ac s).1).2.2.1.2)), .int (nI (((cloT n cnt Kd Aa Ab Ac s).1).2.2.2)), .int (((cloT n cnt Kd Aa Ab Ac s).1).1.2.2)])), (q 7, .inl (cI, 168, .inl (((cloT n cnt Kd Aa Ab Ac s).1).2.1))), (q 8, .inl (cI, 168, .inl (((cloT n cnt Kd Aa Ab Ac s).1).1.1))), (q 9, .inl (cJ, 4032, .inr (.inl (((cloT n cnt Kd Aa Ab Ac s).1).1.2.1)))), (q 10, .inl (cI, 4032, .inl (((cloT n cnt Kd Aa Ab Ac s).1).2.2.1.1)))] rfl (by decide) rfl dX3_link_32 ?_
  refine z_callVN_I (pc := 35) (y := yX1_has) (wy := wsX1_has) (rm := { frames := 1, cells := 0, slots := 0, locals := 21 }) (As := [.int (nI a), .int (nI (lcol r b))]) (rest := []) (na := 2) (C := RX1) (T := TX1) (NF := 8) (ci := 2) (wc := [(q 6, .inr (2, [.ref (q 7), .ref (q 8), .ref (q 9), .ref (q 10), .int (nI ((cloT n cnt Kd Aa Ab Ac s).2.1)), .int (nI (((cloT n cnt Kd Aa Ab Ac s).1).2.2.1.2)), .int (nI (((cloT n cnt Kd Aa Ab Ac s).1).2.2.2)), .int (((cloT n cnt Kd Aa Ab Ac s).1).1.2.2)])), (q 8, .inl (cI, 168, .inl (((cloT n cnt Kd Aa Ab Ac s).1).1.1)))]) (wc2 := [(q 6, .inr (2, [.ref (q 7), .ref (q 8), .ref (q 9), .ref (q 10), .int (nI (((cloT n cnt Kd Aa Ab Ac s).2.1))), .int (nI (((cloT n cnt Kd Aa Ab Ac s).1).2.2.1.2)), .int (nI (((cloT n cnt Kd Aa Ab Ac s).1).2.2.2)), .int (((cloT n cnt Kd Aa Ab Ac s).1).1.2.2)])), (q 8, .inl (cI, 168, .inl (((cloT n cnt Kd Aa Ab Ac s).1).1.1)))]) hC hRm hDis hLis 0 rfl rfl gX3_link_X1_has_n61 (by decide +kernel) (by decide +kernel) (by decide +kernel) (by decide +kernel) ⟨by decide +kernel, by decide +kernel⟩ rfl ⟨by decide, by decide⟩ ⟨by decide, by decide⟩ rfl (Nat.le_of_ble_eq_true rfl) (by decide +kernel) (c_X1_has _ _ cI cJ cZ (q) (((cloT n cnt Kd Aa Ab Ac s).1).1.1) ((cloT n cnt Kd Aa Ab Ac s).2.1) (nI (((cloT n cnt Kd Aa Ab Ac s).1).2.2.1.2)) (nI (((cloT n cnt Kd Aa Ab Ac s).1).2.2.2)) (((cloT n cnt Kd Aa Ab Ac s).1).1.2.2) (nI a) (lcol r b) (lcol_lt hr (by omega))) [6, 8] [0, 1, 2, 3, 4, 5, 7, 9, 10] [0, 1, 2, 3, 4, 5, 9, 6, 10, 7, 8] [(q 0, .inr (4, [.ref (q 1), .ref (q 6), .ref (q 11), .int (nI n), .int (bI ((cloT n cnt Kd Aa Ab Ac s).2.2))])), (q 1, .inr (1, [.ref (q 2), .ref (q 3), .ref (q 4), .ref (q 5), .int (nI cnt)])), (q 2, .inl (cI, 80, .inl Kd)), (q 3, .inl (cI, 80, .inl Aa)), (q 4, .inl (cI, 80, .inl Ab)), (q 5, .inl (cI, 80, .inl Ac)), (q 7, .inl (cI, 168, .inl (((cloT n cnt Kd Aa Ab Ac s).1).2.1))), (q 9, .inl (cJ, 4032, .inr (.inl (((cloT n cnt Kd Aa Ab Ac s).1).1.2.1)))), (q 10, .inl (cI, 4032, .inl (((cloT n cnt Kd Aa Ab Ac s).1).2.2.1.1)))] rfl (by decide) rfl (by decide) (by decide) [(q 0, .inr (4, [.ref (q 1), .ref (q 6), .ref (q 11), .int (nI n), .int (bI ((cloT n cnt Kd Aa Ab Ac s).2.2))])), (q 1, .inr (1, [.ref (q 2), .ref (q 3), .ref (q 4), .ref (q 5), .int (nI cnt)])), (q 2, .inl (cI, 80, .inl Kd)), (q 3, .inl (cI, 80, .inl Aa)), (q 4, .inl (cI, 80, .inl Ab)), (q 5, .inl (cI, 80, .inl Ac)), (q 6, .inr (2, [.ref (q 7), .ref (q 8), .ref (q 9), .ref (q 10), .int (nI (((cloT n cnt Kd Aa Ab Ac s).2.1))), .int (nI (((cloT n cnt Kd Aa Ab Ac s).1).2.2.1.2)), .int (nI (((cloT n cnt Kd Aa Ab Ac s).1).2.2.2)), .int (((cloT n cnt Kd Aa Ab Ac s).1).1.2.2)])), (q 7, .inl (cI, 168, .inl (((cloT n cnt Kd Aa Ab Ac s).1).2.1))), (q 8, .inl (cI, 168, .inl (((cloT n cnt Kd Aa Ab Ac s).1).1.1))), (q 9, .inl (cJ, 4032, .inr (.inl (((cloT n cnt Kd Aa Ab Ac s).1).1.2.1)))), (q 10, .inl (cI, 4032, .inl (((cloT n cnt Kd Aa Ab Ac s).1).2.2.1.1)))] rfl (by decide) rfl dX3_link_35 ?_
  refine z_bif_eq (pc := 38) (tgt := 45) hC dX3_link_38 (by decide) (fun h38 => ?_) (fun h38 => ?_)
  · refine z_iconst (pc := 45) (v := (nI 0)) hC dX3_link_45 (by decide +kernel) ?_
    exact z_iret (pc := 46) hC hQ hRT (rfl) (by first | exact bI_f h38 | exact bI_t h38) (rfl) dX3_link_46
  · refine z_iconst (pc := 41) (v := (nI 1)) hC dX3_link_41 (by decide +kernel) ?_
    refine z_goto (pc := 42) (tgt := 46) hC dX3_link_42 (by decide) ?_
    exact z_iret (pc := 46) hC hQ hRT (rfl) (by first | exact bI_f h38 | exact bI_t h38) (rfl) dX3_link_46

set_option maxRecDepth 100000 in
set_option maxHeartbeats 4000000 in
theorem c_X3_rounds (l : Launch) (D : va_G) (cI cJ cZ : ClassId) (q : Nat → Nat) (n : Nat) (Kd : Nat → Int32) (Aa : Nat → Int32) (Ab : Nat → Int32) (Ac : Nat → Int32) (cnt : Nat) (s : CSt) (hn : n ≤ 24) (hcnt : cnt ≤ 80) (hax : ∀ k, k < cnt → axV n (Kd k) (Aa k) (Ab k) (Ac k)) : MI l yX3_rounds wsX3_rounds { frames := 6, cells := 0, slots := 0, locals := 147 } D (tyL cI cJ cZ) [.ref (q 0)] [(q 0, .inr (4, [.ref (q 1), .ref (q 6), .ref (q 11), .int (nI n), .int (bI (s.2.2))])), (q 1, .inr (1, [.ref (q 2), .ref (q 3), .ref (q 4), .ref (q 5), .int (nI cnt)])), (q 2, .inl (cI, 80, .inl Kd)), (q 3, .inl (cI, 80, .inl Aa)), (q 4, .inl (cI, 80, .inl Ab)), (q 5, .inl (cI, 80, .inl Ac)), (q 6, .inr (2, [.ref (q 7), .ref (q 8), .ref (q 9), .ref (q 10), .int (nI (s.2.1)), .int (nI ((s.1).2.2.1.2)), .int (nI ((s.1).2.2.2)), .int ((s.1).1.2.2)])), (q 7, .inl (cI, 168, .inl ((s.1).2.1))), (q 8, .inl (cI, 168, .inl ((s.1).1.1))), (q 9, .inl (cJ, 4032, .inr (.inl ((s.1).1.2.1)))), (q 10, .inl (cI, 4032, .inl ((s.1).2.2.1.1)))] [(q 0, .inr (4, [.ref (q 1), .ref (q 6), .ref (q 11), .int (nI n), .int (bI ((cloT n cnt Kd Aa Ab Ac s).2.2))])), (q 1, .inr (1, [.ref (q 2), .ref (q 3), .ref (q 4), .ref (q 5), .int (nI cnt)])), (q 2, .inl (cI, 80, .inl Kd)), (q 3, .inl (cI, 80, .inl Aa)), (q 4, .inl (cI, 80, .inl Ab)), (q 5, .inl (cI, 80, .inl Ac)), (q 6, .inr (2, [.ref (q 7), .ref (q 8), .ref (q 9), .ref (q 10), .int (nI ((cloT n cnt Kd Aa Ab Ac s).2.1)), .int (nI (((cloT n cnt Kd Aa Ab Ac s).1).2.2.1.2)), .int (nI (((cloT n cnt Kd Aa Ab Ac s).1).2.2.2)), .int (((cloT n cnt Kd Aa Ab Ac s).1).1.2.2)])), (q 7, .inl (cI, 168, .inl (((cloT n cnt Kd Aa Ab Ac s).1).2.1))), (q 8, .inl (cI, 168, .inl (((cloT n cnt Kd Aa Ab Ac s).1).1.1))), (q 9, .inl (cJ, 4032, .inr (.inl (((cloT n cnt Kd Aa Ab Ac s).1).1.2.1)))), (q 10, .inl (cI, 4032, .inl (((cloT n cnt Kd Aa Ab Ac s).1).2.2.1.1)))] (nI ((cloT n cnt Kd Aa Ab Ac s).1.2.2.2)) := by
  refine metI_of (cc := cX3_rounds) (maxL := 1) (ret := (some .int)) (by decide +kernel) rfl (Nat.le_of_ble_eq_true rfl) ?_
  intro K hC hRm hNL hDis hLis hRT hIni hQ
  have hinX1 : ∀ w ∈ wsX10, w ∈ wsX3_rounds := by decide +kernel
  refine z_aload_n (pc := 0) hC 0 dX3_rounds_0 rfl ?_
  refine z_callV_A (pc := 1) (y := yX3_closed) (wy := wsX3_closed) (rm := { frames := 5, cells := 0, slots := 0, locals := 127 }) (As := []) (rest := []) (na := 0) (C := RX3) (T := TX3) (NF := 5) (ci := 4) (wc := [(q 0, .inr (4, [.ref (q 1), .ref (q 6), .ref (q 11), .int (nI n), .int (bI (s.2.2))])), (q 1, .inr (1, [.ref (q 2), .ref (q 3), .ref (q 4), .ref (q 5), .int (nI cnt)])), (q 2, .inl (cI, 80, .inl Kd)), (q 3, .inl (cI, 80, .inl Aa)), (q 4, .inl (cI, 80, .inl Ab)), (q 5, .inl (cI, 80, .inl Ac)), (q 6, .inr (2, [.ref (q 7), .ref (q 8), .ref (q 9), .ref (q 10), .int (nI (s.2.1)), .int (nI ((s.1).2.2.1.2)), .int (nI ((s.1).2.2.2)), .int ((s.1).1.2.2)])), (q 7, .inl (cI, 168, .inl ((s.1).2.1))), (q 8, .inl (cI, 168, .inl ((s.1).1.1))), (q 9, .inl (cJ, 4032, .inr (.inl ((s.1).1.2.1)))), (q 10, .inl (cI, 4032, .inl ((s.1).2.2.1.1)))]) (wc2 := [(q 0, .inr (4, [.ref (q 1), .ref (q 6), .ref (q 11), .int (nI n), .int (bI ((cloT n cnt Kd Aa Ab Ac s).2.2))])), (q 1, .inr (1, [.ref (q 2), .ref (q 3), .ref (q 4), .ref (q 5), .int (nI cnt)])), (q 2, .inl (cI, 80, .inl Kd)), (q 3, .inl (cI, 80, .inl Aa)), (q 4, .inl (cI, 80, .inl Ab)), (q 5, .inl (cI, 80, .inl Ac)), (q 6, .inr (2, [.ref (q 7), .ref (q 8), .ref (q 9), .ref (q 10), .int (nI ((cloT n cnt Kd Aa Ab Ac s).2.1)), .int (nI (((cloT n cnt Kd Aa Ab Ac s).1).2.2.1.2)), .int (nI (((cloT n cnt Kd Aa Ab Ac s).1).2.2.2)), .int (((cloT n cnt Kd Aa Ab Ac s).1).1.2.2)])), (q 7, .inl (cI, 168, .inl (((cloT n cnt Kd Aa Ab Ac s).1).2.1))), (q 8, .inl (cI, 168, .inl (((cloT n cnt Kd Aa Ab Ac s).1).1.1))), (q 9, .inl (cJ, 4032, .inr (.inl (((cloT n cnt Kd Aa Ab Ac s).1).1.2.1)))), (q 10, .inl (cI, 4032, .inl (((cloT n cnt Kd Aa Ab Ac s).1).2.2.1.1)))]) hC hRm hDis hLis 0 rfl rfl gX3_rounds_X3_closed ⟨rfl, by decide +kernel, by decide +kernel⟩ rfl ⟨by decide, by decide⟩ ⟨by decide, by decide⟩ rfl (Nat.le_of_ble_eq_true rfl) (by decide +kernel) (c_X3_closed _ _ cI cJ cZ (q) (n) (Kd) (Aa) (Ab) (Ac) (cnt) (s) (hn) (hcnt) (hax)) [0, 1, 2, 3, 4, 5, 6, 7, 8, 9, 10] [] [0, 1, 2, 3, 4, 5, 6, 7, 8, 9, 10] [] rfl (by decide) rfl (by decide) (by decide) [(q 0, .inr (4, [.ref (q 1), .ref (q 6), .ref (q 11), .int (nI n), .int (bI ((cloT n cnt Kd Aa Ab Ac s).2.2))])), (q 1, .inr (1, [.ref (q 2), .ref (q 3), .ref (q 4), .ref (q 5), .int (nI cnt)])), (q 2, .inl (cI, 80, .inl Kd)), (q 3, .inl (cI, 80, .inl Aa)), (q 4, .inl (cI, 80, .inl Ab)), (q 5, .inl (cI, 80, .inl Ac)), (q 6, .inr (2, [.ref (q 7), .ref (q 8), .ref (q 9), .ref (q 10), .int (nI ((cloT n cnt Kd Aa Ab Ac s).2.1)), .int (nI (((cloT n cnt Kd Aa Ab Ac s).1).2.2.1.2)), .int (nI (((cloT n cnt Kd Aa Ab Ac s).1).2.2.2)), .int (((cloT n cnt Kd Aa Ab Ac s).1).1.2.2)])), (q 7, .inl (cI, 168, .inl (((cloT n cnt Kd Aa Ab Ac s).1).2.1))), (q 8, .inl (cI, 168, .inl (((cloT n cnt Kd Aa Ab Ac s).1).1.1))), (q 9, .inl (cJ, 4032, .inr (.inl (((cloT n cnt Kd Aa Ab Ac s).1).1.2.1)))), (q 10, .inl (cI, 4032, .inl (((cloT n cnt Kd Aa Ab Ac s).1).2.2.1.1)))] rfl (by decide) rfl dX3_rounds_1 ?_
  refine z_getN (pc := 4) (C := RX1) (T := TX1) (N := 8) hC hinX1 6 rfl rfl 6 (by decide) (by decide +kernel) rfl dX3_rounds_4 ?_
  exact z_iret (pc := 7) hC hQ hRT (rfl) (rfl) (rfl) dX3_rounds_7

set_option maxRecDepth 100000 in
set_option maxHeartbeats 4000000 in
theorem c_X3_facts (l : Launch) (D : va_G) (cI cJ cZ : ClassId) (q : Nat → Nat) (n : Nat) (Kd : Nat → Int32) (Aa : Nat → Int32) (Ab : Nat → Int32) (Ac : Nat → Int32) (cnt : Nat) (s : CSt) (hn : n ≤ 24) (hcnt : cnt ≤ 80) (hax : ∀ k, k < cnt → axV n (Kd k) (Aa k) (Ab k) (Ac k)) : MI l yX3_facts wsX3_facts { frames := 6, cells := 0, slots := 0, locals := 147 } D (tyL cI cJ cZ) [.ref (q 0)] [(q 0, .inr (4, [.ref (q 1), .ref (q 6), .ref (q 11), .int (nI n), .int (bI (s.2.2))])), (q 1, .inr (1, [.ref (q 2), .ref (q 3), .ref (q 4), .ref (q 5), .int (nI cnt)])), (q 2, .inl (cI, 80, .inl Kd)), (q 3, .inl (cI, 80, .inl Aa)), (q 4, .inl (cI, 80, .inl Ab)), (q 5, .inl (cI, 80, .inl Ac)), (q 6, .inr (2, [.ref (q 7), .ref (q 8), .ref (q 9), .ref (q 10), .int (nI (s.2.1)), .int (nI ((s.1).2.2.1.2)), .int (nI ((s.1).2.2.2)), .int ((s.1).1.2.2)])), (q 7, .inl (cI, 168, .inl ((s.1).2.1))), (q 8, .inl (cI, 168, .inl ((s.1).1.1))), (q 9, .inl (cJ, 4032, .inr (.inl ((s.1).1.2.1)))), (q 10, .inl (cI, 4032, .inl ((s.1).2.2.1.1)))] [(q 0, .inr (4, [.ref (q 1), .ref (q 6), .ref (q 11), .int (nI n), .int (bI ((cloT n cnt Kd Aa Ab Ac s).2.2))])), (q 1, .inr (1, [.ref (q 2), .ref (q 3), .ref (q 4), .ref (q 5), .int (nI cnt)])), (q 2, .inl (cI, 80, .inl Kd)), (q 3, .inl (cI, 80, .inl Aa)), (q 4, .inl (cI, 80, .inl Ab)), (q 5, .inl (cI, 80, .inl Ac)), (q 6, .inr (2, [.ref (q 7), .ref (q 8), .ref (q 9), .ref (q 10), .int (nI ((cloT n cnt Kd Aa Ab Ac s).2.1)), .int (nI (((cloT n cnt Kd Aa Ab Ac s).1).2.2.1.2)), .int (nI (((cloT n cnt Kd Aa Ab Ac s).1).2.2.2)), .int (((cloT n cnt Kd Aa Ab Ac s).1).1.2.2)])), (q 7, .inl (cI, 168, .inl (((cloT n cnt Kd Aa Ab Ac s).1).2.1))), (q 8, .inl (cI, 168, .inl (((cloT n cnt Kd Aa Ab Ac s).1).1.1))), (q 9, .inl (cJ, 4032, .inr (.inl (((cloT n cnt Kd Aa Ab Ac s).1).1.2.1)))), (q 10, .inl (cI, 4032, .inl (((cloT n cnt Kd Aa Ab Ac s).1).2.2.1.1)))] (nI ((cloT n cnt Kd Aa Ab Ac s).1.2.2.1.2)) := by
  refine metI_of (cc := cX3_facts) (maxL := 1) (ret := (some .int)) (by decide +kernel) rfl (Nat.le_of_ble_eq_true rfl) ?_
  intro K hC hRm hNL hDis hLis hRT hIni hQ
  have hinX1 : ∀ w ∈ wsX10, w ∈ wsX3_facts := by decide +kernel
  refine z_aload_n (pc := 0) hC 0 dX3_facts_0 rfl ?_
  refine z_callV_A (pc := 1) (y := yX3_closed) (wy := wsX3_closed) (rm := { frames := 5, cells := 0, slots := 0, locals := 127 }) (As := []) (rest := []) (na := 0) (C := RX3) (T := TX3) (NF := 5) (ci := 4) (wc := [(q 0, .inr (4, [.ref (q 1), .ref (q 6), .ref (q 11), .int (nI n), .int (bI (s.2.2))])), (q 1, .inr (1, [.ref (q 2), .ref (q 3), .ref (q 4), .ref (q 5), .int (nI cnt)])), (q 2, .inl (cI, 80, .inl Kd)), (q 3, .inl (cI, 80, .inl Aa)), (q 4, .inl (cI, 80, .inl Ab)), (q 5, .inl (cI, 80, .inl Ac)), (q 6, .inr (2, [.ref (q 7), .ref (q 8), .ref (q 9), .ref (q 10), .int (nI (s.2.1)), .int (nI ((s.1).2.2.1.2)), .int (nI ((s.1).2.2.2)), .int ((s.1).1.2.2)])), (q 7, .inl (cI, 168, .inl ((s.1).2.1))), (q 8, .inl (cI, 168, .inl ((s.1).1.1))), (q 9, .inl (cJ, 4032, .inr (.inl ((s.1).1.2.1)))), (q 10, .inl (cI, 4032, .inl ((s.1).2.2.1.1)))]) (wc2 := [(q 0, .inr (4, [.ref (q 1), .ref (q 6), .ref (q 11), .int (nI n), .int (bI ((cloT n cnt Kd Aa Ab Ac s).2.2))])), (q 1, .inr (1, [.ref (q 2), .ref (q 3), .ref (q 4), .ref (q 5), .int (nI cnt)])), (q 2, .inl (cI, 80, .inl Kd)), (q 3, .inl (cI, 80, .inl Aa)), (q 4, .inl (cI, 80, .inl Ab)), (q 5, .inl (cI, 80, .inl Ac)), (q 6, .inr (2, [.ref (q 7), .ref (q 8), .ref (q 9), .ref (q 10), .int (nI ((cloT n cnt Kd Aa Ab Ac s).2.1)), .int (nI (((cloT n cnt Kd Aa Ab Ac s).1).2.2.1.2)), .int (nI (((cloT n cnt Kd Aa Ab Ac s).1).2.2.2)), .int (((cloT n cnt Kd Aa Ab Ac s).1).1.2.2)])), (q 7, .inl (cI, 168, .inl (((cloT n cnt Kd Aa Ab Ac s).1).2.1))), (q 8, .inl (cI, 168, .inl (((cloT n cnt Kd Aa Ab Ac s).1).1.1))), (q 9, .inl (cJ, 4032, .inr (.inl (((cloT n cnt Kd Aa Ab Ac s).1).1.2.1)))), (q 10, .inl (cI, 4032, .inl (((cloT n cnt Kd Aa Ab Ac s).1).2.2.1.1)))]) hC hRm hDis hLis 0 rfl rfl gX3_facts_X3_closed ⟨rfl, by decide +kernel, by decide +kernel⟩ rfl ⟨by decide, by decide⟩ ⟨by decide, by decide⟩ rfl (Nat.le_of_ble_eq_true rfl) (by decide +kernel) (c_X3_closed _ _ cI cJ cZ (q) (n) (Kd) (Aa) (Ab) (Ac) (cnt) (s) (hn) (hcnt) (hax)) [0, 1, 2, 3, 4, 5, 6, 7, 8, 9, 10] [] [0, 1, 2, 3, 4, 5, 6, 7, 8, 9, 10] [] rfl (by decide) rfl (by decide) (by decide) [(q 0, .inr (4, [.ref (q 1), .ref (q 6), .ref (q 11), .int (nI n), .int (bI ((cloT n cnt Kd Aa Ab Ac s).2.2))])), (q 1, .inr (1, [.ref (q 2), .ref (q 3), .ref (q 4), .ref (q 5), .int (nI cnt)])), (q 2, .inl (cI, 80, .inl Kd)), (q 3, .inl (cI, 80, .inl Aa)), (q 4, .inl (cI, 80, .inl Ab)), (q 5, .inl (cI, 80, .inl Ac)), (q 6, .inr (2, [.ref (q 7), .ref (q 8), .ref (q 9), .ref (q 10), .int (nI ((cloT n cnt Kd Aa Ab Ac s).2.1)), .int (nI (((cloT n cnt Kd Aa Ab Ac s).1).2.2.1.2)), .int (nI (((cloT n cnt Kd Aa Ab Ac s).1).2.2.2)), .int (((cloT n cnt Kd Aa Ab Ac s).1).1.2.2)])), (q 7, .inl (cI, 168, .inl (((cloT n cnt Kd Aa Ab Ac s).1).2.1))), (q 8, .inl (cI, 168, .inl (((cloT n cnt Kd Aa Ab Ac s).1).1.1))), (q 9, .inl (cJ, 4032, .inr (.inl (((cloT n cnt Kd Aa Ab Ac s).1).1.2.1)))), (q 10, .inl (cI, 4032, .inl (((cloT n cnt Kd Aa Ab Ac s).1).2.2.1.1)))] rfl (by decide) rfl dX3_facts_1 ?_
  refine z_getN (pc := 4) (C := RX1) (T := TX1) (N := 8) hC hinX1 6 rfl rfl 5 (by decide) (by decide +kernel) rfl dX3_facts_4 ?_
  exact z_iret (pc := 7) hC hQ hRT (rfl) (rfl) (rfl) dX3_facts_7

set_option maxRecDepth 100000 in
set_option maxHeartbeats 4000000 in
theorem c_X3_fact_ok (l : Launch) (D : va_G) (cI cJ cZ : ClassId) (q : Nat → Nat) (n : Nat) (Kd : Nat → Int32) (Aa : Nat → Int32) (Ab : Nat → Int32) (Ac : Nat → Int32) (cnt : Nat) (s : CSt) (i : Nat) (hn : n ≤ 24) (hcnt : cnt ≤ 80) (hax : ∀ k, k < cnt → axV n (Kd k) (Aa k) (Ab k) (Ac k)) (hi : i < (cloT n cnt Kd Aa Ab Ac s).1.2.2.1.2) (hfc : (cloT n cnt Kd Aa Ab Ac s).1.2.2.1.2 ≤ 4032) : MI l yX3_fact wsX3_fact { frames := 6, cells := 0, slots := 0, locals := 147 } D (tyL cI cJ cZ) [.ref (q 0), .int (nI i)] [(q 0, .inr (4, [.ref (q 1), .ref (q 6), .ref (q 11), .int (nI n), .int (bI (s.2.2))])), (q 1, .inr (1, [.ref (q 2), .ref (q 3), .ref (q 4), .ref (q 5), .int (nI cnt)])), (q 2, .inl (cI, 80, .inl Kd)), (q 3, .inl (cI, 80, .inl Aa)), (q 4, .inl (cI, 80, .inl Ab)), (q 5, .inl (cI, 80, .inl Ac)), (q 6, .inr (2, [.ref (q 7), .ref (q 8), .ref (q 9), .ref (q 10), .int (nI (s.2.1)), .int (nI ((s.1).2.2.1.2)), .int (nI ((s.1).2.2.2)), .int ((s.1).1.2.2)])), (q 7, .inl (cI, 168, .inl ((s.1).2.1))), (q 8, .inl (cI, 168, .inl ((s.1).1.1))), (q 9, .inl (cJ, 4032, .inr (.inl ((s.1).1.2.1)))), (q 10, .inl (cI, 4032, .inl ((s.1).2.2.1.1)))] [(q 0, .inr (4, [.ref (q 1), .ref (q 6), .ref (q 11), .int (nI n), .int (bI ((cloT n cnt Kd Aa Ab Ac s).2.2))])), (q 1, .inr (1, [.ref (q 2), .ref (q 3), .ref (q 4), .ref (q 5), .int (nI cnt)])), (q 2, .inl (cI, 80, .inl Kd)), (q 3, .inl (cI, 80, .inl Aa)), (q 4, .inl (cI, 80, .inl Ab)), (q 5, .inl (cI, 80, .inl Ac)), (q 6, .inr (2, [.ref (q 7), .ref (q 8), .ref (q 9), .ref (q 10), .int (nI ((cloT n cnt Kd Aa Ab Ac s).2.1)), .int (nI (((cloT n cnt Kd Aa Ab Ac s).1).2.2.1.2)), .int (nI (((cloT n cnt Kd Aa Ab Ac s).1).2.2.2)), .int (((cloT n cnt Kd Aa Ab Ac s).1).1.2.2)])), (q 7, .inl (cI, 168, .inl (((cloT n cnt Kd Aa Ab Ac s).1).2.1))), (q 8, .inl (cI, 168, .inl (((cloT n cnt Kd Aa Ab Ac s).1).1.1))), (q 9, .inl (cJ, 4032, .inr (.inl (((cloT n cnt Kd Aa Ab Ac s).1).1.2.1)))), (q 10, .inl (cI, 4032, .inl (((cloT n cnt Kd Aa Ab Ac s).1).2.2.1.1)))] ((cloT n cnt Kd Aa Ab Ac s).1.2.2.1.1 i) := by
  refine metI_of (cc := cX3_fact) (maxL := 3) (ret := (some .int)) (by decide +kernel) rfl (Nat.le_of_ble_eq_true rfl) ?_
  intro K hC hRm hNL hDis hLis hRT hIni hQ
  have hinX1 : ∀ w ∈ wsX10, w ∈ wsX3_fact := by decide +kernel
  refine z_aload_n (pc := 0) hC 0 dX3_fact_0 rfl ?_
  refine z_callV_A (pc := 1) (y := yX3_closed) (wy := wsX3_closed) (rm := { frames := 5, cells := 0, slots := 0, locals := 127 }) (As := []) (rest := []) (na := 0) (C := RX3) (T := TX3) (NF := 5) (ci := 4) (wc := [(q 0, .inr (4, [.ref (q 1), .ref (q 6), .ref (q 11), .int (nI n), .int (bI (s.2.2))])), (q 1, .inr (1, [.ref (q 2), .ref (q 3), .ref (q 4), .ref (q 5), .int (nI cnt)])), (q 2, .inl (cI, 80, .inl Kd)), (q 3, .inl (cI, 80, .inl Aa)), (q 4, .inl (cI, 80, .inl Ab)), (q 5, .inl (cI, 80, .inl Ac)), (q 6, .inr (2, [.ref (q 7), .ref (q 8), .ref (q 9), .ref (q 10), .int (nI (s.2.1)), .int (nI ((s.1).2.2.1.2)), .int (nI ((s.1).2.2.2)), .int ((s.1).1.2.2)])), (q 7, .inl (cI, 168, .inl ((s.1).2.1))), (q 8, .inl (cI, 168, .inl ((s.1).1.1))), (q 9, .inl (cJ, 4032, .inr (.inl ((s.1).1.2.1)))), (q 10, .inl (cI, 4032, .inl ((s.1).2.2.1.1)))]) (wc2 := [(q 0, .inr (4, [.ref (q 1), .ref (q 6), .ref (q 11), .int (nI n), .int (bI ((cloT n cnt Kd Aa Ab Ac s).2.2))])), (q 1, .inr (1, [.ref (q 2), .ref (q 3), .ref (q 4), .ref (q 5), .int (nI cnt)])), (q 2, .inl (cI, 80, .inl Kd)), (q 3, .inl (cI, 80, .inl Aa)), (q 4, .inl (cI, 80, .inl Ab)), (q 5, .inl (cI, 80, .inl Ac)), (q 6, .inr (2, [.ref (q 7), .ref (q 8), .ref (q 9), .ref (q 10), .int (nI ((cloT n cnt Kd Aa Ab Ac s).2.1)), .int (nI (((cloT n cnt Kd Aa Ab Ac s).1).2.2.1.2)), .int (nI (((cloT n cnt Kd Aa Ab Ac s).1).2.2.2)), .int (((cloT n cnt Kd Aa Ab Ac s).1).1.2.2)])), (q 7, .inl (cI, 168, .inl (((cloT n cnt Kd Aa Ab Ac s).1).2.1))), (q 8, .inl (cI, 168, .inl (((cloT n cnt Kd Aa Ab Ac s).1).1.1))), (q 9, .inl (cJ, 4032, .inr (.inl (((cloT n cnt Kd Aa Ab Ac s).1).1.2.1)))), (q 10, .inl (cI, 4032, .inl (((cloT n cnt Kd Aa Ab Ac s).1).2.2.1.1)))]) hC hRm hDis hLis 0 rfl rfl gX3_fact_X3_closed ⟨rfl, by decide +kernel, by decide +kernel⟩ rfl ⟨by decide, by decide⟩ ⟨by decide, by decide⟩ rfl (Nat.le_of_ble_eq_true rfl) (by decide +kernel) (c_X3_closed _ _ cI cJ cZ (q) (n) (Kd) (Aa) (Ab) (Ac) (cnt) (s) (hn) (hcnt) (hax)) [0, 1, 2, 3, 4, 5, 6, 7, 8, 9, 10] [] [0, 1, 2, 3, 4, 5, 6, 7, 8, 9, 10] [] rfl (by decide) rfl (by decide) (by decide) [(q 0, .inr (4, [.ref (q 1), .ref (q 6), .ref (q 11), .int (nI n), .int (bI ((cloT n cnt Kd Aa Ab Ac s).2.2))])), (q 1, .inr (1, [.ref (q 2), .ref (q 3), .ref (q 4), .ref (q 5), .int (nI cnt)])), (q 2, .inl (cI, 80, .inl Kd)), (q 3, .inl (cI, 80, .inl Aa)), (q 4, .inl (cI, 80, .inl Ab)), (q 5, .inl (cI, 80, .inl Ac)), (q 6, .inr (2, [.ref (q 7), .ref (q 8), .ref (q 9), .ref (q 10), .int (nI ((cloT n cnt Kd Aa Ab Ac s).2.1)), .int (nI (((cloT n cnt Kd Aa Ab Ac s).1).2.2.1.2)), .int (nI (((cloT n cnt Kd Aa Ab Ac s).1).2.2.2)), .int (((cloT n cnt Kd Aa Ab Ac s).1).1.2.2)])), (q 7, .inl (cI, 168, .inl (((cloT n cnt Kd Aa Ab Ac s).1).2.1))), (q 8, .inl (cI, 168, .inl (((cloT n cnt Kd Aa Ab Ac s).1).1.1))), (q 9, .inl (cJ, 4032, .inr (.inl (((cloT n cnt Kd Aa Ab Ac s).1).1.2.1)))), (q 10, .inl (cI, 4032, .inl (((cloT n cnt Kd Aa Ab Ac s).1).2.2.1.1)))] rfl (by decide) rfl dX3_fact_1 ?_
  refine z_astore_n (pc := 4) hC hNL [(2, .ref (q 6)), (0, .ref (q 0)), (1, .int (nI i))] dX3_fact_4 (by decide) rfl ?_
  refine z_iload_n (pc := 5) hC 2 dX3_fact_5 rfl ?_
  refine z_nif_lt (pc := 6) (tgt := 17) hC dX3_fact_6 (by decide) (by omega) (fun h6 => absurd h6 (by exact id)) (fun h6 => ?_)
  refine z_iload_n (pc := 9) hC 2 dX3_fact_9 rfl ?_
  refine z_aload_n (pc := 10) hC 0 dX3_fact_10 rfl ?_
  refine z_getN (pc := 11) (C := RX1) (T := TX1) (N := 8) hC hinX1 6 rfl rfl 5 (by decide) (by decide +kernel) rfl dX3_fact_11 ?_
  refine z_ncmp_lt (pc := 14) (tgt := 27) hC dX3_fact_14 (by decide) (by omega) (by omega) (fun h14 => ?_) (fun h14 => absurd h14 (by omega))
  refine z_aload_n (pc := 27) hC 0 dX3_fact_27 rfl ?_
  refine z_getN (pc := 28) (C := RX1) (T := TX1) (N := 8) hC hinX1 6 rfl rfl 3 (by decide) (by decide +kernel) rfl dX3_fact_28 ?_
  refine z_iload_n (pc := 31) hC 2 dX3_fact_31 rfl ?_
  refine z_iald (pc := 32) (v := ((((cloT n cnt Kd Aa Ab Ac s).1).2.2.1.1) i)) hC 10 0 rfl rfl (by omega) (by decide) (rfl) dX3_fact_32 ?_
  exact z_iret (pc := 33) hC hQ hRT (rfl) (rfl) (rfl) dX3_fact_33

def toldF (G : Nat → Int64) (c w : Int32) : Int32 := if flw G c = true then (if w = nI 0 then rdO (G (tn c)) else if w = nI 1 then axO (G (tn c)) else if w = nI 2 then fiO (G (tn c)) else if w = nI 3 then seO (G (tn c)) else (-1)) else (-1)
theorem toldF_f {G : Nat → Int64} {c w : Int32} (h : flw G c = false) : toldF G c w = (-1) := if_neg (by rw [h]; decide)
theorem toldF_t {G : Nat → Int64} {j : Nat} {w : Int32} (hj : j < 4032) (h : flw G (nI j) = true) : toldF G (nI j) w = (if w = nI 0 then rdO (G j) else if w = nI 1 then axO (G j) else if w = nI 2 then fiO (G j) else if w = nI 3 then seO (G j) else (-1)) := by
  unfold toldF
  rw [if_pos h, tn_nI (by omega)]
theorem flw_of {G : Nat → Int64} {c : Int32} (h : flw G c = true) : clV 4032 c := by
  have := of_decide_eq_true h
  exact nI_not_neg (by decide) this.1 this.2.1

set_option maxRecDepth 100000 in
set_option maxHeartbeats 4000000 in
theorem c_X3_told (l : Launch) (D : va_G) (cI cJ cZ : ClassId) (q : Nat → Nat) (n : Nat) (Kd : Nat → Int32) (Aa : Nat → Int32) (Ab : Nat → Int32) (Ac : Nat → Int32) (cnt : Nat) (s : CSt) (p0 : Int32) (w0 : Int32) (hn : n ≤ 24) (hcnt : cnt ≤ 80) (hax : ∀ k, k < cnt → axV n (Kd k) (Aa k) (Ab k) (Ac k)) : MI l yX3_told wsX3_told { frames := 6, cells := 0, slots := 0, locals := 147 } D (tyL cI cJ cZ) [.ref (q 0), .int p0, .int w0] [(q 0, .inr (4, [.ref (q 1), .ref (q 6), .ref (q 11), .int (nI n), .int (bI (s.2.2))])), (q 1, .inr (1, [.ref (q 2), .ref (q 3), .ref (q 4), .ref (q 5), .int (nI cnt)])), (q 2, .inl (cI, 80, .inl Kd)), (q 3, .inl (cI, 80, .inl Aa)), (q 4, .inl (cI, 80, .inl Ab)), (q 5, .inl (cI, 80, .inl Ac)), (q 6, .inr (2, [.ref (q 7), .ref (q 8), .ref (q 9), .ref (q 10), .int (nI (s.2.1)), .int (nI ((s.1).2.2.1.2)), .int (nI ((s.1).2.2.2)), .int ((s.1).1.2.2)])), (q 7, .inl (cI, 168, .inl ((s.1).2.1))), (q 8, .inl (cI, 168, .inl ((s.1).1.1))), (q 9, .inl (cJ, 4032, .inr (.inl ((s.1).1.2.1)))), (q 10, .inl (cI, 4032, .inl ((s.1).2.2.1.1)))] [(q 0, .inr (4, [.ref (q 1), .ref (q 6), .ref (q 11), .int (nI n), .int (bI ((cloT n cnt Kd Aa Ab Ac s).2.2))])), (q 1, .inr (1, [.ref (q 2), .ref (q 3), .ref (q 4), .ref (q 5), .int (nI cnt)])), (q 2, .inl (cI, 80, .inl Kd)), (q 3, .inl (cI, 80, .inl Aa)), (q 4, .inl (cI, 80, .inl Ab)), (q 5, .inl (cI, 80, .inl Ac)), (q 6, .inr (2, [.ref (q 7), .ref (q 8), .ref (q 9), .ref (q 10), .int (nI ((cloT n cnt Kd Aa Ab Ac s).2.1)), .int (nI (((cloT n cnt Kd Aa Ab Ac s).1).2.2.1.2)), .int (nI (((cloT n cnt Kd Aa Ab Ac s).1).2.2.2)), .int (((cloT n cnt Kd Aa Ab Ac s).1).1.2.2)])), (q 7, .inl (cI, 168, .inl (((cloT n cnt Kd Aa Ab Ac s).1).2.1))), (q 8, .inl (cI, 168, .inl (((cloT n cnt Kd Aa Ab Ac s).1).1.1))), (q 9, .inl (cJ, 4032, .inr (.inl (((cloT n cnt Kd Aa Ab Ac s).1).1.2.1)))), (q 10, .inl (cI, 4032, .inl (((cloT n cnt Kd Aa Ab Ac s).1).2.2.1.1)))] (toldF (cloT n cnt Kd Aa Ab Ac s).1.1.2.1 p0 w0) := by
  refine metI_of (cc := cX3_told) (maxL := 4) (ret := (some .int)) (by decide +kernel) rfl (Nat.le_of_ble_eq_true rfl) ?_
  intro K hC hRm hNL hDis hLis hRT hIni hQ
  refine z_aload_n (pc := 0) hC 0 dX3_told_0 rfl ?_
  refine z_callV_A (pc := 1) (y := yX3_closed) (wy := wsX3_closed) (rm := { frames := 5, cells := 0, slots := 0, locals := 127 }) (As := []) (rest := []) (na := 0) (C := RX3) (T := TX3) (NF := 5) (ci := 4) (wc := [(q 0, .inr (4, [.ref (q 1), .ref (q 6), .ref (q 11), .int (nI n), .int (bI (s.2.2))])), (q 1, .inr (1, [.ref (q 2), .ref (q 3), .ref (q 4), .ref (q 5), .int (nI cnt)])), (q 2, .inl (cI, 80, .inl Kd)), (q 3, .inl (cI, 80, .inl Aa)), (q 4, .inl (cI, 80, .inl Ab)), (q 5, .inl (cI, 80, .inl Ac)), (q 6, .inr (2, [.ref (q 7), .ref (q 8), .ref (q 9), .ref (q 10), .int (nI (s.2.1)), .int (nI ((s.1).2.2.1.2)), .int (nI ((s.1).2.2.2)), .int ((s.1).1.2.2)])), (q 7, .inl (cI, 168, .inl ((s.1).2.1))), (q 8, .inl (cI, 168, .inl ((s.1).1.1))), (q 9, .inl (cJ, 4032, .inr (.inl ((s.1).1.2.1)))), (q 10, .inl (cI, 4032, .inl ((s.1).2.2.1.1)))]) (wc2 := [(q 0, .inr (4, [.ref (q 1), .ref (q 6), .ref (q 11), .int (nI n), .int (bI ((cloT n cnt Kd Aa Ab Ac s).2.2))])), (q 1, .inr (1, [.ref (q 2), .ref (q 3), .ref (q 4), .ref (q 5), .int (nI cnt)])), (q 2, .inl (cI, 80, .inl Kd)), (q 3, .inl (cI, 80, .inl Aa)), (q 4, .inl (cI, 80, .inl Ab)), (q 5, .inl (cI, 80, .inl Ac)), (q 6, .inr (2, [.ref (q 7), .ref (q 8), .ref (q 9), .ref (q 10), .int (nI ((cloT n cnt Kd Aa Ab Ac s).2.1)), .int (nI (((cloT n cnt Kd Aa Ab Ac s).1).2.2.1.2)), .int (nI (((cloT n cnt Kd Aa Ab Ac s).1).2.2.2)), .int (((cloT n cnt Kd Aa Ab Ac s).1).1.2.2)])), (q 7, .inl (cI, 168, .inl (((cloT n cnt Kd Aa Ab Ac s).1).2.1))), (q 8, .inl (cI, 168, .inl (((cloT n cnt Kd Aa Ab Ac s).1).1.1))), (q 9, .inl (cJ, 4032, .inr (.inl (((cloT n cnt Kd Aa Ab Ac s).1).1.2.1)))), (q 10, .inl (cI, 4032, .inl (((cloT n cnt Kd Aa Ab Ac s).1).2.2.1.1)))]) hC hRm hDis hLis 0 rfl rfl gX3_told_X3_closed ⟨rfl, by decide +kernel, by decide +kernel⟩ rfl ⟨by decide, by decide⟩ ⟨by decide, by decide⟩ rfl (Nat.le_of_ble_eq_true rfl) (by decide +kernel) (c_X3_closed _ _ cI cJ cZ (q) (n) (Kd) (Aa) (Ab) (Ac) (cnt) (s) (hn) (hcnt) (hax)) [0, 1, 2, 3, 4, 5, 6, 7, 8, 9, 10] [] [0, 1, 2, 3, 4, 5, 6, 7, 8, 9, 10] [] rfl (by decide) rfl (by decide) (by decide) [(q 0, .inr (4, [.ref (q 1), .ref (q 6), .ref (q 11), .int (nI n), .int (bI ((cloT n cnt Kd Aa Ab Ac s).2.2))])), (q 1, .inr (1, [.ref (q 2), .ref (q 3), .ref (q 4), .ref (q 5), .int (nI cnt)])), (q 2, .inl (cI, 80, .inl Kd)), (q 3, .inl (cI, 80, .inl Aa)), (q 4, .inl (cI, 80, .inl Ab)), (q 5, .inl (cI, 80, .inl Ac)), (q 6, .inr (2, [.ref (q 7), .ref (q 8), .ref (q 9), .ref (q 10), .int (nI ((cloT n cnt Kd Aa Ab Ac s).2.1)), .int (nI (((cloT n cnt Kd Aa Ab Ac s).1).2.2.1.2)), .int (nI (((cloT n cnt Kd Aa Ab Ac s).1).2.2.2)), .int (((cloT n cnt Kd Aa Ab Ac s).1).1.2.2)])), (q 7, .inl (cI, 168, .inl (((cloT n cnt Kd Aa Ab Ac s).1).2.1))), (q 8, .inl (cI, 168, .inl (((cloT n cnt Kd Aa Ab Ac s).1).1.1))), (q 9, .inl (cJ, 4032, .inr (.inl (((cloT n cnt Kd Aa Ab Ac s).1).1.2.1)))), (q 10, .inl (cI, 4032, .inl (((cloT n cnt Kd Aa Ab Ac s).1).2.2.1.1)))] rfl (by decide) rfl dX3_told_1 ?_
  refine z_astore_n (pc := 4) hC hNL [(3, .ref (q 6)), (0, .ref (q 0)), (1, .int p0), (2, .int w0)] dX3_told_4 (by decide) rfl ?_
  refine z_aload_n (pc := 5) hC 0 dX3_told_5 rfl ?_
  refine z_iload_n (pc := 6) hC 2 dX3_told_6 rfl ?_
  refine z_callVN_I (pc := 7) (y := yX1_follows) (wy := wsX1_follows) (rm := { frames := 0, cells := 0, slots := 0, locals := 0 }) (As := [.int p0]) (rest := []) (na := 1) (C := RX1) (T := TX1) (NF := 8) (ci := 2) (wc := [(q 6, .inr (2, [.ref (q 7), .ref (q 8), .ref (q 9), .ref (q 10), .int (nI ((cloT n cnt Kd Aa Ab Ac s).2.1)), .int (nI (((cloT n cnt Kd Aa Ab Ac s).1).2.2.1.2)), .int (nI (((cloT n cnt Kd Aa Ab Ac s).1).2.2.2)), .int (((cloT n cnt Kd Aa Ab Ac s).1).1.2.2)])), (q 9, .inl (cJ, 4032, .inr (.inl (((cloT n cnt Kd Aa Ab Ac s).1).1.2.1))))]) (wc2 := [(q 6, .inr (2, [.ref (q 7), .ref (q 8), .ref (q 9), .ref (q 10), .int (nI ((cloT n cnt Kd Aa Ab Ac s).2.1)), .int (nI (((cloT n cnt Kd Aa Ab Ac s).1).2.2.1.2)), .int (nI (((cloT n cnt Kd Aa Ab Ac s).1).2.2.2)), .int (((cloT n cnt Kd Aa Ab Ac s).1).1.2.2)])), (q 9, .inl (cJ, 4032, .inr (.inl (((cloT n cnt Kd Aa Ab Ac s).1).1.2.1))))]) hC hRm hDis hLis 0 rfl rfl gX3_told_X1_follows_n89 (by decide +kernel) (by decide +kernel) (by decide +kernel) (by decide +kernel) ⟨by decide +kernel, by decide +kernel⟩ rfl ⟨by decide, by decide⟩ ⟨by decide, by decide⟩ rfl (Nat.le_of_ble_eq_true rfl) (by decide +kernel) (c_X1_follows _ _ cI cJ cZ (q) (((cloT n cnt Kd Aa Ab Ac s).1).1.2.1) (nI ((cloT n cnt Kd Aa Ab Ac s).2.1)) (nI (((cloT n cnt Kd Aa Ab Ac s).1).2.2.1.2)) (nI (((cloT n cnt Kd Aa Ab Ac s).1).2.2.2)) (((cloT n cnt Kd Aa Ab Ac s).1).1.2.2) (p0) ) [6, 9] [0, 1, 2, 3, 4, 5, 7, 8, 10] [0, 1, 2, 3, 4, 5, 9, 6, 7, 10, 8] [(q 0, .inr (4, [.ref (q 1), .ref (q 6), .ref (q 11), .int (nI n), .int (bI ((cloT n cnt Kd Aa Ab Ac s).2.2))])), (q 1, .inr (1, [.ref (q 2), .ref (q 3), .ref (q 4), .ref (q 5), .int (nI cnt)])), (q 2, .inl (cI, 80, .inl Kd)), (q 3, .inl (cI, 80, .inl Aa)), (q 4, .inl (cI, 80, .inl Ab)), (q 5, .inl (cI, 80, .inl Ac)), (q 7, .inl (cI, 168, .inl (((cloT n cnt Kd Aa Ab Ac s).1).2.1))), (q 8, .inl (cI, 168, .inl (((cloT n cnt Kd Aa Ab Ac s).1).1.1))), (q 10, .inl (cI, 4032, .inl (((cloT n cnt Kd Aa Ab Ac s).1).2.2.1.1)))] rfl (by decide) rfl (by decide) (by decide) [(q 0, .inr (4, [.ref (q 1), .ref (q 6), .ref (q 11), .int (nI n), .int (bI ((cloT n cnt Kd Aa Ab Ac s).2.2))])), (q 1, .inr (1, [.ref (q 2), .ref (q 3), .ref (q 4), .ref (q 5), .int (nI cnt)])), (q 2, .inl (cI, 80, .inl Kd)), (q 3, .inl (cI, 80, .inl Aa)), (q 4, .inl (cI, 80, .inl Ab)), (q 5, .inl (cI, 80, .inl Ac)), (q 6, .inr (2, [.ref (q 7), .ref (q 8), .ref (q 9), .ref (q 10), .int (nI ((cloT n cnt Kd Aa Ab Ac s).2.1)), .int (nI (((cloT n cnt Kd Aa Ab Ac s).1).2.2.1.2)), .int (nI (((cloT n cnt Kd Aa Ab Ac s).1).2.2.2)), .int (((cloT n cnt Kd Aa Ab Ac s).1).1.2.2)])), (q 7, .inl (cI, 168, .inl (((cloT n cnt Kd Aa Ab Ac s).1).2.1))), (q 8, .inl (cI, 168, .inl (((cloT n cnt Kd Aa Ab Ac s).1).1.1))), (q 9, .inl (cJ, 4032, .inr (.inl (((cloT n cnt Kd Aa Ab Ac s).1).1.2.1)))), (q 10, .inl (cI, 4032, .inl (((cloT n cnt Kd Aa Ab Ac s).1).2.2.1.1)))] rfl (by decide) rfl dX3_told_7 ?_
  refine z_bif_ne (pc := 10) (tgt := 15) hC dX3_told_10 (by decide) (fun h10 => ?_) (fun h10 => ?_)
  · obtain ⟨j, hj, ej⟩ := flw_of h10
    subst ej
    refine z_iload_n (pc := 15) hC 3 dX3_told_15 rfl ?_
    by_cases e16_0 : w0 = nI 0
    · refine z_tableIn (pc := 16) (x := w0) (off := 32) (tgt := 48) hC dX3_told_16 (by rw [e16_0]; decide +kernel) (by rw [e16_0]; decide +kernel) (by rw [e16_0]; decide +kernel) (by decide) ?_
      refine z_aload_n (pc := 48) hC 0 dX3_told_48 rfl ?_
      refine z_iload_n (pc := 49) hC 2 dX3_told_49 rfl ?_
      refine z_callVN_I (pc := 50) (y := yX1_roundOf) (wy := wsX1_roundOf) (rm := { frames := 0, cells := 0, slots := 0, locals := 0 }) (As := [.int (nI j)]) (rest := []) (na := 1) (C := RX1) (T := TX1) (NF := 8) (ci := 2) (wc := [(q 6, .inr (2, [.ref (q 7), .ref (q 8), .ref (q 9), .ref (q 10), .int (nI ((cloT n cnt Kd Aa Ab Ac s).2.1)), .int (nI (((cloT n cnt Kd Aa Ab Ac s).1).2.2.1.2)), .int (nI (((cloT n cnt Kd Aa Ab Ac s).1).2.2.2)), .int (((cloT n cnt Kd Aa Ab Ac s).1).1.2.2)])), (q 9, .inl (cJ, 4032, .inr (.inl (((cloT n cnt Kd Aa Ab Ac s).1).1.2.1))))]) (wc2 := [(q 6, .inr (2, [.ref (q 7), .ref (q 8), .ref (q 9), .ref (q 10), .int (nI ((cloT n cnt Kd Aa Ab Ac s).2.1)), .int (nI (((cloT n cnt Kd Aa Ab Ac s).1).2.2.1.2)), .int (nI (((cloT n cnt Kd Aa Ab Ac s).1).2.2.2)), .int (((cloT n cnt Kd Aa Ab Ac s).1).1.2.2)])), (q 9, .inl (cJ, 4032, .inr (.inl (((cloT n cnt Kd Aa Ab Ac s).1).1.2.1))))]) hC hRm hDis hLis 0 rfl rfl gX3_told_X1_roundOf_n92 (by decide +kernel) (by decide +kernel) (by decide +kernel) (by decide +kernel) ⟨by decide +kernel, by decide +kernel⟩ rfl ⟨by decide, by decide⟩ ⟨by decide, by decide⟩ rfl (Nat.le_of_ble_eq_true rfl) (by decide +kernel) (c_X1_roundOf _ _ cI cJ cZ (q) (((cloT n cnt Kd Aa Ab Ac s).1).1.2.1) (nI ((cloT n cnt Kd Aa Ab Ac s).2.1)) (nI (((cloT n cnt Kd Aa Ab Ac s).1).2.2.1.2)) (nI (((cloT n cnt Kd Aa Ab Ac s).1).2.2.2)) (((cloT n cnt Kd Aa Ab Ac s).1).1.2.2) (j) (hj)) [6, 9] [0, 1, 2, 3, 4, 5, 7, 8, 10] [0, 1, 2, 3, 4, 5, 9, 6, 7, 10, 8] [(q 0, .inr (4, [.ref (q 1), .ref (q 6), .ref (q 11), .int (nI n), .int (bI ((cloT n cnt Kd Aa Ab Ac s).2.2))])), (q 1, .inr (1, [.ref (q 2), .ref (q 3), .ref (q 4), .ref (q 5), .int (nI cnt)])), (q 2, .inl (cI, 80, .inl Kd)), (q 3, .inl (cI, 80, .inl Aa)), (q 4, .inl (cI, 80, .inl Ab)), (q 5, .inl (cI, 80, .inl Ac)), (q 7, .inl (cI, 168, .inl (((cloT n cnt Kd Aa Ab Ac s).1).2.1))), (q 8, .inl (cI, 168, .inl (((cloT n cnt Kd Aa Ab Ac s).1).1.1))), (q 10, .inl (cI, 4032, .inl (((cloT n cnt Kd Aa Ab Ac s).1).2.2.1.1)))] rfl (by decide) rfl (by decide) (by decide) [(q 0, .inr (4, [.ref (q 1), .ref (q 6), .ref (q 11), .int (nI n), .int (bI ((cloT n cnt Kd Aa Ab Ac s).2.2))])), (q 1, .inr (1, [.ref (q 2), .ref (q 3), .ref (q 4), .ref (q 5), .int (nI cnt)])), (q 2, .inl (cI, 80, .inl Kd)), (q 3, .inl (cI, 80, .inl Aa)), (q 4, .inl (cI, 80, .inl Ab)), (q 5, .inl (cI, 80, .inl Ac)), (q 6, .inr (2, [.ref (q 7), .ref (q 8), .ref (q 9), .ref (q 10), .int (nI ((cloT n cnt Kd Aa Ab Ac s).2.1)), .int (nI (((cloT n cnt Kd Aa Ab Ac s).1).2.2.1.2)), .int (nI (((cloT n cnt Kd Aa Ab Ac s).1).2.2.2)), .int (((cloT n cnt Kd Aa Ab Ac s).1).1.2.2)])), (q 7, .inl (cI, 168, .inl (((cloT n cnt Kd Aa Ab Ac s).1).2.1))), (q 8, .inl (cI, 168, .inl (((cloT n cnt Kd Aa Ab Ac s).1).1.1))), (q 9, .inl (cJ, 4032, .inr (.inl (((cloT n cnt Kd Aa Ab Ac s).1).1.2.1)))), (q 10, .inl (cI, 4032, .inl (((cloT n cnt Kd Aa Ab Ac s).1).2.2.1.1)))] rfl (by decide) rfl dX3_told_50 ?_
      exact z_iret (pc := 53) hC hQ hRT (rfl) (by rw [toldF_t hj h10, if_pos e16_0]) (rfl) dX3_told_53
    by_cases e16_1 : w0 = nI 1
    · refine z_tableIn (pc := 16) (x := w0) (off := 38) (tgt := 54) hC dX3_told_16 (by rw [e16_1]; decide +kernel) (by rw [e16_1]; decide +kernel) (by rw [e16_1]; decide +kernel) (by decide) ?_
      refine z_aload_n (pc := 54) hC 0 dX3_told_54 rfl ?_
      refine z_iload_n (pc := 55) hC 2 dX3_told_55 rfl ?_
      refine z_callVN_I (pc := 56) (y := yX1_axiomOf) (wy := wsX1_axiomOf) (rm := { frames := 0, cells := 0, slots := 0, locals := 0 }) (As := [.int (nI j)]) (rest := []) (na := 1) (C := RX1) (T := TX1) (NF := 8) (ci := 2) (wc := [(q 6, .inr (2, [.ref (q 7), .ref (q 8), .ref (q 9), .ref (q 10), .int (nI ((cloT n cnt Kd Aa Ab Ac s).2.1)), .int (nI (((cloT n cnt Kd Aa Ab Ac s).1).2.2.1.2)), .int (nI (((cloT n cnt Kd Aa Ab Ac s).1).2.2.2)), .int (((cloT n cnt Kd Aa Ab Ac s).1).1.2.2)])), (q 9, .inl (cJ, 4032, .inr (.inl (((cloT n cnt Kd Aa Ab Ac s).1).1.2.1))))]) (wc2 := [(q 6, .inr (2, [.ref (q 7), .ref (q 8), .ref (q 9), .ref (q 10), .int (nI ((cloT n cnt Kd Aa Ab Ac s).2.1)), .int (nI (((cloT n cnt Kd Aa Ab Ac s).1).2.2.1.2)), .int (nI (((cloT n cnt Kd Aa Ab Ac s).1).2.2.2)), .int (((cloT n cnt Kd Aa Ab Ac s).1).1.2.2)])), (q 9, .inl (cJ, 4032, .inr (.inl (((cloT n cnt Kd Aa Ab Ac s).1).1.2.1))))]) hC hRm hDis hLis 0 rfl rfl gX3_told_X1_axiomOf_n95 (by decide +kernel) (by decide +kernel) (by decide +kernel) (by decide +kernel) ⟨by decide +kernel, by decide +kernel⟩ rfl ⟨by decide, by decide⟩ ⟨by decide, by decide⟩ rfl (Nat.le_of_ble_eq_true rfl) (by decide +kernel) (c_X1_axiomOf _ _ cI cJ cZ (q) (((cloT n cnt Kd Aa Ab Ac s).1).1.2.1) (nI ((cloT n cnt Kd Aa Ab Ac s).2.1)) (nI (((cloT n cnt Kd Aa Ab Ac s).1).2.2.1.2)) (nI (((cloT n cnt Kd Aa Ab Ac s).1).2.2.2)) (((cloT n cnt Kd Aa Ab Ac s).1).1.2.2) (j) (hj)) [6, 9] [0, 1, 2, 3, 4, 5, 7, 8, 10] [0, 1, 2, 3, 4, 5, 9, 6, 7, 10, 8] [(q 0, .inr (4, [.ref (q 1), .ref (q 6), .ref (q 11), .int (nI n), .int (bI ((cloT n cnt Kd Aa Ab Ac s).2.2))])), (q 1, .inr (1, [.ref (q 2), .ref (q 3), .ref (q 4), .ref (q 5), .int (nI cnt)])), (q 2, .inl (cI, 80, .inl Kd)), (q 3, .inl (cI, 80, .inl Aa)), (q 4, .inl (cI, 80, .inl Ab)), (q 5, .inl (cI, 80, .inl Ac)), (q 7, .inl (cI, 168, .inl (((cloT n cnt Kd Aa Ab Ac s).1).2.1))), (q 8, .inl (cI, 168, .inl (((cloT n cnt Kd Aa Ab Ac s).1).1.1))), (q 10, .inl (cI, 4032, .inl (((cloT n cnt Kd Aa Ab Ac s).1).2.2.1.1)))] rfl (by decide) rfl (by decide) (by decide) [(q 0, .inr (4, [.ref (q 1), .ref (q 6), .ref (q 11), .int (nI n), .int (bI ((cloT n cnt Kd Aa Ab Ac s).2.2))])), (q 1, .inr (1, [.ref (q 2), .ref (q 3), .ref (q 4), .ref (q 5), .int (nI cnt)])), (q 2, .inl (cI, 80, .inl Kd)), (q 3, .inl (cI, 80, .inl Aa)), (q 4, .inl (cI, 80, .inl Ab)), (q 5, .inl (cI, 80, .inl Ac)), (q 6, .inr (2, [.ref (q 7), .ref (q 8), .ref (q 9), .ref (q 10), .int (nI ((cloT n cnt Kd Aa Ab Ac s).2.1)), .int (nI (((cloT n cnt Kd Aa Ab Ac s).1).2.2.1.2)), .int (nI (((cloT n cnt Kd Aa Ab Ac s).1).2.2.2)), .int (((cloT n cnt Kd Aa Ab Ac s).1).1.2.2)])), (q 7, .inl (cI, 168, .inl (((cloT n cnt Kd Aa Ab Ac s).1).2.1))), (q 8, .inl (cI, 168, .inl (((cloT n cnt Kd Aa Ab Ac s).1).1.1))), (q 9, .inl (cJ, 4032, .inr (.inl (((cloT n cnt Kd Aa Ab Ac s).1).1.2.1)))), (q 10, .inl (cI, 4032, .inl (((cloT n cnt Kd Aa Ab Ac s).1).2.2.1.1)))] rfl (by decide) rfl dX3_told_56 ?_
      exact z_iret (pc := 59) hC hQ hRT (rfl) (by rw [toldF_t hj h10, if_neg e16_0, if_pos e16_1]) (rfl) dX3_told_59
    by_cases e16_2 : w0 = nI 2
    · refine z_tableIn (pc := 16) (x := w0) (off := 44) (tgt := 60) hC dX3_told_16 (by rw [e16_2]; decide +kernel) (by rw [e16_2]; decide +kernel) (by rw [e16_2]; decide +kernel) (by decide) ?_
      refine z_aload_n (pc := 60) hC 0 dX3_told_60 rfl ?_
      refine z_iload_n (pc := 61) hC 2 dX3_told_61 rfl ?_
      refine z_callVN_I (pc := 62) (y := yX1_firstPremiseOf) (wy := wsX1_firstPremiseOf) (rm := { frames := 0, cells := 0, slots := 0, locals := 0 }) (As := [.int (nI j)]) (rest := []) (na := 1) (C := RX1) (T := TX1) (NF := 8) (ci := 2) (wc := [(q 6, .inr (2, [.ref (q 7), .ref (q 8), .ref (q 9), .ref (q 10), .int (nI ((cloT n cnt Kd Aa Ab Ac s).2.1)), .int (nI (((cloT n cnt Kd Aa Ab Ac s).1).2.2.1.2)), .int (nI (((cloT n cnt Kd Aa Ab Ac s).1).2.2.2)), .int (((cloT n cnt Kd Aa Ab Ac s).1).1.2.2)])), (q 9, .inl (cJ, 4032, .inr (.inl (((cloT n cnt Kd Aa Ab Ac s).1).1.2.1))))]) (wc2 := [(q 6, .inr (2, [.ref (q 7), .ref (q 8), .ref (q 9), .ref (q 10), .int (nI ((cloT n cnt Kd Aa Ab Ac s).2.1)), .int (nI (((cloT n cnt Kd Aa Ab Ac s).1).2.2.1.2)), .int (nI (((cloT n cnt Kd Aa Ab Ac s).1).2.2.2)), .int (((cloT n cnt Kd Aa Ab Ac s).1).1.2.2)])), (q 9, .inl (cJ, 4032, .inr (.inl (((cloT n cnt Kd Aa Ab Ac s).1).1.2.1))))]) hC hRm hDis hLis 0 rfl rfl gX3_told_X1_firstPremiseOf_n98 (by decide +kernel) (by decide +kernel) (by decide +kernel) (by decide +kernel) ⟨by decide +kernel, by decide +kernel⟩ rfl ⟨by decide, by decide⟩ ⟨by decide, by decide⟩ rfl (Nat.le_of_ble_eq_true rfl) (by decide +kernel) (c_X1_firstPremiseOf _ _ cI cJ cZ (q) (((cloT n cnt Kd Aa Ab Ac s).1).1.2.1) (nI ((cloT n cnt Kd Aa Ab Ac s).2.1)) (nI (((cloT n cnt Kd Aa Ab Ac s).1).2.2.1.2)) (nI (((cloT n cnt Kd Aa Ab Ac s).1).2.2.2)) (((cloT n cnt Kd Aa Ab Ac s).1).1.2.2) (j) (hj)) [6, 9] [0, 1, 2, 3, 4, 5, 7, 8, 10] [0, 1, 2, 3, 4, 5, 9, 6, 7, 10, 8] [(q 0, .inr (4, [.ref (q 1), .ref (q 6), .ref (q 11), .int (nI n), .int (bI ((cloT n cnt Kd Aa Ab Ac s).2.2))])), (q 1, .inr (1, [.ref (q 2), .ref (q 3), .ref (q 4), .ref (q 5), .int (nI cnt)])), (q 2, .inl (cI, 80, .inl Kd)), (q 3, .inl (cI, 80, .inl Aa)), (q 4, .inl (cI, 80, .inl Ab)), (q 5, .inl (cI, 80, .inl Ac)), (q 7, .inl (cI, 168, .inl (((cloT n cnt Kd Aa Ab Ac s).1).2.1))), (q 8, .inl (cI, 168, .inl (((cloT n cnt Kd Aa Ab Ac s).1).1.1))), (q 10, .inl (cI, 4032, .inl (((cloT n cnt Kd Aa Ab Ac s).1).2.2.1.1)))] rfl (by decide) rfl (by decide) (by decide) [(q 0, .inr (4, [.ref (q 1), .ref (q 6), .ref (q 11), .int (nI n), .int (bI ((cloT n cnt Kd Aa Ab Ac s).2.2))])), (q 1, .inr (1, [.ref (q 2), .ref (q 3), .ref (q 4), .ref (q 5), .int (nI cnt)])), (q 2, .inl (cI, 80, .inl Kd)), (q 3, .inl (cI, 80, .inl Aa)), (q 4, .inl (cI, 80, .inl Ab)), (q 5, .inl (cI, 80, .inl Ac)), (q 6, .inr (2, [.ref (q 7), .ref (q 8), .ref (q 9), .ref (q 10), .int (nI ((cloT n cnt Kd Aa Ab Ac s).2.1)), .int (nI (((cloT n cnt Kd Aa Ab Ac s).1).2.2.1.2)), .int (nI (((cloT n cnt Kd Aa Ab Ac s).1).2.2.2)), .int (((cloT n cnt Kd Aa Ab Ac s).1).1.2.2)])), (q 7, .inl (cI, 168, .inl (((cloT n cnt Kd Aa Ab Ac s).1).2.1))), (q 8, .inl (cI, 168, .inl (((cloT n cnt Kd Aa Ab Ac s).1).1.1))), (q 9, .inl (cJ, 4032, .inr (.inl (((cloT n cnt Kd Aa Ab Ac s).1).1.2.1)))), (q 10, .inl (cI, 4032, .inl (((cloT n cnt Kd Aa Ab Ac s).1).2.2.1.1)))] rfl (by decide) rfl dX3_told_62 ?_
      exact z_iret (pc := 65) hC hQ hRT (rfl) (by rw [toldF_t hj h10, if_neg e16_0, if_neg e16_1, if_pos e16_2]) (rfl) dX3_told_65
    by_cases e16_3 : w0 = nI 3
    · refine z_tableIn (pc := 16) (x := w0) (off := 50) (tgt := 66) hC dX3_told_16 (by rw [e16_3]; decide +kernel) (by rw [e16_3]; decide +kernel) (by rw [e16_3]; decide +kernel) (by decide) ?_
      refine z_aload_n (pc := 66) hC 0 dX3_told_66 rfl ?_
      refine z_iload_n (pc := 67) hC 2 dX3_told_67 rfl ?_
      refine z_callVN_I (pc := 68) (y := yX1_secondPremiseOf) (wy := wsX1_secondPremiseOf) (rm := { frames := 0, cells := 0, slots := 0, locals := 0 }) (As := [.int (nI j)]) (rest := []) (na := 1) (C := RX1) (T := TX1) (NF := 8) (ci := 2) (wc := [(q 6, .inr (2, [.ref (q 7), .ref (q 8), .ref (q 9), .ref (q 10), .int (nI ((cloT n cnt Kd Aa Ab Ac s).2.1)), .int (nI (((cloT n cnt Kd Aa Ab Ac s).1).2.2.1.2)), .int (nI (((cloT n cnt Kd Aa Ab Ac s).1).2.2.2)), .int (((cloT n cnt Kd Aa Ab Ac s).1).1.2.2)])), (q 9, .inl (cJ, 4032, .inr (.inl (((cloT n cnt Kd Aa Ab Ac s).1).1.2.1))))]) (wc2 := [(q 6, .inr (2, [.ref (q 7), .ref (q 8), .ref (q 9), .ref (q 10), .int (nI ((cloT n cnt Kd Aa Ab Ac s).2.1)), .int (nI (((cloT n cnt Kd Aa Ab Ac s).1).2.2.1.2)), .int (nI (((cloT n cnt Kd Aa Ab Ac s).1).2.2.2)), .int (((cloT n cnt Kd Aa Ab Ac s).1).1.2.2)])), (q 9, .inl (cJ, 4032, .inr (.inl (((cloT n cnt Kd Aa Ab Ac s).1).1.2.1))))]) hC hRm hDis hLis 0 rfl rfl gX3_told_X1_secondPremiseOf_n101 (by decide +kernel) (by decide +kernel) (by decide +kernel) (by decide +kernel) ⟨by decide +kernel, by decide +kernel⟩ rfl ⟨by decide, by decide⟩ ⟨by decide, by decide⟩ rfl (Nat.le_of_ble_eq_true rfl) (by decide +kernel) (c_X1_secondPremiseOf _ _ cI cJ cZ (q) (((cloT n cnt Kd Aa Ab Ac s).1).1.2.1) (nI ((cloT n cnt Kd Aa Ab Ac s).2.1)) (nI (((cloT n cnt Kd Aa Ab Ac s).1).2.2.1.2)) (nI (((cloT n cnt Kd Aa Ab Ac s).1).2.2.2)) (((cloT n cnt Kd Aa Ab Ac s).1).1.2.2) (j) (hj)) [6, 9] [0, 1, 2, 3, 4, 5, 7, 8, 10] [0, 1, 2, 3, 4, 5, 9, 6, 7, 10, 8] [(q 0, .inr (4, [.ref (q 1), .ref (q 6), .ref (q 11), .int (nI n), .int (bI ((cloT n cnt Kd Aa Ab Ac s).2.2))])), (q 1, .inr (1, [.ref (q 2), .ref (q 3), .ref (q 4), .ref (q 5), .int (nI cnt)])), (q 2, .inl (cI, 80, .inl Kd)), (q 3, .inl (cI, 80, .inl Aa)), (q 4, .inl (cI, 80, .inl Ab)), (q 5, .inl (cI, 80, .inl Ac)), (q 7, .inl (cI, 168, .inl (((cloT n cnt Kd Aa Ab Ac s).1).2.1))), (q 8, .inl (cI, 168, .inl (((cloT n cnt Kd Aa Ab Ac s).1).1.1))), (q 10, .inl (cI, 4032, .inl (((cloT n cnt Kd Aa Ab Ac s).1).2.2.1.1)))] rfl (by decide) rfl (by decide) (by decide) [(q 0, .inr (4, [.ref (q 1), .ref (q 6), .ref (q 11), .int (nI n), .int (bI ((cloT n cnt Kd Aa Ab Ac s).2.2))])), (q 1, .inr (1, [.ref (q 2), .ref (q 3), .ref (q 4), .ref (q 5), .int (nI cnt)])), (q 2, .inl (cI, 80, .inl Kd)), (q 3, .inl (cI, 80, .inl Aa)), (q 4, .inl (cI, 80, .inl Ab)), (q 5, .inl (cI, 80, .inl Ac)), (q 6, .inr (2, [.ref (q 7), .ref (q 8), .ref (q 9), .ref (q 10), .int (nI ((cloT n cnt Kd Aa Ab Ac s).2.1)), .int (nI (((cloT n cnt Kd Aa Ab Ac s).1).2.2.1.2)), .int (nI (((cloT n cnt Kd Aa Ab Ac s).1).2.2.2)), .int (((cloT n cnt Kd Aa Ab Ac s).1).1.2.2)])), (q 7, .inl (cI, 168, .inl (((cloT n cnt Kd Aa Ab Ac s).1).2.1))), (q 8, .inl (cI, 168, .inl (((cloT n cnt Kd Aa Ab Ac s).1).1.1))), (q 9, .inl (cJ, 4032, .inr (.inl (((cloT n cnt Kd Aa Ab Ac s).1).1.2.1)))), (q 10, .inl (cI, 4032, .inl (((cloT n cnt Kd Aa Ab Ac s).1).2.2.1.1)))] rfl (by decide) rfl dX3_told_68 ?_
      exact z_iret (pc := 71) hC hQ hRT (rfl) (by rw [toldF_t hj h10, if_neg e16_0, if_neg e16_1, if_neg e16_2, if_pos e16_3]) (rfl) dX3_told_71
    refine z_tableOut (pc := 16) (x := w0) (tgt := 72) hC dX3_told_16 (by have q0 := sw_ne e16_0 (by decide); have q1 := sw_ne e16_1 (by decide); have q2 := sw_ne e16_2 (by decide); have q3 := sw_ne e16_3 (by decide); omega) (by decide) ?_
    refine z_iconst (pc := 72) (v := (-1)) hC dX3_told_72 (by decide +kernel) ?_
    exact z_iret (pc := 73) hC hQ hRT (rfl) (by rw [toldF_t hj h10, if_neg e16_0, if_neg e16_1, if_neg e16_2, if_neg e16_3]) (rfl) dX3_told_73
  · refine z_iconst (pc := 13) (v := (-1)) hC dX3_told_13 (by decide +kernel) ?_
    exact z_iret (pc := 14) hC hQ hRT (rfl) ((toldF_f h10).symm) (rfl) dX3_told_14

set_option maxRecDepth 100000 in
set_option maxHeartbeats 4000000 in
theorem c_X3_trace (l : Launch) (D : va_G) (cI cJ cZ : ClassId) (q : Nat → Nat) (n : Nat) (Kd : Nat → Int32) (Aa : Nat → Int32) (Ab : Nat → Int32) (Ac : Nat → Int32) (cnt : Nat) (s : CSt) (Rw : Nat → Int32) (Nd : Nat → Int64) (ct : Nat) (p0 : Int32) (hn : n ≤ 24) (hcnt : cnt ≤ 80) (hax : ∀ k, k < cnt → axV n (Kd k) (Aa k) (Ab k) (Ac k)) (hf1 : 1 ≤ (cloT n cnt Kd Aa Ab Ac s).1.2.2.1.2) (hf2 : (cloT n cnt Kd Aa Ab Ac s).1.2.2.1.2 ≤ 4032) (hO : ∀ i, i < (cloT n cnt Kd Aa Ab Ac s).1.2.2.1.2 → clV 4032 ((cloT n cnt Kd Aa Ab Ac s).1.2.2.1.1 i)) : MI l yX3_trace wsX3_trace { frames := 6, cells := 0, slots := 0, locals := 147 } D (tyL cI cJ cZ) [.ref (q 0), .int p0] [(q 0, .inr (4, [.ref (q 1), .ref (q 6), .ref (q 11), .int (nI n), .int (bI (s.2.2))])), (q 1, .inr (1, [.ref (q 2), .ref (q 3), .ref (q 4), .ref (q 5), .int (nI cnt)])), (q 2, .inl (cI, 80, .inl Kd)), (q 3, .inl (cI, 80, .inl Aa)), (q 4, .inl (cI, 80, .inl Ab)), (q 5, .inl (cI, 80, .inl Ac)), (q 6, .inr (2, [.ref (q 7), .ref (q 8), .ref (q 9), .ref (q 10), .int (nI (s.2.1)), .int (nI ((s.1).2.2.1.2)), .int (nI ((s.1).2.2.2)), .int ((s.1).1.2.2)])), (q 7, .inl (cI, 168, .inl ((s.1).2.1))), (q 8, .inl (cI, 168, .inl ((s.1).1.1))), (q 9, .inl (cJ, 4032, .inr (.inl ((s.1).1.2.1)))), (q 10, .inl (cI, 4032, .inl ((s.1).2.2.1.1))), (q 11, .inr (3, [.ref (q 12), .ref (q 13), .int (nI ct)])), (q 12, .inl (cI, 4032, .inl Rw)), (q 13, .inl (cJ, 63, .inr (.inl Nd)))] [(q 0, .inr (4, [.ref (q 1), .ref (q 6), .ref (q 11), .int (nI n), .int (bI ((cloT n cnt Kd Aa Ab Ac s).2.2))])), (q 1, .inr (1, [.ref (q 2), .ref (q 3), .ref (q 4), .ref (q 5), .int (nI cnt)])), (q 2, .inl (cI, 80, .inl Kd)), (q 3, .inl (cI, 80, .inl Aa)), (q 4, .inl (cI, 80, .inl Ab)), (q 5, .inl (cI, 80, .inl Ac)), (q 6, .inr (2, [.ref (q 7), .ref (q 8), .ref (q 9), .ref (q 10), .int (nI ((cloT n cnt Kd Aa Ab Ac s).2.1)), .int (nI (((cloT n cnt Kd Aa Ab Ac s).1).2.2.1.2)), .int (nI (((cloT n cnt Kd Aa Ab Ac s).1).2.2.2)), .int (((cloT n cnt Kd Aa Ab Ac s).1).1.2.2)])), (q 7, .inl (cI, 168, .inl (((cloT n cnt Kd Aa Ab Ac s).1).2.1))), (q 8, .inl (cI, 168, .inl (((cloT n cnt Kd Aa Ab Ac s).1).1.1))), (q 9, .inl (cJ, 4032, .inr (.inl (((cloT n cnt Kd Aa Ab Ac s).1).1.2.1)))), (q 10, .inl (cI, 4032, .inl (((cloT n cnt Kd Aa Ab Ac s).1).2.2.1.1))), (q 11, .inr (3, [.ref (q 12), .ref (q 13), .int (nI ((takeR (cloT n cnt Kd Aa Ab Ac s).1.1.2.1 (cloT n cnt Kd Aa Ab Ac s).1.2.2.1.1 (cloT n cnt Kd Aa Ab Ac s).1.2.2.1.2 p0 Rw).2))])), (q 12, .inl (cI, 4032, .inl ((takeR (cloT n cnt Kd Aa Ab Ac s).1.1.2.1 (cloT n cnt Kd Aa Ab Ac s).1.2.2.1.1 (cloT n cnt Kd Aa Ab Ac s).1.2.2.1.2 p0 Rw).1))), (q 13, .inl (cJ, 63, .inr (.inl (takeN (cloT n cnt Kd Aa Ab Ac s).1.1.2.1 (cloT n cnt Kd Aa Ab Ac s).1.2.2.1.1 (cloT n cnt Kd Aa Ab Ac s).1.2.2.1.2 p0 Nd))))] (nI ((takeR (cloT n cnt Kd Aa Ab Ac s).1.1.2.1 (cloT n cnt Kd Aa Ab Ac s).1.2.2.1.1 (cloT n cnt Kd Aa Ab Ac s).1.2.2.1.2 p0 Rw).2)) := by
  refine metI_of (cc := cX3_trace) (maxL := 2) (ret := (some .int)) (by decide +kernel) rfl (Nat.le_of_ble_eq_true rfl) ?_
  intro K hC hRm hNL hDis hLis hRT hIni hQ
  have hinX2 : ∀ w ∈ wsX20, w ∈ wsX3_trace := by decide +kernel
  have hinX3 : ∀ w ∈ wsX30, w ∈ wsX3_trace := by decide +kernel
  refine z_aload_n (pc := 0) hC 0 dX3_trace_0 rfl ?_
  refine z_get (pc := 1) (C := RX3) (T := TX3) (N := 5) hC hinX3 0 rfl rfl 2 (by decide) (by decide +kernel) rfl dX3_trace_1 ?_
  refine z_aload_n (pc := 4) hC 0 dX3_trace_4 rfl ?_
  refine z_callV_A (pc := 5) (y := yX3_closed) (wy := wsX3_closed) (rm := { frames := 5, cells := 0, slots := 0, locals := 127 }) (As := []) (rest := [.ref (q 11)]) (na := 0) (C := RX3) (T := TX3) (NF := 5) (ci := 4) (wc := [(q 0, .inr (4, [.ref (q 1), .ref (q 6), .ref (q 11), .int (nI n), .int (bI (s.2.2))])), (q 1, .inr (1, [.ref (q 2), .ref (q 3), .ref (q 4), .ref (q 5), .int (nI cnt)])), (q 2, .inl (cI, 80, .inl Kd)), (q 3, .inl (cI, 80, .inl Aa)), (q 4, .inl (cI, 80, .inl Ab)), (q 5, .inl (cI, 80, .inl Ac)), (q 6, .inr (2, [.ref (q 7), .ref (q 8), .ref (q 9), .ref (q 10), .int (nI (s.2.1)), .int (nI ((s.1).2.2.1.2)), .int (nI ((s.1).2.2.2)), .int ((s.1).1.2.2)])), (q 7, .inl (cI, 168, .inl ((s.1).2.1))), (q 8, .inl (cI, 168, .inl ((s.1).1.1))), (q 9, .inl (cJ, 4032, .inr (.inl ((s.1).1.2.1)))), (q 10, .inl (cI, 4032, .inl ((s.1).2.2.1.1)))]) (wc2 := [(q 0, .inr (4, [.ref (q 1), .ref (q 6), .ref (q 11), .int (nI n), .int (bI ((cloT n cnt Kd Aa Ab Ac s).2.2))])), (q 1, .inr (1, [.ref (q 2), .ref (q 3), .ref (q 4), .ref (q 5), .int (nI cnt)])), (q 2, .inl (cI, 80, .inl Kd)), (q 3, .inl (cI, 80, .inl Aa)), (q 4, .inl (cI, 80, .inl Ab)), (q 5, .inl (cI, 80, .inl Ac)), (q 6, .inr (2, [.ref (q 7), .ref (q 8), .ref (q 9), .ref (q 10), .int (nI ((cloT n cnt Kd Aa Ab Ac s).2.1)), .int (nI (((cloT n cnt Kd Aa Ab Ac s).1).2.2.1.2)), .int (nI (((cloT n cnt Kd Aa Ab Ac s).1).2.2.2)), .int (((cloT n cnt Kd Aa Ab Ac s).1).1.2.2)])), (q 7, .inl (cI, 168, .inl (((cloT n cnt Kd Aa Ab Ac s).1).2.1))), (q 8, .inl (cI, 168, .inl (((cloT n cnt Kd Aa Ab Ac s).1).1.1))), (q 9, .inl (cJ, 4032, .inr (.inl (((cloT n cnt Kd Aa Ab Ac s).1).1.2.1)))), (q 10, .inl (cI, 4032, .inl (((cloT n cnt Kd Aa Ab Ac s).1).2.2.1.1)))]) hC hRm hDis hLis 0 rfl rfl gX3_trace_X3_closed ⟨rfl, by decide +kernel, by decide +kernel⟩ rfl ⟨by decide, by decide⟩ ⟨by decide, by decide⟩ rfl (Nat.le_of_ble_eq_true rfl) (by decide +kernel) (c_X3_closed _ _ cI cJ cZ (q) (n) (Kd) (Aa) (Ab) (Ac) (cnt) (s) (hn) (hcnt) (hax)) [0, 1, 2, 3, 4, 5, 6, 7, 8, 9, 10] [11, 12, 13] [3, 4, 5, 6, 7, 8, 9, 10, 11, 12, 13, 0, 1, 2] [(q 11, .inr (3, [.ref (q 12), .ref (q 13), .int (nI ct)])), (q 12, .inl (cI, 4032, .inl Rw)), (q 13, .inl (cJ, 63, .inr (.inl Nd)))] rfl (by decide) rfl (by decide) (by decide) [(q 0, .inr (4, [.ref (q 1), .ref (q 6), .ref (q 11), .int (nI n), .int (bI ((cloT n cnt Kd Aa Ab Ac s).2.2))])), (q 1, .inr (1, [.ref (q 2), .ref (q 3), .ref (q 4), .ref (q 5), .int (nI cnt)])), (q 2, .inl (cI, 80, .inl Kd)), (q 3, .inl (cI, 80, .inl Aa)), (q 4, .inl (cI, 80, .inl Ab)), (q 5, .inl (cI, 80, .inl Ac)), (q 6, .inr (2, [.ref (q 7), .ref (q 8), .ref (q 9), .ref (q 10), .int (nI ((cloT n cnt Kd Aa Ab Ac s).2.1)), .int (nI (((cloT n cnt Kd Aa Ab Ac s).1).2.2.1.2)), .int (nI (((cloT n cnt Kd Aa Ab Ac s).1).2.2.2)), .int (((cloT n cnt Kd Aa Ab Ac s).1).1.2.2)])), (q 7, .inl (cI, 168, .inl (((cloT n cnt Kd Aa Ab Ac s).1).2.1))), (q 8, .inl (cI, 168, .inl (((cloT n cnt Kd Aa Ab Ac s).1).1.1))), (q 9, .inl (cJ, 4032, .inr (.inl (((cloT n cnt Kd Aa Ab Ac s).1).1.2.1)))), (q 10, .inl (cI, 4032, .inl (((cloT n cnt Kd Aa Ab Ac s).1).2.2.1.1))), (q 11, .inr (3, [.ref (q 12), .ref (q 13), .int (nI ct)])), (q 12, .inl (cI, 4032, .inl Rw)), (q 13, .inl (cJ, 63, .inr (.inl Nd)))] rfl (by decide) rfl dX3_trace_5 ?_
  refine z_iload_n (pc := 8) hC 1 dX3_trace_8 rfl ?_
  refine z_callVN_V (pc := 9) (y := yX2_take) (wy := wsX2_take) (rm := { frames := 1, cells := 0, slots := 0, locals := 24 }) (As := [.ref (q 6), .int p0]) (rest := []) (na := 2) (C := RX2) (T := TX2) (NF := 3) (ci := 3) (wc := [(q 11, .inr (3, [.ref (q 12), .ref (q 13), .int (nI ct)])), (q 12, .inl (cI, 4032, .inl Rw)), (q 13, .inl (cJ, 63, .inr (.inl Nd))), (q 6, .inr (2, [.ref (q 7), .ref (q 8), .ref (q 9), .ref (q 10), .int (nI ((cloT n cnt Kd Aa Ab Ac s).2.1)), .int (nI (((cloT n cnt Kd Aa Ab Ac s).1).2.2.1.2)), .int (nI (((cloT n cnt Kd Aa Ab Ac s).1).2.2.2)), .int (((cloT n cnt Kd Aa Ab Ac s).1).1.2.2)])), (q 9, .inl (cJ, 4032, .inr (.inl (((cloT n cnt Kd Aa Ab Ac s).1).1.2.1)))), (q 10, .inl (cI, 4032, .inl (((cloT n cnt Kd Aa Ab Ac s).1).2.2.1.1)))]) (wc2 := [(q 11, .inr (3, [.ref (q 12), .ref (q 13), .int (nI ((takeR (((cloT n cnt Kd Aa Ab Ac s).1).1.2.1) (((cloT n cnt Kd Aa Ab Ac s).1).2.2.1.1) (((cloT n cnt Kd Aa Ab Ac s).1).2.2.1.2) p0 Rw).2))])), (q 12, .inl (cI, 4032, .inl ((takeR (((cloT n cnt Kd Aa Ab Ac s).1).1.2.1) (((cloT n cnt Kd Aa Ab Ac s).1).2.2.1.1) (((cloT n cnt Kd Aa Ab Ac s).1).2.2.1.2) p0 Rw).1))), (q 13, .inl (cJ, 63, .inr (.inl (takeN (((cloT n cnt Kd Aa Ab Ac s).1).1.2.1) (((cloT n cnt Kd Aa Ab Ac s).1).2.2.1.1) (((cloT n cnt Kd Aa Ab Ac s).1).2.2.1.2) p0 Nd)))), (q 6, .inr (2, [.ref (q 7), .ref (q 8), .ref (q 9), .ref (q 10), .int (nI ((cloT n cnt Kd Aa Ab Ac s).2.1)), .int (nI ((((cloT n cnt Kd Aa Ab Ac s).1).2.2.1.2))), .int (nI (((cloT n cnt Kd Aa Ab Ac s).1).2.2.2)), .int (((cloT n cnt Kd Aa Ab Ac s).1).1.2.2)])), (q 9, .inl (cJ, 4032, .inr (.inl (((cloT n cnt Kd Aa Ab Ac s).1).1.2.1)))), (q 10, .inl (cI, 4032, .inl (((cloT n cnt Kd Aa Ab Ac s).1).2.2.1.1)))]) hC hRm hDis hLis 0 rfl rfl gX3_trace_X2_take_n104 (by decide +kernel) (by decide +kernel) (by decide +kernel) (by decide +kernel) ⟨by decide +kernel, by decide +kernel⟩ rfl ⟨by decide, by decide⟩ ⟨by decide, by decide⟩ rfl (Nat.le_of_ble_eq_true rfl) (by decide +kernel) (c_X2_take _ _ cI cJ cZ (q) (((cloT n cnt Kd Aa Ab Ac s).1).1.2.1) (((cloT n cnt Kd Aa Ab Ac s).1).2.2.1.1) (nI ((cloT n cnt Kd Aa Ab Ac s).2.1)) (((cloT n cnt Kd Aa Ab Ac s).1).2.2.1.2) (nI (((cloT n cnt Kd Aa Ab Ac s).1).2.2.2)) (((cloT n cnt Kd Aa Ab Ac s).1).1.2.2) (Nd) (Rw) (nI ct) (p0) (hf1) (hf2) (hO)) [11, 12, 13, 6, 9, 10] [0, 1, 2, 3, 4, 5, 7, 8] [0, 1, 2, 3, 4, 5, 11, 6, 7, 12, 13, 8, 9, 10] [(q 0, .inr (4, [.ref (q 1), .ref (q 6), .ref (q 11), .int (nI n), .int (bI ((cloT n cnt Kd Aa Ab Ac s).2.2))])), (q 1, .inr (1, [.ref (q 2), .ref (q 3), .ref (q 4), .ref (q 5), .int (nI cnt)])), (q 2, .inl (cI, 80, .inl Kd)), (q 3, .inl (cI, 80, .inl Aa)), (q 4, .inl (cI, 80, .inl Ab)), (q 5, .inl (cI, 80, .inl Ac)), (q 7, .inl (cI, 168, .inl (((cloT n cnt Kd Aa Ab Ac s).1).2.1))), (q 8, .inl (cI, 168, .inl (((cloT n cnt Kd Aa Ab Ac s).1).1.1)))] rfl (by decide) rfl (by decide) (by decide) [(q 0, .inr (4, [.ref (q 1), .ref (q 6), .ref (q 11), .int (nI n), .int (bI ((cloT n cnt Kd Aa Ab Ac s).2.2))])), (q 1, .inr (1, [.ref (q 2), .ref (q 3), .ref (q 4), .ref (q 5), .int (nI cnt)])), (q 2, .inl (cI, 80, .inl Kd)), (q 3, .inl (cI, 80, .inl Aa)), (q 4, .inl (cI, 80, .inl Ab)), (q 5, .inl (cI, 80, .inl Ac)), (q 6, .inr (2, [.ref (q 7), .ref (q 8), .ref (q 9), .ref (q 10), .int (nI ((cloT n cnt Kd Aa Ab Ac s).2.1)), .int (nI ((((cloT n cnt Kd Aa Ab Ac s).1).2.2.1.2))), .int (nI (((cloT n cnt Kd Aa Ab Ac s).1).2.2.2)), .int (((cloT n cnt Kd Aa Ab Ac s).1).1.2.2)])), (q 7, .inl (cI, 168, .inl (((cloT n cnt Kd Aa Ab Ac s).1).2.1))), (q 8, .inl (cI, 168, .inl (((cloT n cnt Kd Aa Ab Ac s).1).1.1))), (q 9, .inl (cJ, 4032, .inr (.inl (((cloT n cnt Kd Aa Ab Ac s).1).1.2.1)))), (q 10, .inl (cI, 4032, .inl (((cloT n cnt Kd Aa Ab Ac s).1).2.2.1.1))), (q 11, .inr (3, [.ref (q 12), .ref (q 13), .int (nI ((takeR (((cloT n cnt Kd Aa Ab Ac s).1).1.2.1) (((cloT n cnt Kd Aa Ab Ac s).1).2.2.1.1) (((cloT n cnt Kd Aa Ab Ac s).1).2.2.1.2) p0 Rw).2))])), (q 12, .inl (cI, 4032, .inl ((takeR (((cloT n cnt Kd Aa Ab Ac s).1).1.2.1) (((cloT n cnt Kd Aa Ab Ac s).1).2.2.1.1) (((cloT n cnt Kd Aa Ab Ac s).1).2.2.1.2) p0 Rw).1))), (q 13, .inl (cJ, 63, .inr (.inl (takeN (((cloT n cnt Kd Aa Ab Ac s).1).1.2.1) (((cloT n cnt Kd Aa Ab Ac s).1).2.2.1.1) (((cloT n cnt Kd Aa Ab Ac s).1).2.2.1.2) p0 Nd))))] rfl (by decide) rfl dX3_trace_9 ?_
  refine z_aload_n (pc := 12) hC 0 dX3_trace_12 rfl ?_
  refine z_get (pc := 13) (C := RX3) (T := TX3) (N := 5) hC hinX3 0 rfl rfl 2 (by decide) (by decide +kernel) rfl dX3_trace_13 ?_
  refine z_getN (pc := 16) (C := RX2) (T := TX2) (N := 3) hC hinX2 11 rfl rfl 2 (by decide) (by decide +kernel) rfl dX3_trace_16 ?_
  exact z_iret (pc := 19) hC hQ hRT (rfl) (rfl) (rfl) dX3_trace_19

set_option maxRecDepth 100000 in
set_option maxHeartbeats 4000000 in
theorem c_X3_row_bad (l : Launch) (D : va_G) (cI cJ cZ : ClassId) (q : Nat → Nat) (n : Nat) (st : Bool) (Rw : Nat → Int32) (ct : Nat) (i0 : Int32) (hi : isCl i0 (nI ct) = false) : MI l yX3_row wsX3_row { frames := 0, cells := 0, slots := 0, locals := 0 } D (tyL cI cJ cZ) [.ref (q 0), .int i0] [(q 0, .inr (4, [.ref (q 1), .ref (q 6), .ref (q 11), .int (nI n), .int (bI (st))])), (q 11, .inr (3, [.ref (q 12), .ref (q 13), .int (nI ct)])), (q 12, .inl (cI, 4032, .inl Rw))] [(q 0, .inr (4, [.ref (q 1), .ref (q 6), .ref (q 11), .int (nI n), .int (bI (st))])), (q 11, .inr (3, [.ref (q 12), .ref (q 13), .int (nI ct)])), (q 12, .inl (cI, 4032, .inl Rw))] (-1) := by
  refine metI_of (cc := cX3_row) (maxL := 2) (ret := (some .int)) (by decide +kernel) rfl (Nat.le_of_ble_eq_true rfl) ?_
  intro K hC hRm hNL hDis hLis hRT hIni hQ
  have hinX2 : ∀ w ∈ wsX20, w ∈ wsX3_row := by decide +kernel
  have hinX3 : ∀ w ∈ wsX30, w ∈ wsX3_row := by decide +kernel
  refine z_iload_n (pc := 0) hC 1 dX3_row_0 rfl ?_
  refine z_if_lt (pc := 1) (tgt := 15) hC dX3_row_1 (by decide) (fun h1 => ?_) (fun h1 => ?_)
  · refine z_iconst (pc := 15) (v := (-1)) hC dX3_row_15 (by decide +kernel) ?_
    exact z_iret (pc := 16) hC hQ hRT (rfl) (rfl) (rfl) dX3_row_16
  · refine z_iload_n (pc := 4) hC 1 dX3_row_4 rfl ?_
    refine z_aload_n (pc := 5) hC 0 dX3_row_5 rfl ?_
    refine z_get (pc := 6) (C := RX3) (T := TX3) (N := 5) hC hinX3 0 rfl rfl 2 (by decide) (by decide +kernel) rfl dX3_row_6 ?_
    refine z_getN (pc := 9) (C := RX2) (T := TX2) (N := 3) hC hinX2 1 rfl rfl 2 (by decide) (by decide +kernel) rfl dX3_row_9 ?_
    refine z_icmp_lt (pc := 12) (tgt := 17) hC dX3_row_12 (by decide) (fun h12 => absurd (isCl_t h1 (Int32.not_le.mpr h12)) (by rw [hi]; decide)) (fun h12 => ?_)
    refine z_iconst (pc := 15) (v := (-1)) hC dX3_row_15 (by decide +kernel) ?_
    exact z_iret (pc := 16) hC hQ hRT (rfl) (rfl) (rfl) dX3_row_16

set_option maxRecDepth 100000 in
set_option maxHeartbeats 4000000 in
theorem c_X3_row_ok (l : Launch) (D : va_G) (cI cJ cZ : ClassId) (q : Nat → Nat) (n : Nat) (st : Bool) (Rw : Nat → Int32) (ct : Nat) (i : Nat) (hi : i < ct) (hc : ct ≤ 4032) : MI l yX3_row wsX3_row { frames := 0, cells := 0, slots := 0, locals := 0 } D (tyL cI cJ cZ) [.ref (q 0), .int (nI i)] [(q 0, .inr (4, [.ref (q 1), .ref (q 6), .ref (q 11), .int (nI n), .int (bI (st))])), (q 11, .inr (3, [.ref (q 12), .ref (q 13), .int (nI ct)])), (q 12, .inl (cI, 4032, .inl Rw))] [(q 0, .inr (4, [.ref (q 1), .ref (q 6), .ref (q 11), .int (nI n), .int (bI (st))])), (q 11, .inr (3, [.ref (q 12), .ref (q 13), .int (nI ct)])), (q 12, .inl (cI, 4032, .inl Rw))] (Rw i) := by
  refine metI_of (cc := cX3_row) (maxL := 2) (ret := (some .int)) (by decide +kernel) rfl (Nat.le_of_ble_eq_true rfl) ?_
  intro K hC hRm hNL hDis hLis hRT hIni hQ
  have hinX2 : ∀ w ∈ wsX20, w ∈ wsX3_row := by decide +kernel
  have hinX3 : ∀ w ∈ wsX30, w ∈ wsX3_row := by decide +kernel
  refine z_iload_n (pc := 0) hC 1 dX3_row_0 rfl ?_
  refine z_nif_lt (pc := 1) (tgt := 15) hC dX3_row_1 (by decide) (by omega) (fun h1 => absurd h1 (by exact id)) (fun h1 => ?_)
  refine z_iload_n (pc := 4) hC 1 dX3_row_4 rfl ?_
  refine z_aload_n (pc := 5) hC 0 dX3_row_5 rfl ?_
  refine z_get (pc := 6) (C := RX3) (T := TX3) (N := 5) hC hinX3 0 rfl rfl 2 (by decide) (by decide +kernel) rfl dX3_row_6 ?_
  refine z_getN (pc := 9) (C := RX2) (T := TX2) (N := 3) hC hinX2 1 rfl rfl 2 (by decide) (by decide +kernel) rfl dX3_row_9 ?_
  refine z_ncmp_lt (pc := 12) (tgt := 17) hC dX3_row_12 (by decide) (by omega) (by omega) (fun h12 => ?_) (fun h12 => absurd h12 (by omega))
  refine z_aload_n (pc := 17) hC 0 dX3_row_17 rfl ?_
  refine z_get (pc := 18) (C := RX3) (T := TX3) (N := 5) hC hinX3 0 rfl rfl 2 (by decide) (by decide +kernel) rfl dX3_row_18 ?_
  refine z_getN (pc := 21) (C := RX2) (T := TX2) (N := 3) hC hinX2 1 rfl rfl 0 (by decide) (by decide +kernel) rfl dX3_row_21 ?_
  refine z_iload_n (pc := 24) hC 1 dX3_row_24 rfl ?_
  refine z_iald (pc := 25) (v := (Rw i)) hC 2 0 rfl rfl (by omega) (by decide) (rfl) dX3_row_25 ?_
  exact z_iret (pc := 26) hC hQ hRT (rfl) (rfl) (rfl) dX3_row_26

set_option maxRecDepth 100000 in
set_option maxHeartbeats 4000000 in
theorem c_X3_empty_bad (l : Launch) (D : va_G) (cI cJ cZ : ClassId) (q : Nat → Nat) (n : Nat) (st : Bool) (a0 : Int32) (hi : (isCl a0 (nI n) && isCl (nI 1) (nI n)) = false) : MI l yX3_empty wsX3_empty { frames := 2, cells := 0, slots := 0, locals := 43 } D (tyL cI cJ cZ) [.ref (q 0), .int a0] [(q 0, .inr (4, [.ref (q 1), .ref (q 6), .ref (q 11), .int (nI n), .int (bI (st))]))] [(q 0, .inr (4, [.ref (q 1), .ref (q 6), .ref (q 11), .int (nI n), .int (bI (st))]))] (-1) := by
  refine metI_of (cc := cX3_empty) (maxL := 2) (ret := (some .int)) (by decide +kernel) rfl (Nat.le_of_ble_eq_true rfl) ?_
  intro K hC hRm hNL hDis hLis hRT hIni hQ
  refine z_aload_n (pc := 0) hC 0 dX3_empty_0 rfl ?_
  refine z_iload_n (pc := 1) hC 1 dX3_empty_1 rfl ?_
  refine z_iconst (pc := 2) (v := (nI 1)) hC dX3_empty_2 (by decide +kernel) ?_
  refine z_callV_I (pc := 3) (y := yX3_sub) (wy := wsX3_sub) (rm := { frames := 1, cells := 0, slots := 0, locals := 21 }) (As := [.int a0, .int (nI 1)]) (rest := []) (na := 2) (C := RX3) (T := TX3) (NF := 5) (ci := 4) (wc := [(q 0, .inr (4, [.ref (q 1), .ref (q 6), .ref (q 11), .int (nI n), .int (bI (st))]))]) (wc2 := [(q 0, .inr (4, [.ref (q 1), .ref (q 6), .ref (q 11), .int (nI n), .int (bI (st))]))]) hC hRm hDis hLis 0 rfl rfl gX3_empty_X3_sub ⟨rfl, by decide +kernel, by decide +kernel⟩ rfl ⟨by decide, by decide⟩ ⟨by decide, by decide⟩ rfl (Nat.le_of_ble_eq_true rfl) (by decide +kernel) (c_X3_sub_bad _ _ cI cJ cZ (q) (n) (st) (a0) (nI 1) (hi)) [0] [] [0] [] rfl (by decide) rfl (by decide) (by decide) [(q 0, .inr (4, [.ref (q 1), .ref (q 6), .ref (q 11), .int (nI n), .int (bI (st))]))] rfl (by decide) rfl dX3_empty_3 ?_
  exact z_iret (pc := 6) hC hQ hRT (rfl) (rfl) (rfl) dX3_empty_6

set_option maxRecDepth 100000 in
set_option maxHeartbeats 4000000 in
theorem c_X3_empty_ok (l : Launch) (D : va_G) (cI cJ cZ : ClassId) (q : Nat → Nat) (n : Nat) (Kd : Nat → Int32) (Aa : Nat → Int32) (Ab : Nat → Int32) (Ac : Nat → Int32) (cnt : Nat) (s : CSt) (a : Nat) (hn : n ≤ 24) (hcnt : cnt ≤ 80) (hax : ∀ k, k < cnt → axV n (Kd k) (Aa k) (Ab k) (Ac k)) (ha : a < n) (h2 : 2 ≤ n) : MI l yX3_empty wsX3_empty { frames := 7, cells := 0, slots := 0, locals := 169 } D (tyL cI cJ cZ) [.ref (q 0), .int (nI a)] [(q 0, .inr (4, [.ref (q 1), .ref (q 6), .ref (q 11), .int (nI n), .int (bI (s.2.2))])), (q 1, .inr (1, [.ref (q 2), .ref (q 3), .ref (q 4), .ref (q 5), .int (nI cnt)])), (q 2, .inl (cI, 80, .inl Kd)), (q 3, .inl (cI, 80, .inl Aa)), (q 4, .inl (cI, 80, .inl Ab)), (q 5, .inl (cI, 80, .inl Ac)), (q 6, .inr (2, [.ref (q 7), .ref (q 8), .ref (q 9), .ref (q 10), .int (nI (s.2.1)), .int (nI ((s.1).2.2.1.2)), .int (nI ((s.1).2.2.2)), .int ((s.1).1.2.2)])), (q 7, .inl (cI, 168, .inl ((s.1).2.1))), (q 8, .inl (cI, 168, .inl ((s.1).1.1))), (q 9, .inl (cJ, 4032, .inr (.inl ((s.1).1.2.1)))), (q 10, .inl (cI, 4032, .inl ((s.1).2.2.1.1)))] [(q 0, .inr (4, [.ref (q 1), .ref (q 6), .ref (q 11), .int (nI n), .int (bI ((cloT n cnt Kd Aa Ab Ac s).2.2))])), (q 1, .inr (1, [.ref (q 2), .ref (q 3), .ref (q 4), .ref (q 5), .int (nI cnt)])), (q 2, .inl (cI, 80, .inl Kd)), (q 3, .inl (cI, 80, .inl Aa)), (q 4, .inl (cI, 80, .inl Ab)), (q 5, .inl (cI, 80, .inl Ac)), (q 6, .inr (2, [.ref (q 7), .ref (q 8), .ref (q 9), .ref (q 10), .int (nI ((cloT n cnt Kd Aa Ab Ac s).2.1)), .int (nI (((cloT n cnt Kd Aa Ab Ac s).1).2.2.1.2)), .int (nI (((cloT n cnt Kd Aa Ab Ac s).1).2.2.2)), .int (((cloT n cnt Kd Aa Ab Ac s).1).1.2.2)])), (q 7, .inl (cI, 168, .inl (((cloT n cnt Kd Aa Ab Ac s).1).2.1))), (q 8, .inl (cI, 168, .inl (((cloT n cnt Kd Aa Ab Ac s).1).1.1))), (q 9, .inl (cJ, 4032, .inr (.inl (((cloT n cnt Kd Aa Ab Ac s).1).1.2.1)))), (q 10, .inl (cI, 4032, .inl (((cloT n cnt Kd Aa Ab Ac s).1).2.2.1.1)))] (bI (inB (nI a) ((cloT n cnt Kd Aa Ab Ac s).1.1.1 1))) := by
  refine metI_of (cc := cX3_empty) (maxL := 2) (ret := (some .int)) (by decide +kernel) rfl (Nat.le_of_ble_eq_true rfl) ?_
  intro K hC hRm hNL hDis hLis hRT hIni hQ
  refine z_aload_n (pc := 0) hC 0 dX3_empty_0 rfl ?_
  refine z_iload_n (pc := 1) hC 1 dX3_empty_1 rfl ?_
  refine z_iconst (pc := 2) (v := (nI 1)) hC dX3_empty_2 (by decide +kernel) ?_
  refine z_callV_I (pc := 3) (y := yX3_sub) (wy := wsX3_sub) (rm := { frames := 6, cells := 0, slots := 0, locals := 147 }) (As := [.int (nI a), .int (nI 1)]) (rest := []) (na := 2) (C := RX3) (T := TX3) (NF := 5) (ci := 4) (wc := [(q 0, .inr (4, [.ref (q 1), .ref (q 6), .ref (q 11), .int (nI n), .int (bI (s.2.2))])), (q 1, .inr (1, [.ref (q 2), .ref (q 3), .ref (q 4), .ref (q 5), .int (nI cnt)])), (q 2, .inl (cI, 80, .inl Kd)), (q 3, .inl (cI, 80, .inl Aa)), (q 4, .inl (cI, 80, .inl Ab)), (q 5, .inl (cI, 80, .inl Ac)), (q 6, .inr (2, [.ref (q 7), .ref (q 8), .ref (q 9), .ref (q 10), .int (nI (s.2.1)), .int (nI ((s.1).2.2.1.2)), .int (nI ((s.1).2.2.2)), .int ((s.1).1.2.2)])), (q 7, .inl (cI, 168, .inl ((s.1).2.1))), (q 8, .inl (cI, 168, .inl ((s.1).1.1))), (q 9, .inl (cJ, 4032, .inr (.inl ((s.1).1.2.1)))), (q 10, .inl (cI, 4032, .inl ((s.1).2.2.1.1)))]) (wc2 := [(q 0, .inr (4, [.ref (q 1), .ref (q 6), .ref (q 11), .int (nI n), .int (bI ((cloT n cnt Kd Aa Ab Ac s).2.2))])), (q 1, .inr (1, [.ref (q 2), .ref (q 3), .ref (q 4), .ref (q 5), .int (nI cnt)])), (q 2, .inl (cI, 80, .inl Kd)), (q 3, .inl (cI, 80, .inl Aa)), (q 4, .inl (cI, 80, .inl Ab)), (q 5, .inl (cI, 80, .inl Ac)), (q 6, .inr (2, [.ref (q 7), .ref (q 8), .ref (q 9), .ref (q 10), .int (nI ((cloT n cnt Kd Aa Ab Ac s).2.1)), .int (nI (((cloT n cnt Kd Aa Ab Ac s).1).2.2.1.2)), .int (nI (((cloT n cnt Kd Aa Ab Ac s).1).2.2.2)), .int (((cloT n cnt Kd Aa Ab Ac s).1).1.2.2)])), (q 7, .inl (cI, 168, .inl (((cloT n cnt Kd Aa Ab Ac s).1).2.1))), (q 8, .inl (cI, 168, .inl (((cloT n cnt Kd Aa Ab Ac s).1).1.1))), (q 9, .inl (cJ, 4032, .inr (.inl (((cloT n cnt Kd Aa Ab Ac s).1).1.2.1)))), (q 10, .inl (cI, 4032, .inl (((cloT n cnt Kd Aa Ab Ac s).1).2.2.1.1)))]) hC hRm hDis hLis 0 rfl rfl gX3_empty_X3_sub ⟨rfl, by decide +kernel, by decide +kernel⟩ rfl ⟨by decide, by decide⟩ ⟨by decide, by decide⟩ rfl (Nat.le_of_ble_eq_true rfl) (by decide +kernel) (c_X3_sub_ok _ _ cI cJ cZ (q) (n) (Kd) (Aa) (Ab) (Ac) (cnt) (s) (a) (1) (hn) (hcnt) (hax) (ha) (by omega)) [0, 1, 2, 3, 4, 5, 6, 7, 8, 9, 10] [] [0, 1, 2, 3, 4, 5, 6, 7, 8, 9, 10] [] rfl (by decide) rfl (by decide) (by decide) [(q 0, .inr (4, [.ref (q 1), .ref (q 6), .ref (q 11), .int (nI n), .int (bI ((cloT n cnt Kd Aa Ab Ac s).2.2))])), (q 1, .inr (1, [.ref (q 2), .ref (q 3), .ref (q 4), .ref (q 5), .int (nI cnt)])), (q 2, .inl (cI, 80, .inl Kd)), (q 3, .inl (cI, 80, .inl Aa)), (q 4, .inl (cI, 80, .inl Ab)), (q 5, .inl (cI, 80, .inl Ac)), (q 6, .inr (2, [.ref (q 7), .ref (q 8), .ref (q 9), .ref (q 10), .int (nI ((cloT n cnt Kd Aa Ab Ac s).2.1)), .int (nI (((cloT n cnt Kd Aa Ab Ac s).1).2.2.1.2)), .int (nI (((cloT n cnt Kd Aa Ab Ac s).1).2.2.2)), .int (((cloT n cnt Kd Aa Ab Ac s).1).1.2.2)])), (q 7, .inl (cI, 168, .inl (((cloT n cnt Kd Aa Ab Ac s).1).2.1))), (q 8, .inl (cI, 168, .inl (((cloT n cnt Kd Aa Ab Ac s).1).1.1))), (q 9, .inl (cJ, 4032, .inr (.inl (((cloT n cnt Kd Aa Ab Ac s).1).1.2.1)))), (q 10, .inl (cI, 4032, .inl (((cloT n cnt Kd Aa Ab Ac s).1).2.2.1.1)))] rfl (by decide) rfl dX3_empty_3 ?_
  exact z_iret (pc := 6) hC hQ hRT (rfl) (rfl) (rfl) dX3_empty_6

set_option maxRecDepth 100000 in
set_option maxHeartbeats 4000000 in
theorem c_X3_same_bad (l : Launch) (D : va_G) (cI cJ cZ : ClassId) (q : Nat → Nat) (n : Nat) (st : Bool) (a0 : Int32) (hi : isCl a0 (nI n) = false) : MI l yX3_same wsX3_same { frames := 1, cells := 0, slots := 0, locals := 21 } D (tyL cI cJ cZ) [.ref (q 0), .int a0] [(q 0, .inr (4, [.ref (q 1), .ref (q 6), .ref (q 11), .int (nI n), .int (bI (st))]))] [(q 0, .inr (4, [.ref (q 1), .ref (q 6), .ref (q 11), .int (nI n), .int (bI (st))]))] (-1) := by
  refine metI_of (cc := cX3_same) (maxL := 2) (ret := (some .int)) (by decide +kernel) rfl (Nat.le_of_ble_eq_true rfl) ?_
  intro K hC hRm hNL hDis hLis hRT hIni hQ
  refine z_aload_n (pc := 0) hC 0 dX3_same_0 rfl ?_
  refine z_iload_n (pc := 1) hC 1 dX3_same_1 rfl ?_
  refine z_callV_I (pc := 2) (y := yX3_isClass) (wy := wsX3_isClass) (rm := { frames := 0, cells := 0, slots := 0, locals := 0 }) (As := [.int a0]) (rest := []) (na := 1) (C := RX3) (T := TX3) (NF := 5) (ci := 4) (wc := [(q 0, .inr (4, [.ref (q 1), .ref (q 6), .ref (q 11), .int (nI n), .int (bI (st))]))]) (wc2 := [(q 0, .inr (4, [.ref (q 1), .ref (q 6), .ref (q 11), .int (nI n), .int (bI (st))]))]) hC hRm hDis hLis 0 rfl rfl gX3_same_X3_isClass ⟨rfl, by decide +kernel, by decide +kernel⟩ rfl ⟨by decide, by decide⟩ ⟨by decide, by decide⟩ rfl (Nat.le_of_ble_eq_true rfl) (by decide +kernel) (c_X3_isClass _ _ cI cJ cZ (q) (n) (st) (a0) ) [0] [] [0] [] rfl (by decide) rfl (by decide) (by decide) [(q 0, .inr (4, [.ref (q 1), .ref (q 6), .ref (q 11), .int (nI n), .int (bI (st))]))] rfl (by decide) rfl dX3_same_2 ?_
  refine z_bif_ne (pc := 5) (tgt := 10) hC dX3_same_5 (by decide) (fun h5 => absurd h5 (by rw [hi]; decide)) (fun h5 => ?_)
  refine z_iconst (pc := 8) (v := (-1)) hC dX3_same_8 (by decide +kernel) ?_
  exact z_iret (pc := 9) hC hQ hRT (rfl) (rfl) (rfl) dX3_same_9

set_option maxRecDepth 100000 in
set_option maxHeartbeats 4000000 in
theorem c_X3_same_ok (l : Launch) (D : va_G) (cI cJ cZ : ClassId) (q : Nat → Nat) (n : Nat) (Kd : Nat → Int32) (Aa : Nat → Int32) (Ab : Nat → Int32) (Ac : Nat → Int32) (cnt : Nat) (s : CSt) (a : Nat) (hn : n ≤ 24) (hcnt : cnt ≤ 80) (hax : ∀ k, k < cnt → axV n (Kd k) (Aa k) (Ab k) (Ac k)) (ha : a < n) : MI l yX3_same wsX3_same { frames := 6, cells := 0, slots := 0, locals := 147 } D (tyL cI cJ cZ) [.ref (q 0), .int (nI a)] [(q 0, .inr (4, [.ref (q 1), .ref (q 6), .ref (q 11), .int (nI n), .int (bI (s.2.2))])), (q 1, .inr (1, [.ref (q 2), .ref (q 3), .ref (q 4), .ref (q 5), .int (nI cnt)])), (q 2, .inl (cI, 80, .inl Kd)), (q 3, .inl (cI, 80, .inl Aa)), (q 4, .inl (cI, 80, .inl Ab)), (q 5, .inl (cI, 80, .inl Ac)), (q 6, .inr (2, [.ref (q 7), .ref (q 8), .ref (q 9), .ref (q 10), .int (nI (s.2.1)), .int (nI ((s.1).2.2.1.2)), .int (nI ((s.1).2.2.2)), .int ((s.1).1.2.2)])), (q 7, .inl (cI, 168, .inl ((s.1).2.1))), (q 8, .inl (cI, 168, .inl ((s.1).1.1))), (q 9, .inl (cJ, 4032, .inr (.inl ((s.1).1.2.1)))), (q 10, .inl (cI, 4032, .inl ((s.1).2.2.1.1)))] [(q 0, .inr (4, [.ref (q 1), .ref (q 6), .ref (q 11), .int (nI n), .int (bI ((cloT n cnt Kd Aa Ab Ac s).2.2))])), (q 1, .inr (1, [.ref (q 2), .ref (q 3), .ref (q 4), .ref (q 5), .int (nI cnt)])), (q 2, .inl (cI, 80, .inl Kd)), (q 3, .inl (cI, 80, .inl Aa)), (q 4, .inl (cI, 80, .inl Ab)), (q 5, .inl (cI, 80, .inl Ac)), (q 6, .inr (2, [.ref (q 7), .ref (q 8), .ref (q 9), .ref (q 10), .int (nI ((cloT n cnt Kd Aa Ab Ac s).2.1)), .int (nI (((cloT n cnt Kd Aa Ab Ac s).1).2.2.1.2)), .int (nI (((cloT n cnt Kd Aa Ab Ac s).1).2.2.2)), .int (((cloT n cnt Kd Aa Ab Ac s).1).1.2.2)])), (q 7, .inl (cI, 168, .inl (((cloT n cnt Kd Aa Ab Ac s).1).2.1))), (q 8, .inl (cI, 168, .inl (((cloT n cnt Kd Aa Ab Ac s).1).1.1))), (q 9, .inl (cJ, 4032, .inr (.inl (((cloT n cnt Kd Aa Ab Ac s).1).1.2.1)))), (q 10, .inl (cI, 4032, .inl (((cloT n cnt Kd Aa Ab Ac s).1).2.2.1.1)))] (nI (lsF (cloT n cnt Kd Aa Ab Ac s).1.1.1 a a 0)) := by
  refine metI_of (cc := cX3_same) (maxL := 2) (ret := (some .int)) (by decide +kernel) rfl (Nat.le_of_ble_eq_true rfl) ?_
  intro K hC hRm hNL hDis hLis hRT hIni hQ
  refine z_aload_n (pc := 0) hC 0 dX3_same_0 rfl ?_
  refine z_iload_n (pc := 1) hC 1 dX3_same_1 rfl ?_
  refine z_callV_I (pc := 2) (y := yX3_isClass) (wy := wsX3_isClass) (rm := { frames := 0, cells := 0, slots := 0, locals := 0 }) (As := [.int (nI a)]) (rest := []) (na := 1) (C := RX3) (T := TX3) (NF := 5) (ci := 4) (wc := [(q 0, .inr (4, [.ref (q 1), .ref (q 6), .ref (q 11), .int (nI n), .int (bI (s.2.2))]))]) (wc2 := [(q 0, .inr (4, [.ref (q 1), .ref (q 6), .ref (q 11), .int (nI n), .int (bI (s.2.2))]))]) hC hRm hDis hLis 0 rfl rfl gX3_same_X3_isClass ⟨rfl, by decide +kernel, by decide +kernel⟩ rfl ⟨by decide, by decide⟩ ⟨by decide, by decide⟩ rfl (Nat.le_of_ble_eq_true rfl) (by decide +kernel) (c_X3_isClass _ _ cI cJ cZ (q) (n) (s.2.2) (nI a) ) [0] [1, 2, 3, 4, 5, 6, 7, 8, 9, 10] [10, 0, 1, 2, 3, 4, 5, 6, 7, 8, 9] [(q 1, .inr (1, [.ref (q 2), .ref (q 3), .ref (q 4), .ref (q 5), .int (nI cnt)])), (q 2, .inl (cI, 80, .inl Kd)), (q 3, .inl (cI, 80, .inl Aa)), (q 4, .inl (cI, 80, .inl Ab)), (q 5, .inl (cI, 80, .inl Ac)), (q 6, .inr (2, [.ref (q 7), .ref (q 8), .ref (q 9), .ref (q 10), .int (nI (s.2.1)), .int (nI ((s.1).2.2.1.2)), .int (nI ((s.1).2.2.2)), .int ((s.1).1.2.2)])), (q 7, .inl (cI, 168, .inl ((s.1).2.1))), (q 8, .inl (cI, 168, .inl ((s.1).1.1))), (q 9, .inl (cJ, 4032, .inr (.inl ((s.1).1.2.1)))), (q 10, .inl (cI, 4032, .inl ((s.1).2.2.1.1)))] rfl (by decide) rfl (by decide) (by decide) [(q 0, .inr (4, [.ref (q 1), .ref (q 6), .ref (q 11), .int (nI n), .int (bI (s.2.2))])), (q 1, .inr (1, [.ref (q 2), .ref (q 3), .ref (q 4), .ref (q 5), .int (nI cnt)])), (q 2, .inl (cI, 80, .inl Kd)), (q 3, .inl (cI, 80, .inl Aa)), (q 4, .inl (cI, 80, .inl Ab)), (q 5, .inl (cI, 80, .inl Ac)), (q 6, .inr (2, [.ref (q 7), .ref (q 8), .ref (q 9), .ref (q 10), .int (nI (s.2.1)), .int (nI ((s.1).2.2.1.2)), .int (nI ((s.1).2.2.2)), .int ((s.1).1.2.2)])), (q 7, .inl (cI, 168, .inl ((s.1).2.1))), (q 8, .inl (cI, 168, .inl ((s.1).1.1))), (q 9, .inl (cJ, 4032, .inr (.inl ((s.1).1.2.1)))), (q 10, .inl (cI, 4032, .inl ((s.1).2.2.1.1)))] rfl (by decide) rfl dX3_same_2 ?_
  refine z_bif_ne (pc := 5) (tgt := 10) hC dX3_same_5 (by decide) (fun h5 => ?_) (fun h5 => absurd (isCl_nI ha (by omega)) (by rw [h5]; decide))
  refine z_aload_n (pc := 10) hC 0 dX3_same_10 rfl ?_
  refine z_callV_A (pc := 11) (y := yX3_closed) (wy := wsX3_closed) (rm := { frames := 5, cells := 0, slots := 0, locals := 127 }) (As := []) (rest := []) (na := 0) (C := RX3) (T := TX3) (NF := 5) (ci := 4) (wc := [(q 0, .inr (4, [.ref (q 1), .ref (q 6), .ref (q 11), .int (nI n), .int (bI (s.2.2))])), (q 1, .inr (1, [.ref (q 2), .ref (q 3), .ref (q 4), .ref (q 5), .int (nI cnt)])), (q 2, .inl (cI, 80, .inl Kd)), (q 3, .inl (cI, 80, .inl Aa)), (q 4, .inl (cI, 80, .inl Ab)), (q 5, .inl (cI, 80, .inl Ac)), (q 6, .inr (2, [.ref (q 7), .ref (q 8), .ref (q 9), .ref (q 10), .int (nI (s.2.1)), .int (nI ((s.1).2.2.1.2)), .int (nI ((s.1).2.2.2)), .int ((s.1).1.2.2)])), (q 7, .inl (cI, 168, .inl ((s.1).2.1))), (q 8, .inl (cI, 168, .inl ((s.1).1.1))), (q 9, .inl (cJ, 4032, .inr (.inl ((s.1).1.2.1)))), (q 10, .inl (cI, 4032, .inl ((s.1).2.2.1.1)))]) (wc2 := [(q 0, .inr (4, [.ref (q 1), .ref (q 6), .ref (q 11), .int (nI n), .int (bI ((cloT n cnt Kd Aa Ab Ac s).2.2))])), (q 1, .inr (1, [.ref (q 2), .ref (q 3), .ref (q 4), .ref (q 5), .int (nI cnt)])), (q 2, .inl (cI, 80, .inl Kd)), (q 3, .inl (cI, 80, .inl Aa)), (q 4, .inl (cI, 80, .inl Ab)), (q 5, .inl (cI, 80, .inl Ac)), (q 6, .inr (2, [.ref (q 7), .ref (q 8), .ref (q 9), .ref (q 10), .int (nI ((cloT n cnt Kd Aa Ab Ac s).2.1)), .int (nI (((cloT n cnt Kd Aa Ab Ac s).1).2.2.1.2)), .int (nI (((cloT n cnt Kd Aa Ab Ac s).1).2.2.2)), .int (((cloT n cnt Kd Aa Ab Ac s).1).1.2.2)])), (q 7, .inl (cI, 168, .inl (((cloT n cnt Kd Aa Ab Ac s).1).2.1))), (q 8, .inl (cI, 168, .inl (((cloT n cnt Kd Aa Ab Ac s).1).1.1))), (q 9, .inl (cJ, 4032, .inr (.inl (((cloT n cnt Kd Aa Ab Ac s).1).1.2.1)))), (q 10, .inl (cI, 4032, .inl (((cloT n cnt Kd Aa Ab Ac s).1).2.2.1.1)))]) hC hRm hDis hLis 0 rfl rfl gX3_same_X3_closed ⟨rfl, by decide +kernel, by decide +kernel⟩ rfl ⟨by decide, by decide⟩ ⟨by decide, by decide⟩ rfl (Nat.le_of_ble_eq_true rfl) (by decide +kernel) (c_X3_closed _ _ cI cJ cZ (q) (n) (Kd) (Aa) (Ab) (Ac) (cnt) (s) (hn) (hcnt) (hax)) [0, 1, 2, 3, 4, 5, 6, 7, 8, 9, 10] [] [0, 1, 2, 3, 4, 5, 6, 7, 8, 9, 10] [] rfl (by decide) rfl (by decide) (by decide) [(q 0, .inr (4, [.ref (q 1), .ref (q 6), .ref (q 11), .int (nI n), .int (bI ((cloT n cnt Kd Aa Ab Ac s).2.2))])), (q 1, .inr (1, [.ref (q 2), .ref (q 3), .ref (q 4), .ref (q 5), .int (nI cnt)])), (q 2, .inl (cI, 80, .inl Kd)), (q 3, .inl (cI, 80, .inl Aa)), (q 4, .inl (cI, 80, .inl Ab)), (q 5, .inl (cI, 80, .inl Ac)), (q 6, .inr (2, [.ref (q 7), .ref (q 8), .ref (q 9), .ref (q 10), .int (nI ((cloT n cnt Kd Aa Ab Ac s).2.1)), .int (nI (((cloT n cnt Kd Aa Ab Ac s).1).2.2.1.2)), .int (nI (((cloT n cnt Kd Aa Ab Ac s).1).2.2.2)), .int (((cloT n cnt Kd Aa Ab Ac s).1).1.2.2)])), (q 7, .inl (cI, 168, .inl (((cloT n cnt Kd Aa Ab Ac s).1).2.1))), (q 8, .inl (cI, 168, .inl (((cloT n cnt Kd Aa Ab Ac s).1).1.1))), (q 9, .inl (cJ, 4032, .inr (.inl (((cloT n cnt Kd Aa Ab Ac s).1).1.2.1)))), (q 10, .inl (cI, 4032, .inl (((cloT n cnt Kd Aa Ab Ac s).1).2.2.1.1)))] rfl (by decide) rfl dX3_same_11 ?_
  refine z_iload_n (pc := 14) hC 1 dX3_same_14 rfl ?_
  refine z_callVN_I (pc := 15) (y := yX1_leastSame) (wy := wsX1_leastSame) (rm := { frames := 3, cells := 0, slots := 0, locals := 65 }) (As := [.int (nI a)]) (rest := []) (na := 1) (C := RX1) (T := TX1) (NF := 8) (ci := 2) (wc := [(q 6, .inr (2, [.ref (q 7), .ref (q 8), .ref (q 9), .ref (q 10), .int (nI ((cloT n cnt Kd Aa Ab Ac s).2.1)), .int (nI (((cloT n cnt Kd Aa Ab Ac s).1).2.2.1.2)), .int (nI (((cloT n cnt Kd Aa Ab Ac s).1).2.2.2)), .int (((cloT n cnt Kd Aa Ab Ac s).1).1.2.2)])), (q 8, .inl (cI, 168, .inl (((cloT n cnt Kd Aa Ab Ac s).1).1.1)))]) (wc2 := [(q 6, .inr (2, [.ref (q 7), .ref (q 8), .ref (q 9), .ref (q 10), .int (nI (((cloT n cnt Kd Aa Ab Ac s).2.1))), .int (nI (((cloT n cnt Kd Aa Ab Ac s).1).2.2.1.2)), .int (nI (((cloT n cnt Kd Aa Ab Ac s).1).2.2.2)), .int (((cloT n cnt Kd Aa Ab Ac s).1).1.2.2)])), (q 8, .inl (cI, 168, .inl (((cloT n cnt Kd Aa Ab Ac s).1).1.1)))]) hC hRm hDis hLis 0 rfl rfl gX3_same_X1_leastSame_n115 (by decide +kernel) (by decide +kernel) (by decide +kernel) (by decide +kernel) ⟨by decide +kernel, by decide +kernel⟩ rfl ⟨by decide, by decide⟩ ⟨by decide, by decide⟩ rfl (Nat.le_of_ble_eq_true rfl) (by decide +kernel) (c_X1_leastSame _ _ cI cJ cZ (q) (((cloT n cnt Kd Aa Ab Ac s).1).1.1) ((cloT n cnt Kd Aa Ab Ac s).2.1) (nI (((cloT n cnt Kd Aa Ab Ac s).1).2.2.1.2)) (nI (((cloT n cnt Kd Aa Ab Ac s).1).2.2.2)) (((cloT n cnt Kd Aa Ab Ac s).1).1.2.2) (a) (by omega)) [6, 8] [0, 1, 2, 3, 4, 5, 7, 9, 10] [0, 1, 2, 3, 4, 5, 9, 6, 10, 7, 8] [(q 0, .inr (4, [.ref (q 1), .ref (q 6), .ref (q 11), .int (nI n), .int (bI ((cloT n cnt Kd Aa Ab Ac s).2.2))])), (q 1, .inr (1, [.ref (q 2), .ref (q 3), .ref (q 4), .ref (q 5), .int (nI cnt)])), (q 2, .inl (cI, 80, .inl Kd)), (q 3, .inl (cI, 80, .inl Aa)), (q 4, .inl (cI, 80, .inl Ab)), (q 5, .inl (cI, 80, .inl Ac)), (q 7, .inl (cI, 168, .inl (((cloT n cnt Kd Aa Ab Ac s).1).2.1))), (q 9, .inl (cJ, 4032, .inr (.inl (((cloT n cnt Kd Aa Ab Ac s).1).1.2.1)))), (q 10, .inl (cI, 4032, .inl (((cloT n cnt Kd Aa Ab Ac s).1).2.2.1.1)))] rfl (by decide) rfl (by decide) (by decide) [(q 0, .inr (4, [.ref (q 1), .ref (q 6), .ref (q 11), .int (nI n), .int (bI ((cloT n cnt Kd Aa Ab Ac s).2.2))])), (q 1, .inr (1, [.ref (q 2), .ref (q 3), .ref (q 4), .ref (q 5), .int (nI cnt)])), (q 2, .inl (cI, 80, .inl Kd)), (q 3, .inl (cI, 80, .inl Aa)), (q 4, .inl (cI, 80, .inl Ab)), (q 5, .inl (cI, 80, .inl Ac)), (q 6, .inr (2, [.ref (q 7), .ref (q 8), .ref (q 9), .ref (q 10), .int (nI (((cloT n cnt Kd Aa Ab Ac s).2.1))), .int (nI (((cloT n cnt Kd Aa Ab Ac s).1).2.2.1.2)), .int (nI (((cloT n cnt Kd Aa Ab Ac s).1).2.2.2)), .int (((cloT n cnt Kd Aa Ab Ac s).1).1.2.2)])), (q 7, .inl (cI, 168, .inl (((cloT n cnt Kd Aa Ab Ac s).1).2.1))), (q 8, .inl (cI, 168, .inl (((cloT n cnt Kd Aa Ab Ac s).1).1.1))), (q 9, .inl (cJ, 4032, .inr (.inl (((cloT n cnt Kd Aa Ab Ac s).1).1.2.1)))), (q 10, .inl (cI, 4032, .inl (((cloT n cnt Kd Aa Ab Ac s).1).2.2.1.1)))] rfl (by decide) rfl dX3_same_15 ?_
  exact z_iret (pc := 18) hC hQ hRT (rfl) (rfl) (rfl) dX3_same_18

set_option maxRecDepth 100000 in
set_option maxHeartbeats 4000000 in
theorem c_X3_parent_bad (l : Launch) (D : va_G) (cI cJ cZ : ClassId) (q : Nat → Nat) (n : Nat) (st : Bool) (a0 : Int32) (i0 : Int32) (hi : (isCl a0 (nI n) && decide (0 ≤ i0)) = false) : MI l yX3_parent wsX3_parent { frames := 1, cells := 0, slots := 0, locals := 21 } D (tyL cI cJ cZ) [.ref (q 0), .int a0, .int i0] [(q 0, .inr (4, [.ref (q 1), .ref (q 6), .ref (q 11), .int (nI n), .int (bI (st))]))] [(q 0, .inr (4, [.ref (q 1), .ref (q 6), .ref (q 11), .int (nI n), .int (bI (st))]))] (-1) := by
  refine metI_of (cc := cX3_parent) (maxL := 3) (ret := (some .int)) (by decide +kernel) rfl (Nat.le_of_ble_eq_true rfl) ?_
  intro K hC hRm hNL hDis hLis hRT hIni hQ
  refine z_aload_n (pc := 0) hC 0 dX3_parent_0 rfl ?_
  refine z_iload_n (pc := 1) hC 1 dX3_parent_1 rfl ?_
  refine z_callV_I (pc := 2) (y := yX3_isClass) (wy := wsX3_isClass) (rm := { frames := 0, cells := 0, slots := 0, locals := 0 }) (As := [.int a0]) (rest := []) (na := 1) (C := RX3) (T := TX3) (NF := 5) (ci := 4) (wc := [(q 0, .inr (4, [.ref (q 1), .ref (q 6), .ref (q 11), .int (nI n), .int (bI (st))]))]) (wc2 := [(q 0, .inr (4, [.ref (q 1), .ref (q 6), .ref (q 11), .int (nI n), .int (bI (st))]))]) hC hRm hDis hLis 0 rfl rfl gX3_parent_X3_isClass ⟨rfl, by decide +kernel, by decide +kernel⟩ rfl ⟨by decide, by decide⟩ ⟨by decide, by decide⟩ rfl (Nat.le_of_ble_eq_true rfl) (by decide +kernel) (c_X3_isClass _ _ cI cJ cZ (q) (n) (st) (a0) ) [0] [] [0] [] rfl (by decide) rfl (by decide) (by decide) [(q 0, .inr (4, [.ref (q 1), .ref (q 6), .ref (q 11), .int (nI n), .int (bI (st))]))] rfl (by decide) rfl dX3_parent_2 ?_
  refine z_bif_eq (pc := 5) (tgt := 12) hC dX3_parent_5 (by decide) (fun h5 => ?_) (fun h5 => ?_)
  · refine z_iconst (pc := 12) (v := (-1)) hC dX3_parent_12 (by decide +kernel) ?_
    exact z_iret (pc := 13) hC hQ hRT (rfl) (rfl) (rfl) dX3_parent_13
  · refine z_iload_n (pc := 8) hC 2 dX3_parent_8 rfl ?_
    refine z_if_ge (pc := 9) (tgt := 14) hC dX3_parent_9 (by decide) (fun h9 => absurd hi (by rw [h5, decide_eq_true h9]; decide)) (fun h9 => ?_)
    refine z_iconst (pc := 12) (v := (-1)) hC dX3_parent_12 (by decide +kernel) ?_
    exact z_iret (pc := 13) hC hQ hRT (rfl) (rfl) (rfl) dX3_parent_13

set_option maxRecDepth 100000 in
set_option maxHeartbeats 4000000 in
theorem c_X3_parent_ok (l : Launch) (D : va_G) (cI cJ cZ : ClassId) (q : Nat → Nat) (n : Nat) (Kd : Nat → Int32) (Aa : Nat → Int32) (Ab : Nat → Int32) (Ac : Nat → Int32) (cnt : Nat) (s : CSt) (a : Nat) (i0 : Int32) (hn : n ≤ 24) (hcnt : cnt ≤ 80) (hax : ∀ k, k < cnt → axV n (Kd k) (Aa k) (Ab k) (Ac k)) (ha : a < n) (hi : 0 ≤ i0) (hm : (cloT n cnt Kd Aa Ab Ac s).2.1 ≤ 24) : MI l yX3_parent wsX3_parent { frames := 6, cells := 0, slots := 0, locals := 147 } D (tyL cI cJ cZ) [.ref (q 0), .int (nI a), .int i0] [(q 0, .inr (4, [.ref (q 1), .ref (q 6), .ref (q 11), .int (nI n), .int (bI (s.2.2))])), (q 1, .inr (1, [.ref (q 2), .ref (q 3), .ref (q 4), .ref (q 5), .int (nI cnt)])), (q 2, .inl (cI, 80, .inl Kd)), (q 3, .inl (cI, 80, .inl Aa)), (q 4, .inl (cI, 80, .inl Ab)), (q 5, .inl (cI, 80, .inl Ac)), (q 6, .inr (2, [.ref (q 7), .ref (q 8), .ref (q 9), .ref (q 10), .int (nI (s.2.1)), .int (nI ((s.1).2.2.1.2)), .int (nI ((s.1).2.2.2)), .int ((s.1).1.2.2)])), (q 7, .inl (cI, 168, .inl ((s.1).2.1))), (q 8, .inl (cI, 168, .inl ((s.1).1.1))), (q 9, .inl (cJ, 4032, .inr (.inl ((s.1).1.2.1)))), (q 10, .inl (cI, 4032, .inl ((s.1).2.2.1.1)))] [(q 0, .inr (4, [.ref (q 1), .ref (q 6), .ref (q 11), .int (nI n), .int (bI ((cloT n cnt Kd Aa Ab Ac s).2.2))])), (q 1, .inr (1, [.ref (q 2), .ref (q 3), .ref (q 4), .ref (q 5), .int (nI cnt)])), (q 2, .inl (cI, 80, .inl Kd)), (q 3, .inl (cI, 80, .inl Aa)), (q 4, .inl (cI, 80, .inl Ab)), (q 5, .inl (cI, 80, .inl Ac)), (q 6, .inr (2, [.ref (q 7), .ref (q 8), .ref (q 9), .ref (q 10), .int (nI ((cloT n cnt Kd Aa Ab Ac s).2.1)), .int (nI (((cloT n cnt Kd Aa Ab Ac s).1).2.2.1.2)), .int (nI (((cloT n cnt Kd Aa Ab Ac s).1).2.2.2)), .int (((cloT n cnt Kd Aa Ab Ac s).1).1.2.2)])), (q 7, .inl (cI, 168, .inl (((cloT n cnt Kd Aa Ab Ac s).1).2.1))), (q 8, .inl (cI, 168, .inl (((cloT n cnt Kd Aa Ab Ac s).1).1.1))), (q 9, .inl (cJ, 4032, .inr (.inl (((cloT n cnt Kd Aa Ab Ac s).1).1.2.1)))), (q 10, .inl (cI, 4032, .inl (((cloT n cnt Kd Aa Ab Ac s).1).2.2.1.1)))] (parF (cloT n cnt Kd Aa Ab Ac s).1.1.1 (cloT n cnt Kd Aa Ab Ac s).2.1 a i0) := by
  refine metI_of (cc := cX3_parent) (maxL := 3) (ret := (some .int)) (by decide +kernel) rfl (Nat.le_of_ble_eq_true rfl) ?_
  intro K hC hRm hNL hDis hLis hRT hIni hQ
  refine z_aload_n (pc := 0) hC 0 dX3_parent_0 rfl ?_
  refine z_iload_n (pc := 1) hC 1 dX3_parent_1 rfl ?_
  refine z_callV_I (pc := 2) (y := yX3_isClass) (wy := wsX3_isClass) (rm := { frames := 0, cells := 0, slots := 0, locals := 0 }) (As := [.int (nI a)]) (rest := []) (na := 1) (C := RX3) (T := TX3) (NF := 5) (ci := 4) (wc := [(q 0, .inr (4, [.ref (q 1), .ref (q 6), .ref (q 11), .int (nI n), .int (bI (s.2.2))]))]) (wc2 := [(q 0, .inr (4, [.ref (q 1), .ref (q 6), .ref (q 11), .int (nI n), .int (bI (s.2.2))]))]) hC hRm hDis hLis 0 rfl rfl gX3_parent_X3_isClass ⟨rfl, by decide +kernel, by decide +kernel⟩ rfl ⟨by decide, by decide⟩ ⟨by decide, by decide⟩ rfl (Nat.le_of_ble_eq_true rfl) (by decide +kernel) (c_X3_isClass _ _ cI cJ cZ (q) (n) (s.2.2) (nI a) ) [0] [1, 2, 3, 4, 5, 6, 7, 8, 9, 10] [10, 0, 1, 2, 3, 4, 5, 6, 7, 8, 9] [(q 1, .inr (1, [.ref (q 2), .ref (q 3), .ref (q 4), .ref (q 5), .int (nI cnt)])), (q 2, .inl (cI, 80, .inl Kd)), (q 3, .inl (cI, 80, .inl Aa)), (q 4, .inl (cI, 80, .inl Ab)), (q 5, .inl (cI, 80, .inl Ac)), (q 6, .inr (2, [.ref (q 7), .ref (q 8), .ref (q 9), .ref (q 10), .int (nI (s.2.1)), .int (nI ((s.1).2.2.1.2)), .int (nI ((s.1).2.2.2)), .int ((s.1).1.2.2)])), (q 7, .inl (cI, 168, .inl ((s.1).2.1))), (q 8, .inl (cI, 168, .inl ((s.1).1.1))), (q 9, .inl (cJ, 4032, .inr (.inl ((s.1).1.2.1)))), (q 10, .inl (cI, 4032, .inl ((s.1).2.2.1.1)))] rfl (by decide) rfl (by decide) (by decide) [(q 0, .inr (4, [.ref (q 1), .ref (q 6), .ref (q 11), .int (nI n), .int (bI (s.2.2))])), (q 1, .inr (1, [.ref (q 2), .ref (q 3), .ref (q 4), .ref (q 5), .int (nI cnt)])), (q 2, .inl (cI, 80, .inl Kd)), (q 3, .inl (cI, 80, .inl Aa)), (q 4, .inl (cI, 80, .inl Ab)), (q 5, .inl (cI, 80, .inl Ac)), (q 6, .inr (2, [.ref (q 7), .ref (q 8), .ref (q 9), .ref (q 10), .int (nI (s.2.1)), .int (nI ((s.1).2.2.1.2)), .int (nI ((s.1).2.2.2)), .int ((s.1).1.2.2)])), (q 7, .inl (cI, 168, .inl ((s.1).2.1))), (q 8, .inl (cI, 168, .inl ((s.1).1.1))), (q 9, .inl (cJ, 4032, .inr (.inl ((s.1).1.2.1)))), (q 10, .inl (cI, 4032, .inl ((s.1).2.2.1.1)))] rfl (by decide) rfl dX3_parent_2 ?_
  refine z_bif_eq (pc := 5) (tgt := 12) hC dX3_parent_5 (by decide) (fun h5 => absurd (isCl_nI ha (by omega)) (by rw [h5]; decide)) (fun h5 => ?_)
  refine z_iload_n (pc := 8) hC 2 dX3_parent_8 rfl ?_
  refine z_if_ge (pc := 9) (tgt := 14) hC dX3_parent_9 (by decide) (fun h9 => ?_) (fun h9 => absurd hi h9)
  refine z_aload_n (pc := 14) hC 0 dX3_parent_14 rfl ?_
  refine z_callV_A (pc := 15) (y := yX3_closed) (wy := wsX3_closed) (rm := { frames := 5, cells := 0, slots := 0, locals := 127 }) (As := []) (rest := []) (na := 0) (C := RX3) (T := TX3) (NF := 5) (ci := 4) (wc := [(q 0, .inr (4, [.ref (q 1), .ref (q 6), .ref (q 11), .int (nI n), .int (bI (s.2.2))])), (q 1, .inr (1, [.ref (q 2), .ref (q 3), .ref (q 4), .ref (q 5), .int (nI cnt)])), (q 2, .inl (cI, 80, .inl Kd)), (q 3, .inl (cI, 80, .inl Aa)), (q 4, .inl (cI, 80, .inl Ab)), (q 5, .inl (cI, 80, .inl Ac)), (q 6, .inr (2, [.ref (q 7), .ref (q 8), .ref (q 9), .ref (q 10), .int (nI (s.2.1)), .int (nI ((s.1).2.2.1.2)), .int (nI ((s.1).2.2.2)), .int ((s.1).1.2.2)])), (q 7, .inl (cI, 168, .inl ((s.1).2.1))), (q 8, .inl (cI, 168, .inl ((s.1).1.1))), (q 9, .inl (cJ, 4032, .inr (.inl ((s.1).1.2.1)))), (q 10, .inl (cI, 4032, .inl ((s.1).2.2.1.1)))]) (wc2 := [(q 0, .inr (4, [.ref (q 1), .ref (q 6), .ref (q 11), .int (nI n), .int (bI ((cloT n cnt Kd Aa Ab Ac s).2.2))])), (q 1, .inr (1, [.ref (q 2), .ref (q 3), .ref (q 4), .ref (q 5), .int (nI cnt)])), (q 2, .inl (cI, 80, .inl Kd)), (q 3, .inl (cI, 80, .inl Aa)), (q 4, .inl (cI, 80, .inl Ab)), (q 5, .inl (cI, 80, .inl Ac)), (q 6, .inr (2, [.ref (q 7), .ref (q 8), .ref (q 9), .ref (q 10), .int (nI ((cloT n cnt Kd Aa Ab Ac s).2.1)), .int (nI (((cloT n cnt Kd Aa Ab Ac s).1).2.2.1.2)), .int (nI (((cloT n cnt Kd Aa Ab Ac s).1).2.2.2)), .int (((cloT n cnt Kd Aa Ab Ac s).1).1.2.2)])), (q 7, .inl (cI, 168, .inl (((cloT n cnt Kd Aa Ab Ac s).1).2.1))), (q 8, .inl (cI, 168, .inl (((cloT n cnt Kd Aa Ab Ac s).1).1.1))), (q 9, .inl (cJ, 4032, .inr (.inl (((cloT n cnt Kd Aa Ab Ac s).1).1.2.1)))), (q 10, .inl (cI, 4032, .inl (((cloT n cnt Kd Aa Ab Ac s).1).2.2.1.1)))]) hC hRm hDis hLis 0 rfl rfl gX3_parent_X3_closed ⟨rfl, by decide +kernel, by decide +kernel⟩ rfl ⟨by decide, by decide⟩ ⟨by decide, by decide⟩ rfl (Nat.le_of_ble_eq_true rfl) (by decide +kernel) (c_X3_closed _ _ cI cJ cZ (q) (n) (Kd) (Aa) (Ab) (Ac) (cnt) (s) (hn) (hcnt) (hax)) [0, 1, 2, 3, 4, 5, 6, 7, 8, 9, 10] [] [0, 1, 2, 3, 4, 5, 6, 7, 8, 9, 10] [] rfl (by decide) rfl (by decide) (by decide) [(q 0, .inr (4, [.ref (q 1), .ref (q 6), .ref (q 11), .int (nI n), .int (bI ((cloT n cnt Kd Aa Ab Ac s).2.2))])), (q 1, .inr (1, [.ref (q 2), .ref (q 3), .ref (q 4), .ref (q 5), .int (nI cnt)])), (q 2, .inl (cI, 80, .inl Kd)), (q 3, .inl (cI, 80, .inl Aa)), (q 4, .inl (cI, 80, .inl Ab)), (q 5, .inl (cI, 80, .inl Ac)), (q 6, .inr (2, [.ref (q 7), .ref (q 8), .ref (q 9), .ref (q 10), .int (nI ((cloT n cnt Kd Aa Ab Ac s).2.1)), .int (nI (((cloT n cnt Kd Aa Ab Ac s).1).2.2.1.2)), .int (nI (((cloT n cnt Kd Aa Ab Ac s).1).2.2.2)), .int (((cloT n cnt Kd Aa Ab Ac s).1).1.2.2)])), (q 7, .inl (cI, 168, .inl (((cloT n cnt Kd Aa Ab Ac s).1).2.1))), (q 8, .inl (cI, 168, .inl (((cloT n cnt Kd Aa Ab Ac s).1).1.1))), (q 9, .inl (cJ, 4032, .inr (.inl (((cloT n cnt Kd Aa Ab Ac s).1).1.2.1)))), (q 10, .inl (cI, 4032, .inl (((cloT n cnt Kd Aa Ab Ac s).1).2.2.1.1)))] rfl (by decide) rfl dX3_parent_15 ?_
  refine z_iload_n (pc := 18) hC 1 dX3_parent_18 rfl ?_
  refine z_iload_n (pc := 19) hC 2 dX3_parent_19 rfl ?_
  refine z_callVN_I (pc := 20) (y := yX1_parentOf) (wy := wsX1_parentOf) (rm := { frames := 5, cells := 0, slots := 0, locals := 110 }) (As := [.int (nI a), .int i0]) (rest := []) (na := 2) (C := RX1) (T := TX1) (NF := 8) (ci := 2) (wc := [(q 6, .inr (2, [.ref (q 7), .ref (q 8), .ref (q 9), .ref (q 10), .int (nI ((cloT n cnt Kd Aa Ab Ac s).2.1)), .int (nI (((cloT n cnt Kd Aa Ab Ac s).1).2.2.1.2)), .int (nI (((cloT n cnt Kd Aa Ab Ac s).1).2.2.2)), .int (((cloT n cnt Kd Aa Ab Ac s).1).1.2.2)])), (q 8, .inl (cI, 168, .inl (((cloT n cnt Kd Aa Ab Ac s).1).1.1)))]) (wc2 := [(q 6, .inr (2, [.ref (q 7), .ref (q 8), .ref (q 9), .ref (q 10), .int (nI (((cloT n cnt Kd Aa Ab Ac s).2.1))), .int (nI (((cloT n cnt Kd Aa Ab Ac s).1).2.2.1.2)), .int (nI (((cloT n cnt Kd Aa Ab Ac s).1).2.2.2)), .int (((cloT n cnt Kd Aa Ab Ac s).1).1.2.2)])), (q 8, .inl (cI, 168, .inl (((cloT n cnt Kd Aa Ab Ac s).1).1.1)))]) hC hRm hDis hLis 0 rfl rfl gX3_parent_X1_parentOf_n118 (by decide +kernel) (by decide +kernel) (by decide +kernel) (by decide +kernel) ⟨by decide +kernel, by decide +kernel⟩ rfl ⟨by decide, by decide⟩ ⟨by decide, by decide⟩ rfl (Nat.le_of_ble_eq_true rfl) (by decide +kernel) (c_X1_parentOf _ _ cI cJ cZ (q) (((cloT n cnt Kd Aa Ab Ac s).1).1.1) ((cloT n cnt Kd Aa Ab Ac s).2.1) (nI (((cloT n cnt Kd Aa Ab Ac s).1).2.2.1.2)) (nI (((cloT n cnt Kd Aa Ab Ac s).1).2.2.2)) (((cloT n cnt Kd Aa Ab Ac s).1).1.2.2) (a) (i0) (hm) (by omega)) [6, 8] [0, 1, 2, 3, 4, 5, 7, 9, 10] [0, 1, 2, 3, 4, 5, 9, 6, 10, 7, 8] [(q 0, .inr (4, [.ref (q 1), .ref (q 6), .ref (q 11), .int (nI n), .int (bI ((cloT n cnt Kd Aa Ab Ac s).2.2))])), (q 1, .inr (1, [.ref (q 2), .ref (q 3), .ref (q 4), .ref (q 5), .int (nI cnt)])), (q 2, .inl (cI, 80, .inl Kd)), (q 3, .inl (cI, 80, .inl Aa)), (q 4, .inl (cI, 80, .inl Ab)), (q 5, .inl (cI, 80, .inl Ac)), (q 7, .inl (cI, 168, .inl (((cloT n cnt Kd Aa Ab Ac s).1).2.1))), (q 9, .inl (cJ, 4032, .inr (.inl (((cloT n cnt Kd Aa Ab Ac s).1).1.2.1)))), (q 10, .inl (cI, 4032, .inl (((cloT n cnt Kd Aa Ab Ac s).1).2.2.1.1)))] rfl (by decide) rfl (by decide) (by decide) [(q 0, .inr (4, [.ref (q 1), .ref (q 6), .ref (q 11), .int (nI n), .int (bI ((cloT n cnt Kd Aa Ab Ac s).2.2))])), (q 1, .inr (1, [.ref (q 2), .ref (q 3), .ref (q 4), .ref (q 5), .int (nI cnt)])), (q 2, .inl (cI, 80, .inl Kd)), (q 3, .inl (cI, 80, .inl Aa)), (q 4, .inl (cI, 80, .inl Ab)), (q 5, .inl (cI, 80, .inl Ac)), (q 6, .inr (2, [.ref (q 7), .ref (q 8), .ref (q 9), .ref (q 10), .int (nI (((cloT n cnt Kd Aa Ab Ac s).2.1))), .int (nI (((cloT n cnt Kd Aa Ab Ac s).1).2.2.1.2)), .int (nI (((cloT n cnt Kd Aa Ab Ac s).1).2.2.2)), .int (((cloT n cnt Kd Aa Ab Ac s).1).1.2.2)])), (q 7, .inl (cI, 168, .inl (((cloT n cnt Kd Aa Ab Ac s).1).2.1))), (q 8, .inl (cI, 168, .inl (((cloT n cnt Kd Aa Ab Ac s).1).1.1))), (q 9, .inl (cJ, 4032, .inr (.inl (((cloT n cnt Kd Aa Ab Ac s).1).1.2.1)))), (q 10, .inl (cI, 4032, .inl (((cloT n cnt Kd Aa Ab Ac s).1).2.2.1.1)))] rfl (by decide) rfl dX3_parent_20 ?_
  exact z_iret (pc := 23) hC hQ hRT (rfl) (rfl) (rfl) dX3_parent_23
end
section
theorem zz_end : 1 + 1 = 2 := rfl
end
