section
-- ===== PART A: goes FIRST, ahead of the names: the tables' words, and 'selects' of the private methods out of them =====
/-- a private method of a class that the tables say can be made, by its rows of tables_1 -/
def lw_okq (q : MethodName × Nat) : Prop := (q.1.cls ≠ "java/lang/invoke/MethodHandle" ∧ q.1.cls ≠ "java/lang/invoke/VarHandle") ∧ Cond.instantiable q.1.cls q.2 ∈ tables_1 ∧ Cond.privateMethod q.1 ∈ tables_1 ∧ Cond.instanceMethod q.1 ∈ tables_1
theorem lw_p0 : lw_okq (⟨"ElCompletion", "isAxiom", "(IIII)Z"⟩, 5) := ⟨⟨by decide +kernel, by decide +kernel⟩, List.mem_of_getElem? (i := 14) (by decide +kernel), List.mem_of_getElem? (i := 130) (by decide +kernel), List.mem_of_getElem? (i := 131) (by decide +kernel)⟩
theorem lw_p1 : lw_okq (⟨"ElCompletion", "isClass", "(I)Z"⟩, 5) := ⟨⟨by decide +kernel, by decide +kernel⟩, List.mem_of_getElem? (i := 14) (by decide +kernel), List.mem_of_getElem? (i := 134) (by decide +kernel), List.mem_of_getElem? (i := 135) (by decide +kernel)⟩
theorem lw_p2 : lw_okq (⟨"ElCompletion$Axioms", "append", "(IIII)I"⟩, 5) := ⟨⟨by decide +kernel, by decide +kernel⟩, List.mem_of_getElem? (i := 22) (by decide +kernel), List.mem_of_getElem? (i := 141) (by decide +kernel), List.mem_of_getElem? (i := 142) (by decide +kernel)⟩
theorem lw_p3 : lw_okq (⟨"ElCompletion$Axioms", "remove", "(I)I"⟩, 5) := ⟨⟨by decide +kernel, by decide +kernel⟩, List.mem_of_getElem? (i := 22) (by decide +kernel), List.mem_of_getElem? (i := 149) (by decide +kernel), List.mem_of_getElem? (i := 150) (by decide +kernel)⟩
theorem lw_p4 : lw_okq (⟨"ElCompletion$Axioms", "closeGap", "([II)V"⟩, 5) := ⟨⟨by decide +kernel, by decide +kernel⟩, List.mem_of_getElem? (i := 22) (by decide +kernel), List.mem_of_getElem? (i := 153) (by decide +kernel), List.mem_of_getElem? (i := 154) (by decide +kernel)⟩
theorem lw_p5 : lw_okq (⟨"ElCompletion", "closed", "()LElCompletion$Closure;"⟩, 5) := ⟨⟨by decide +kernel, by decide +kernel⟩, List.mem_of_getElem? (i := 14) (by decide +kernel), List.mem_of_getElem? (i := 164) (by decide +kernel), List.mem_of_getElem? (i := 165) (by decide +kernel)⟩
theorem lw_p6 : lw_okq (⟨"ElCompletion$Closure", "fill", "(LElCompletion$Axioms;I)V"⟩, 8) := ⟨⟨by decide +kernel, by decide +kernel⟩, List.mem_of_getElem? (i := 51) (by decide +kernel), List.mem_of_getElem? (i := 168) (by decide +kernel), List.mem_of_getElem? (i := 169) (by decide +kernel)⟩
theorem lw_p7 : lw_okq (⟨"ElCompletion$Closure", "clear", "(I)V"⟩, 8) := ⟨⟨by decide +kernel, by decide +kernel⟩, List.mem_of_getElem? (i := 51) (by decide +kernel), List.mem_of_getElem? (i := 172) (by decide +kernel), List.mem_of_getElem? (i := 173) (by decide +kernel)⟩
theorem lw_p8 : lw_okq (⟨"ElCompletion$Closure", "giveAtFirst", "(LElCompletion$Axioms;)V"⟩, 8) := ⟨⟨by decide +kernel, by decide +kernel⟩, List.mem_of_getElem? (i := 51) (by decide +kernel), List.mem_of_getElem? (i := 183) (by decide +kernel), List.mem_of_getElem? (i := 184) (by decide +kernel)⟩
theorem lw_p9 : lw_okq (⟨"ElCompletion$Closure", "give", "(IIIII)V"⟩, 8) := ⟨⟨by decide +kernel, by decide +kernel⟩, List.mem_of_getElem? (i := 51) (by decide +kernel), List.mem_of_getElem? (i := 187) (by decide +kernel), List.mem_of_getElem? (i := 188) (by decide +kernel)⟩
theorem lw_p10 : lw_okq (⟨"ElCompletion$Closure", "giveOfItself", "(I)V"⟩, 8) := ⟨⟨by decide +kernel, by decide +kernel⟩, List.mem_of_getElem? (i := 51) (by decide +kernel), List.mem_of_getElem? (i := 197) (by decide +kernel), List.mem_of_getElem? (i := 198) (by decide +kernel)⟩
theorem lw_p11 : lw_okq (⟨"ElCompletion$Closure", "endRound", "()V"⟩, 8) := ⟨⟨by decide +kernel, by decide +kernel⟩, List.mem_of_getElem? (i := 51) (by decide +kernel), List.mem_of_getElem? (i := 204) (by decide +kernel), List.mem_of_getElem? (i := 205) (by decide +kernel)⟩
theorem lw_p12 : lw_okq (⟨"ElCompletion$Closure", "listColumns", "(II)V"⟩, 8) := ⟨⟨by decide +kernel, by decide +kernel⟩, List.mem_of_getElem? (i := 51) (by decide +kernel), List.mem_of_getElem? (i := 208) (by decide +kernel), List.mem_of_getElem? (i := 209) (by decide +kernel)⟩
theorem lw_p13 : lw_okq (⟨"ElCompletion$Closure", "listFactsOf", "(III)V"⟩, 8) := ⟨⟨by decide +kernel, by decide +kernel⟩, List.mem_of_getElem? (i := 51) (by decide +kernel), List.mem_of_getElem? (i := 212) (by decide +kernel), List.mem_of_getElem? (i := 213) (by decide +kernel)⟩
theorem lw_p14 : lw_okq (⟨"ElCompletion$Closure", "giveByAxiom", "(LElCompletion$Axioms;I)V"⟩, 8) := ⟨⟨by decide +kernel, by decide +kernel⟩, List.mem_of_getElem? (i := 51) (by decide +kernel), List.mem_of_getElem? (i := 217) (by decide +kernel), List.mem_of_getElem? (i := 218) (by decide +kernel)⟩
theorem lw_p15 : lw_okq (⟨"ElCompletion$Closure", "giveToBoth", "(IIII)V"⟩, 8) := ⟨⟨by decide +kernel, by decide +kernel⟩, List.mem_of_getElem? (i := 51) (by decide +kernel), List.mem_of_getElem? (i := 221) (by decide +kernel), List.mem_of_getElem? (i := 222) (by decide +kernel)⟩
def lw_privs_1 : List (MethodName × Nat) := [(⟨"ElCompletion", "isAxiom", "(IIII)Z"⟩, 5), (⟨"ElCompletion", "isClass", "(I)Z"⟩, 5), (⟨"ElCompletion$Axioms", "append", "(IIII)I"⟩, 5), (⟨"ElCompletion$Axioms", "remove", "(I)I"⟩, 5), (⟨"ElCompletion$Axioms", "closeGap", "([II)V"⟩, 5), (⟨"ElCompletion", "closed", "()LElCompletion$Closure;"⟩, 5), (⟨"ElCompletion$Closure", "fill", "(LElCompletion$Axioms;I)V"⟩, 8), (⟨"ElCompletion$Closure", "clear", "(I)V"⟩, 8), (⟨"ElCompletion$Closure", "giveAtFirst", "(LElCompletion$Axioms;)V"⟩, 8), (⟨"ElCompletion$Closure", "give", "(IIIII)V"⟩, 8), (⟨"ElCompletion$Closure", "giveOfItself", "(I)V"⟩, 8), (⟨"ElCompletion$Closure", "endRound", "()V"⟩, 8), (⟨"ElCompletion$Closure", "listColumns", "(II)V"⟩, 8), (⟨"ElCompletion$Closure", "listFactsOf", "(III)V"⟩, 8), (⟨"ElCompletion$Closure", "giveByAxiom", "(LElCompletion$Axioms;I)V"⟩, 8), (⟨"ElCompletion$Closure", "giveToBoth", "(IIII)V"⟩, 8)]
theorem lw_r1 : ∀ q ∈ lw_privs_1, lw_okq q := List.forall_mem_cons.mpr ⟨lw_p0, List.forall_mem_cons.mpr ⟨lw_p1, List.forall_mem_cons.mpr ⟨lw_p2, List.forall_mem_cons.mpr ⟨lw_p3, List.forall_mem_cons.mpr ⟨lw_p4, List.forall_mem_cons.mpr ⟨lw_p5, List.forall_mem_cons.mpr ⟨lw_p6, List.forall_mem_cons.mpr ⟨lw_p7, List.forall_mem_cons.mpr ⟨lw_p8, List.forall_mem_cons.mpr ⟨lw_p9, List.forall_mem_cons.mpr ⟨lw_p10, List.forall_mem_cons.mpr ⟨lw_p11, List.forall_mem_cons.mpr ⟨lw_p12, List.forall_mem_cons.mpr ⟨lw_p13, List.forall_mem_cons.mpr ⟨lw_p14, List.forall_mem_cons.mpr ⟨lw_p15, fun _ h => absurd h List.not_mem_nil⟩⟩⟩⟩⟩⟩⟩⟩⟩⟩⟩⟩⟩⟩⟩⟩
theorem lw_p16 : lw_okq (⟨"ElCompletion$Closure", "giveToWhatHas", "(IIII)V"⟩, 8) := ⟨⟨by decide +kernel, by decide +kernel⟩, List.mem_of_getElem? (i := 51) (by decide +kernel), List.mem_of_getElem? (i := 225) (by decide +kernel), List.mem_of_getElem? (i := 226) (by decide +kernel)⟩
theorem lw_p17 : lw_okq (⟨"ElCompletion$Closure", "giveRole", "(III)V"⟩, 8) := ⟨⟨by decide +kernel, by decide +kernel⟩, List.mem_of_getElem? (i := 51) (by decide +kernel), List.mem_of_getElem? (i := 229) (by decide +kernel), List.mem_of_getElem? (i := 230) (by decide +kernel)⟩
theorem lw_p18 : lw_okq (⟨"ElCompletion$Closure", "giveChain", "(IIII)V"⟩, 8) := ⟨⟨by decide +kernel, by decide +kernel⟩, List.mem_of_getElem? (i := 51) (by decide +kernel), List.mem_of_getElem? (i := 233) (by decide +kernel), List.mem_of_getElem? (i := 234) (by decide +kernel)⟩
theorem lw_p19 : lw_okq (⟨"ElCompletion$Closure", "has", "(II)Z"⟩, 8) := ⟨⟨by decide +kernel, by decide +kernel⟩, List.mem_of_getElem? (i := 51) (by decide +kernel), List.mem_of_getElem? (i := 237) (by decide +kernel), List.mem_of_getElem? (i := 238) (by decide +kernel)⟩
theorem lw_p20 : lw_okq (⟨"ElCompletion$Closure", "follows", "(I)Z"⟩, 8) := ⟨⟨by decide +kernel, by decide +kernel⟩, List.mem_of_getElem? (i := 51) (by decide +kernel), List.mem_of_getElem? (i := 258) (by decide +kernel), List.mem_of_getElem? (i := 259) (by decide +kernel)⟩
theorem lw_p21 : lw_okq (⟨"ElCompletion$Closure", "roundOf", "(I)I"⟩, 8) := ⟨⟨by decide +kernel, by decide +kernel⟩, List.mem_of_getElem? (i := 51) (by decide +kernel), List.mem_of_getElem? (i := 262) (by decide +kernel), List.mem_of_getElem? (i := 263) (by decide +kernel)⟩
theorem lw_p22 : lw_okq (⟨"ElCompletion$Closure", "axiomOf", "(I)I"⟩, 8) := ⟨⟨by decide +kernel, by decide +kernel⟩, List.mem_of_getElem? (i := 51) (by decide +kernel), List.mem_of_getElem? (i := 266) (by decide +kernel), List.mem_of_getElem? (i := 267) (by decide +kernel)⟩
theorem lw_p23 : lw_okq (⟨"ElCompletion$Closure", "firstPremiseOf", "(I)I"⟩, 8) := ⟨⟨by decide +kernel, by decide +kernel⟩, List.mem_of_getElem? (i := 51) (by decide +kernel), List.mem_of_getElem? (i := 270) (by decide +kernel), List.mem_of_getElem? (i := 271) (by decide +kernel)⟩
theorem lw_p24 : lw_okq (⟨"ElCompletion$Closure", "secondPremiseOf", "(I)I"⟩, 8) := ⟨⟨by decide +kernel, by decide +kernel⟩, List.mem_of_getElem? (i := 51) (by decide +kernel), List.mem_of_getElem? (i := 274) (by decide +kernel), List.mem_of_getElem? (i := 275) (by decide +kernel)⟩
theorem lw_p25 : lw_okq (⟨"ElCompletion$Proof", "take", "(LElCompletion$Closure;I)V"⟩, 3) := ⟨⟨by decide +kernel, by decide +kernel⟩, List.mem_of_getElem? (i := 88) (by decide +kernel), List.mem_of_getElem? (i := 282) (by decide +kernel), List.mem_of_getElem? (i := 283) (by decide +kernel)⟩
theorem lw_p26 : lw_okq (⟨"ElCompletion$Proof", "need", "(I)V"⟩, 3) := ⟨⟨by decide +kernel, by decide +kernel⟩, List.mem_of_getElem? (i := 88) (by decide +kernel), List.mem_of_getElem? (i := 288) (by decide +kernel), List.mem_of_getElem? (i := 289) (by decide +kernel)⟩
theorem lw_p27 : lw_okq (⟨"ElCompletion$Proof", "isNeeded", "(I)Z"⟩, 3) := ⟨⟨by decide +kernel, by decide +kernel⟩, List.mem_of_getElem? (i := 88) (by decide +kernel), List.mem_of_getElem? (i := 292) (by decide +kernel), List.mem_of_getElem? (i := 293) (by decide +kernel)⟩
theorem lw_p28 : lw_okq (⟨"ElCompletion$Closure", "leastSame", "(I)I"⟩, 8) := ⟨⟨by decide +kernel, by decide +kernel⟩, List.mem_of_getElem? (i := 51) (by decide +kernel), List.mem_of_getElem? (i := 311) (by decide +kernel), List.mem_of_getElem? (i := 312) (by decide +kernel)⟩
theorem lw_p29 : lw_okq (⟨"ElCompletion$Closure", "areSame", "(II)Z"⟩, 8) := ⟨⟨by decide +kernel, by decide +kernel⟩, List.mem_of_getElem? (i := 51) (by decide +kernel), List.mem_of_getElem? (i := 315) (by decide +kernel), List.mem_of_getElem? (i := 316) (by decide +kernel)⟩
theorem lw_p30 : lw_okq (⟨"ElCompletion$Closure", "parentOf", "(II)I"⟩, 8) := ⟨⟨by decide +kernel, by decide +kernel⟩, List.mem_of_getElem? (i := 51) (by decide +kernel), List.mem_of_getElem? (i := 324) (by decide +kernel), List.mem_of_getElem? (i := 325) (by decide +kernel)⟩
theorem lw_p31 : lw_okq (⟨"ElCompletion$Closure", "isParent", "(II)Z"⟩, 8) := ⟨⟨by decide +kernel, by decide +kernel⟩, List.mem_of_getElem? (i := 51) (by decide +kernel), List.mem_of_getElem? (i := 328) (by decide +kernel), List.mem_of_getElem? (i := 329) (by decide +kernel)⟩
def lw_privs_2 : List (MethodName × Nat) := [(⟨"ElCompletion$Closure", "giveToWhatHas", "(IIII)V"⟩, 8), (⟨"ElCompletion$Closure", "giveRole", "(III)V"⟩, 8), (⟨"ElCompletion$Closure", "giveChain", "(IIII)V"⟩, 8), (⟨"ElCompletion$Closure", "has", "(II)Z"⟩, 8), (⟨"ElCompletion$Closure", "follows", "(I)Z"⟩, 8), (⟨"ElCompletion$Closure", "roundOf", "(I)I"⟩, 8), (⟨"ElCompletion$Closure", "axiomOf", "(I)I"⟩, 8), (⟨"ElCompletion$Closure", "firstPremiseOf", "(I)I"⟩, 8), (⟨"ElCompletion$Closure", "secondPremiseOf", "(I)I"⟩, 8), (⟨"ElCompletion$Proof", "take", "(LElCompletion$Closure;I)V"⟩, 3), (⟨"ElCompletion$Proof", "need", "(I)V"⟩, 3), (⟨"ElCompletion$Proof", "isNeeded", "(I)Z"⟩, 3), (⟨"ElCompletion$Closure", "leastSame", "(I)I"⟩, 8), (⟨"ElCompletion$Closure", "areSame", "(II)Z"⟩, 8), (⟨"ElCompletion$Closure", "parentOf", "(II)I"⟩, 8), (⟨"ElCompletion$Closure", "isParent", "(II)Z"⟩, 8)]
theorem lw_r2 : ∀ q ∈ lw_privs_2, lw_okq q := List.forall_mem_cons.mpr ⟨lw_p16, List.forall_mem_cons.mpr ⟨lw_p17, List.forall_mem_cons.mpr ⟨lw_p18, List.forall_mem_cons.mpr ⟨lw_p19, List.forall_mem_cons.mpr ⟨lw_p20, List.forall_mem_cons.mpr ⟨lw_p21, List.forall_mem_cons.mpr ⟨lw_p22, List.forall_mem_cons.mpr ⟨lw_p23, List.forall_mem_cons.mpr ⟨lw_p24, List.forall_mem_cons.mpr ⟨lw_p25, List.forall_mem_cons.mpr ⟨lw_p26, List.forall_mem_cons.mpr ⟨lw_p27, List.forall_mem_cons.mpr ⟨lw_p28, List.forall_mem_cons.mpr ⟨lw_p29, List.forall_mem_cons.mpr ⟨lw_p30, List.forall_mem_cons.mpr ⟨lw_p31, fun _ h => absurd h List.not_mem_nil⟩⟩⟩⟩⟩⟩⟩⟩⟩⟩⟩⟩⟩⟩⟩⟩
theorem lw_p32 : lw_okq (⟨"java/lang/Throwable", "fillInStackTrace", "(I)Ljava/lang/Throwable;"⟩, 6) := ⟨⟨by decide +kernel, by decide +kernel⟩, List.mem_of_getElem? (i := 379) (by decide +kernel), List.mem_of_getElem? (i := 377) (by decide +kernel), List.mem_of_getElem? (i := 378) (by decide +kernel)⟩
theorem lw_p33 : lw_okq (⟨"ElCompletionModel", "fits", "(II)Z"⟩, 16) := ⟨⟨by decide +kernel, by decide +kernel⟩, List.mem_of_getElem? (i := 416) (by decide +kernel), List.mem_of_getElem? (i := 483) (by decide +kernel), List.mem_of_getElem? (i := 484) (by decide +kernel)⟩
theorem lw_p34 : lw_okq (⟨"ElCompletionModel", "isClass", "(I)Z"⟩, 16) := ⟨⟨by decide +kernel, by decide +kernel⟩, List.mem_of_getElem? (i := 416) (by decide +kernel), List.mem_of_getElem? (i := 487) (by decide +kernel), List.mem_of_getElem? (i := 488) (by decide +kernel)⟩
theorem lw_p35 : lw_okq (⟨"ElCompletionModel", "follows", "(I)Z"⟩, 16) := ⟨⟨by decide +kernel, by decide +kernel⟩, List.mem_of_getElem? (i := 416) (by decide +kernel), List.mem_of_getElem? (i := 505) (by decide +kernel), List.mem_of_getElem? (i := 506) (by decide +kernel)⟩
theorem lw_p36 : lw_okq (⟨"ElCompletionModel", "reckon", "()V"⟩, 16) := ⟨⟨by decide +kernel, by decide +kernel⟩, List.mem_of_getElem? (i := 416) (by decide +kernel), List.mem_of_getElem? (i := 509) (by decide +kernel), List.mem_of_getElem? (i := 510) (by decide +kernel)⟩
theorem lw_p37 : lw_okq (⟨"ElCompletionModel", "start", "(I)V"⟩, 16) := ⟨⟨by decide +kernel, by decide +kernel⟩, List.mem_of_getElem? (i := 416) (by decide +kernel), List.mem_of_getElem? (i := 513) (by decide +kernel), List.mem_of_getElem? (i := 514) (by decide +kernel)⟩
theorem lw_p38 : lw_okq (⟨"ElCompletionModel", "one", "(II)V"⟩, 16) := ⟨⟨by decide +kernel, by decide +kernel⟩, List.mem_of_getElem? (i := 416) (by decide +kernel), List.mem_of_getElem? (i := 520) (by decide +kernel), List.mem_of_getElem? (i := 521) (by decide +kernel)⟩
theorem lw_p39 : lw_okq (⟨"ElCompletionModel", "give", "(IIII)V"⟩, 16) := ⟨⟨by decide +kernel, by decide +kernel⟩, List.mem_of_getElem? (i := 416) (by decide +kernel), List.mem_of_getElem? (i := 524) (by decide +kernel), List.mem_of_getElem? (i := 525) (by decide +kernel)⟩
theorem lw_p40 : lw_okq (⟨"ElCompletionModel", "has", "(I)Z"⟩, 16) := ⟨⟨by decide +kernel, by decide +kernel⟩, List.mem_of_getElem? (i := 416) (by decide +kernel), List.mem_of_getElem? (i := 528) (by decide +kernel), List.mem_of_getElem? (i := 529) (by decide +kernel)⟩
theorem lw_p41 : lw_okq (⟨"ElCompletionModel", "two", "(III)V"⟩, 16) := ⟨⟨by decide +kernel, by decide +kernel⟩, List.mem_of_getElem? (i := 416) (by decide +kernel), List.mem_of_getElem? (i := 532) (by decide +kernel), List.mem_of_getElem? (i := 533) (by decide +kernel)⟩
theorem lw_p42 : lw_okq (⟨"ElCompletionModel", "want", "(I)Z"⟩, 16) := ⟨⟨by decide +kernel, by decide +kernel⟩, List.mem_of_getElem? (i := 416) (by decide +kernel), List.mem_of_getElem? (i := 560) (by decide +kernel), List.mem_of_getElem? (i := 561) (by decide +kernel)⟩
theorem lw_p43 : lw_okq (⟨"ElCompletionModel", "both", "(II)Z"⟩, 16) := ⟨⟨by decide +kernel, by decide +kernel⟩, List.mem_of_getElem? (i := 416) (by decide +kernel), List.mem_of_getElem? (i := 577) (by decide +kernel), List.mem_of_getElem? (i := 578) (by decide +kernel)⟩
theorem lw_p44 : lw_okq (⟨"ElCompletionModel", "isParent", "(II)Z"⟩, 16) := ⟨⟨by decide +kernel, by decide +kernel⟩, List.mem_of_getElem? (i := 416) (by decide +kernel), List.mem_of_getElem? (i := 585) (by decide +kernel), List.mem_of_getElem? (i := 586) (by decide +kernel)⟩
theorem lw_p45 : lw_okq (⟨"ElCompletionModel", "isAbove", "(II)Z"⟩, 16) := ⟨⟨by decide +kernel, by decide +kernel⟩, List.mem_of_getElem? (i := 416) (by decide +kernel), List.mem_of_getElem? (i := 589) (by decide +kernel), List.mem_of_getElem? (i := 590) (by decide +kernel)⟩
def lw_privs_3 : List (MethodName × Nat) := [(⟨"java/lang/Throwable", "fillInStackTrace", "(I)Ljava/lang/Throwable;"⟩, 6), (⟨"ElCompletionModel", "fits", "(II)Z"⟩, 16), (⟨"ElCompletionModel", "isClass", "(I)Z"⟩, 16), (⟨"ElCompletionModel", "follows", "(I)Z"⟩, 16), (⟨"ElCompletionModel", "reckon", "()V"⟩, 16), (⟨"ElCompletionModel", "start", "(I)V"⟩, 16), (⟨"ElCompletionModel", "one", "(II)V"⟩, 16), (⟨"ElCompletionModel", "give", "(IIII)V"⟩, 16), (⟨"ElCompletionModel", "has", "(I)Z"⟩, 16), (⟨"ElCompletionModel", "two", "(III)V"⟩, 16), (⟨"ElCompletionModel", "want", "(I)Z"⟩, 16), (⟨"ElCompletionModel", "both", "(II)Z"⟩, 16), (⟨"ElCompletionModel", "isParent", "(II)Z"⟩, 16), (⟨"ElCompletionModel", "isAbove", "(II)Z"⟩, 16)]
theorem lw_r3 : ∀ q ∈ lw_privs_3, lw_okq q := List.forall_mem_cons.mpr ⟨lw_p32, List.forall_mem_cons.mpr ⟨lw_p33, List.forall_mem_cons.mpr ⟨lw_p34, List.forall_mem_cons.mpr ⟨lw_p35, List.forall_mem_cons.mpr ⟨lw_p36, List.forall_mem_cons.mpr ⟨lw_p37, List.forall_mem_cons.mpr ⟨lw_p38, List.forall_mem_cons.mpr ⟨lw_p39, List.forall_mem_cons.mpr ⟨lw_p40, List.forall_mem_cons.mpr ⟨lw_p41, List.forall_mem_cons.mpr ⟨lw_p42, List.forall_mem_cons.mpr ⟨lw_p43, List.forall_mem_cons.mpr ⟨lw_p44, List.forall_mem_cons.mpr ⟨lw_p45, fun _ h => absurd h List.not_mem_nil⟩⟩⟩⟩⟩⟩⟩⟩⟩⟩⟩⟩⟩⟩
def lw_privs : List (MethodName × Nat) := lw_privs_1 ++ (lw_privs_2 ++ (lw_privs_3))
def lw_tbl : List Cond := k2_sels lw_privs ++ tables_1
theorem lw_privs_ok : ∀ q ∈ lw_privs, lw_okq q := by
  show ∀ q ∈ lw_privs_1 ++ (lw_privs_2 ++ (lw_privs_3)), lw_okq q
  exact List.forall_mem_append.mpr ⟨lw_r1, List.forall_mem_append.mpr ⟨lw_r2, lw_r3⟩⟩
end
section
/-! ===== BEGIN words of one list among another's, by their places ===== -/
theorem goodIn_r {big : List Cond} (ws : List Cond) (ps : List Nat) (hp : ws = ps.filterMap (fun i => big[i]?)) (h : ws.all goodWord = true) : GoodIn big ws := by
  intro w hw
  have h1 := List.all_eq_true.mp h w hw
  rw [hp] at hw
  obtain ⟨i, -, hi⟩ := List.mem_filterMap.mp hw
  have hm : w ∈ big := by first | exact List.mem_of_getElem? hi | exact List.getElem?_mem hi
  exact ⟨hm, good_of_word h1⟩
theorem goodIn_app {big a b : List Cond} (ha : GoodIn big a) (hb : GoodIn big b) : GoodIn big (a ++ b) := fun w h => (List.mem_append.mp h).elim (ha w) (hb w)
theorem goodIn_ca {big a b : List Cond} {c : Cond} (ha : GoodIn big (c :: a)) (hb : GoodIn big b) : GoodIn big (c :: (a ++ b)) := fun w h => (List.mem_cons.mp h).elim (fun e => ha w (List.mem_cons.mpr (Or.inl e))) (fun h => (List.mem_append.mp h).elim (fun h => ha w (List.mem_cons.mpr (Or.inr h))) (hb w))
theorem goodIn_sub {big ws : List Cond} (hm : ∀ w ∈ ws, w ∈ big) (h : ws.all goodWord = true) : GoodIn big ws := fun w hw => ⟨hm w hw, good_of_word (List.all_eq_true.mp h w hw)⟩
/-! ===== END ===== -/

/-! ===== BEGIN printed: names, fields, word lists, decode rows ===== -/
def RX0 : String := "ElCompletion$Axioms"
def TX0 : u_T := fun k => match k with
  | 0 => ("ElCompletion$Axioms", "kind", "[I", true)
  | 1 => ("ElCompletion$Axioms", "a", "[I", true)
  | 2 => ("ElCompletion$Axioms", "b", "[I", true)
  | 3 => ("ElCompletion$Axioms", "c", "[I", true)
  | _ => ("ElCompletion$Axioms", "count", "I", false)
def tyX0 : Nat → FieldType := fun k => match k with
  | 0 => .array .int
  | 1 => .array .int
  | 2 => .array .int
  | 3 => .array .int
  | _ => .int
abbrev wsX00 : List Cond := u_ws RX0 TX0 5
theorem nmX0 : ∀ a, a < 5 → ∀ b, b < 5 → a ≠ b → (TX0 a).2.1 ≠ (TX0 b).2.1 := by decide +kernel
theorem tyX0_ok : ∀ k, k < 5 → parseFieldDescriptor (TX0 k).2.2.1 = some (tyX0 k) := by decide +kernel
abbrev cX0_init : ByteArray := prog_2_method_1_code
def yX0_init : MethodName := ⟨RX0, "<init>", "()V"⟩
abbrev cX0_append : ByteArray := prog_2_method_2_code
def yX0_append : MethodName := ⟨RX0, "append", "(IIII)I"⟩
abbrev cX0_remove : ByteArray := prog_2_method_3_code
def yX0_remove : MethodName := ⟨RX0, "remove", "(I)I"⟩
abbrev cX0_closeGap : ByteArray := prog_2_method_4_code
def yX0_closeGap : MethodName := ⟨RX0, "closeGap", "([II)V"⟩
def RX1 : String := "ElCompletion$Closure"
def TX1 : u_T := fun k => match k with
  | 0 => ("ElCompletion$Closure", "before", "[I", true)
  | 1 => ("ElCompletion$Closure", "now", "[I", true)
  | 2 => ("ElCompletion$Closure", "grounds", "[J", true)
  | 3 => ("ElCompletion$Closure", "order", "[I", true)
  | 4 => ("ElCompletion$Closure", "classCount", "I", false)
  | 5 => ("ElCompletion$Closure", "factCount", "I", false)
  | 6 => ("ElCompletion$Closure", "roundCount", "I", false)
  | _ => ("ElCompletion$Closure", "gainers", "I", false)
def tyX1 : Nat → FieldType := fun k => match k with
  | 0 => .array .int
  | 1 => .array .int
  | 2 => .array .long
  | 3 => .array .int
  | 4 => .int
  | 5 => .int
  | 6 => .int
  | _ => .int
abbrev wsX10 : List Cond := u_ws RX1 TX1 8
theorem nmX1 : ∀ a, a < 8 → ∀ b, b < 8 → a ≠ b → (TX1 a).2.1 ≠ (TX1 b).2.1 := by decide +kernel
theorem tyX1_ok : ∀ k, k < 8 → parseFieldDescriptor (TX1 k).2.2.1 = some (tyX1 k) := by decide +kernel
abbrev cX1_init : ByteArray := prog_3_method_1_code
def yX1_init : MethodName := ⟨RX1, "<init>", "()V"⟩
abbrev cX1_fill : ByteArray := prog_3_method_2_code
def yX1_fill : MethodName := ⟨RX1, "fill", "(LElCompletion$Axioms;I)V"⟩
abbrev cX1_clear : ByteArray := prog_3_method_3_code
def yX1_clear : MethodName := ⟨RX1, "clear", "(I)V"⟩
abbrev cX1_giveAtFirst : ByteArray := prog_3_method_4_code
def yX1_giveAtFirst : MethodName := ⟨RX1, "giveAtFirst", "(LElCompletion$Axioms;)V"⟩
abbrev cX1_giveOfItself : ByteArray := prog_3_method_5_code
def yX1_giveOfItself : MethodName := ⟨RX1, "giveOfItself", "(I)V"⟩
abbrev cX1_giveByAxiom : ByteArray := prog_3_method_6_code
def yX1_giveByAxiom : MethodName := ⟨RX1, "giveByAxiom", "(LElCompletion$Axioms;I)V"⟩
abbrev cX1_giveToBoth : ByteArray := prog_3_method_7_code
def yX1_giveToBoth : MethodName := ⟨RX1, "giveToBoth", "(IIII)V"⟩
abbrev cX1_giveToWhatHas : ByteArray := prog_3_method_8_code
def yX1_giveToWhatHas : MethodName := ⟨RX1, "giveToWhatHas", "(IIII)V"⟩
abbrev cX1_giveRole : ByteArray := prog_3_method_9_code
def yX1_giveRole : MethodName := ⟨RX1, "giveRole", "(III)V"⟩
abbrev cX1_giveChain : ByteArray := prog_3_method_10_code
def yX1_giveChain : MethodName := ⟨RX1, "giveChain", "(IIII)V"⟩
abbrev cX1_give : ByteArray := prog_3_method_11_code
def yX1_give : MethodName := ⟨RX1, "give", "(IIIII)V"⟩
abbrev cX1_endRound : ByteArray := prog_3_method_12_code
def yX1_endRound : MethodName := ⟨RX1, "endRound", "()V"⟩
abbrev cX1_listColumns : ByteArray := prog_3_method_13_code
def yX1_listColumns : MethodName := ⟨RX1, "listColumns", "(II)V"⟩
abbrev cX1_listFactsOf : ByteArray := prog_3_method_14_code
def yX1_listFactsOf : MethodName := ⟨RX1, "listFactsOf", "(III)V"⟩
abbrev cX1_has : ByteArray := prog_3_method_15_code
def yX1_has : MethodName := ⟨RX1, "has", "(II)Z"⟩
abbrev cX1_follows : ByteArray := prog_3_method_16_code
def yX1_follows : MethodName := ⟨RX1, "follows", "(I)Z"⟩
abbrev cX1_roundOf : ByteArray := prog_3_method_17_code
def yX1_roundOf : MethodName := ⟨RX1, "roundOf", "(I)I"⟩
abbrev cX1_axiomOf : ByteArray := prog_3_method_18_code
def yX1_axiomOf : MethodName := ⟨RX1, "axiomOf", "(I)I"⟩
abbrev cX1_firstPremiseOf : ByteArray := prog_3_method_19_code
def yX1_firstPremiseOf : MethodName := ⟨RX1, "firstPremiseOf", "(I)I"⟩
abbrev cX1_secondPremiseOf : ByteArray := prog_3_method_20_code
def yX1_secondPremiseOf : MethodName := ⟨RX1, "secondPremiseOf", "(I)I"⟩
abbrev cX1_areSame : ByteArray := prog_3_method_21_code
def yX1_areSame : MethodName := ⟨RX1, "areSame", "(II)Z"⟩
abbrev cX1_leastSame : ByteArray := prog_3_method_22_code
def yX1_leastSame : MethodName := ⟨RX1, "leastSame", "(I)I"⟩
abbrev cX1_parentOf : ByteArray := prog_3_method_23_code
def yX1_parentOf : MethodName := ⟨RX1, "parentOf", "(II)I"⟩
abbrev cX1_isParent : ByteArray := prog_3_method_24_code
def yX1_isParent : MethodName := ⟨RX1, "isParent", "(II)Z"⟩
def RX2 : String := "ElCompletion$Proof"
def TX2 : u_T := fun k => match k with
  | 0 => ("ElCompletion$Proof", "rows", "[I", true)
  | 1 => ("ElCompletion$Proof", "needed", "[J", true)
  | _ => ("ElCompletion$Proof", "count", "I", false)
def tyX2 : Nat → FieldType := fun k => match k with
  | 0 => .array .int
  | 1 => .array .long
  | _ => .int
abbrev wsX20 : List Cond := u_ws RX2 TX2 3
theorem nmX2 : ∀ a, a < 3 → ∀ b, b < 3 → a ≠ b → (TX2 a).2.1 ≠ (TX2 b).2.1 := by decide +kernel
theorem tyX2_ok : ∀ k, k < 3 → parseFieldDescriptor (TX2 k).2.2.1 = some (tyX2 k) := by decide +kernel
abbrev cX2_init : ByteArray := prog_4_method_1_code
def yX2_init : MethodName := ⟨RX2, "<init>", "()V"⟩
abbrev cX2_take : ByteArray := prog_4_method_2_code
def yX2_take : MethodName := ⟨RX2, "take", "(LElCompletion$Closure;I)V"⟩
abbrev cX2_need : ByteArray := prog_4_method_3_code
def yX2_need : MethodName := ⟨RX2, "need", "(I)V"⟩
abbrev cX2_isNeeded : ByteArray := prog_4_method_4_code
def yX2_isNeeded : MethodName := ⟨RX2, "isNeeded", "(I)Z"⟩
def RX3 : String := "ElCompletion"
def TX3 : u_T := fun k => match k with
  | 0 => ("ElCompletion", "axioms", "LElCompletion$Axioms;", true)
  | 1 => ("ElCompletion", "closure", "LElCompletion$Closure;", true)
  | 2 => ("ElCompletion", "proof", "LElCompletion$Proof;", true)
  | 3 => ("ElCompletion", "classCount", "I", false)
  | _ => ("ElCompletion", "stale", "Z", false)
def tyX3 : Nat → FieldType := fun k => match k with
  | 0 => .object "ElCompletion$Axioms"
  | 1 => .object "ElCompletion$Closure"
  | 2 => .object "ElCompletion$Proof"
  | 3 => .int
  | _ => .boolean
abbrev wsX30 : List Cond := u_ws RX3 TX3 5
theorem nmX3 : ∀ a, a < 5 → ∀ b, b < 5 → a ≠ b → (TX3 a).2.1 ≠ (TX3 b).2.1 := by decide +kernel
theorem tyX3_ok : ∀ k, k < 5 → parseFieldDescriptor (TX3 k).2.2.1 = some (tyX3 k) := by decide +kernel
abbrev cX3_init : ByteArray := prog_1_method_1_code
def yX3_init : MethodName := ⟨RX3, "<init>", "()V"⟩
abbrev cX3_grow : ByteArray := prog_1_method_2_code
def yX3_grow : MethodName := ⟨RX3, "grow", "()I"⟩
abbrev cX3_axiom : ByteArray := prog_1_method_3_code
def yX3_axiom : MethodName := ⟨RX3, "axiom", "(IIII)I"⟩
abbrev cX3_drop : ByteArray := prog_1_method_4_code
def yX3_drop : MethodName := ⟨RX3, "drop", "(I)I"⟩
abbrev cX3_sub : ByteArray := prog_1_method_5_code
def yX3_sub : MethodName := ⟨RX3, "sub", "(II)I"⟩
abbrev cX3_link : ByteArray := prog_1_method_6_code
def yX3_link : MethodName := ⟨RX3, "link", "(III)I"⟩
abbrev cX3_rounds : ByteArray := prog_1_method_7_code
def yX3_rounds : MethodName := ⟨RX3, "rounds", "()I"⟩
abbrev cX3_facts : ByteArray := prog_1_method_8_code
def yX3_facts : MethodName := ⟨RX3, "facts", "()I"⟩
abbrev cX3_fact : ByteArray := prog_1_method_9_code
def yX3_fact : MethodName := ⟨RX3, "fact", "(I)I"⟩
abbrev cX3_told : ByteArray := prog_1_method_10_code
def yX3_told : MethodName := ⟨RX3, "told", "(II)I"⟩
abbrev cX3_trace : ByteArray := prog_1_method_11_code
def yX3_trace : MethodName := ⟨RX3, "trace", "(I)I"⟩
abbrev cX3_row : ByteArray := prog_1_method_12_code
def yX3_row : MethodName := ⟨RX3, "row", "(I)I"⟩
abbrev cX3_empty : ByteArray := prog_1_method_13_code
def yX3_empty : MethodName := ⟨RX3, "empty", "(I)I"⟩
abbrev cX3_same : ByteArray := prog_1_method_14_code
def yX3_same : MethodName := ⟨RX3, "same", "(I)I"⟩
abbrev cX3_parent : ByteArray := prog_1_method_15_code
def yX3_parent : MethodName := ⟨RX3, "parent", "(II)I"⟩
abbrev cX3_isClass : ByteArray := prog_1_method_16_code
def yX3_isClass : MethodName := ⟨RX3, "isClass", "(I)Z"⟩
abbrev cX3_isRole : ByteArray := prog_1_method_17_code
def yX3_isRole : MethodName := ⟨RX3, "isRole", "(I)Z"⟩
abbrev cX3_isAxiom : ByteArray := prog_1_method_18_code
def yX3_isAxiom : MethodName := ⟨RX3, "isAxiom", "(IIII)Z"⟩
abbrev cX3_closed : ByteArray := prog_1_method_19_code
def yX3_closed : MethodName := ⟨RX3, "closed", "()LElCompletion$Closure;"⟩
abbrev cX3_linkColumn : ByteArray := prog_1_method_20_code
def yX3_linkColumn : MethodName := ⟨RX3, "linkColumn", "(II)I"⟩
abbrev cX3_codeOf : ByteArray := prog_1_method_21_code
def yX3_codeOf : MethodName := ⟨RX3, "codeOf", "(II)I"⟩
abbrev cX3_isIn : ByteArray := prog_1_method_22_code
def yX3_isIn : MethodName := ⟨RX3, "isIn", "(II)Z"⟩
def RX4 : String := "ElCompletionModel"
def TX4 : u_T := fun k => match k with
  | 0 => ("ElCompletionModel", "classes", "I", false)
  | 1 => ("ElCompletionModel", "axioms", "[I", true)
  | 2 => ("ElCompletionModel", "count", "I", false)
  | 3 => ("ElCompletionModel", "known", "Z", false)
  | 4 => ("ElCompletionModel", "rounds", "[I", true)
  | 5 => ("ElCompletionModel", "whys", "[I", true)
  | 6 => ("ElCompletionModel", "firsts", "[I", true)
  | 7 => ("ElCompletionModel", "seconds", "[I", true)
  | 8 => ("ElCompletionModel", "round", "I", false)
  | 9 => ("ElCompletionModel", "made", "I", false)
  | 10 => ("ElCompletionModel", "row", "[I", true)
  | 11 => ("ElCompletionModel", "found", "I", false)
  | 12 => ("ElCompletionModel", "proof", "[I", true)
  | 13 => ("ElCompletionModel", "proofSize", "I", false)
  | 14 => ("ElCompletionModel", "thrown", "I", false)
  | _ => ("ElCompletionModel", "wanted", "[Z", true)
def tyX4 : Nat → FieldType := fun k => match k with
  | 0 => .int
  | 1 => .array .int
  | 2 => .int
  | 3 => .boolean
  | 4 => .array .int
  | 5 => .array .int
  | 6 => .array .int
  | 7 => .array .int
  | 8 => .int
  | 9 => .int
  | 10 => .array .int
  | 11 => .int
  | 12 => .array .int
  | 13 => .int
  | 14 => .int
  | _ => .array .boolean
abbrev wsX40 : List Cond := u_ws RX4 TX4 16
theorem nmX4 : ∀ a, a < 16 → ∀ b, b < 16 → a ≠ b → (TX4 a).2.1 ≠ (TX4 b).2.1 := by decide +kernel
theorem tyX4_ok : ∀ k, k < 16 → parseFieldDescriptor (TX4 k).2.2.1 = some (tyX4 k) := by decide +kernel
abbrev cX4_thrown : ByteArray := prog_6_method_1_code
def yX4_thrown : MethodName := ⟨RX4, "thrown", "()I"⟩
abbrev cX4_init : ByteArray := prog_6_method_2_code
def yX4_init : MethodName := ⟨RX4, "<init>", "()V"⟩
abbrev cX4_isClass : ByteArray := prog_6_method_3_code
def yX4_isClass : MethodName := ⟨RX4, "isClass", "(I)Z"⟩
abbrev cX4_isRole : ByteArray := prog_6_method_4_code
def yX4_isRole : MethodName := ⟨RX4, "isRole", "(I)Z"⟩
abbrev cX4_grow : ByteArray := prog_6_method_5_code
def yX4_grow : MethodName := ⟨RX4, "grow", "()I"⟩
abbrev cX4_wants : ByteArray := prog_6_method_6_code
def yX4_wants : MethodName := ⟨RX4, "wants", "(I)I"⟩
abbrev cX4_fits : ByteArray := prog_6_method_7_code
def yX4_fits : MethodName := ⟨RX4, "fits", "(II)Z"⟩
abbrev cX4_axiom : ByteArray := prog_6_method_8_code
def yX4_axiom : MethodName := ⟨RX4, "axiom", "(IIII)I"⟩
abbrev cX4_drop : ByteArray := prog_6_method_9_code
def yX4_drop : MethodName := ⟨RX4, "drop", "(I)I"⟩
abbrev cX4_code : ByteArray := prog_6_method_10_code
def yX4_code : MethodName := ⟨RX4, "code", "(II)I"⟩
abbrev cX4_linked : ByteArray := prog_6_method_11_code
def yX4_linked : MethodName := ⟨RX4, "linked", "(III)I"⟩
abbrev cX4_has : ByteArray := prog_6_method_12_code
def yX4_has : MethodName := ⟨RX4, "has", "(I)Z"⟩
abbrev cX4_start : ByteArray := prog_6_method_13_code
def yX4_start : MethodName := ⟨RX4, "start", "(I)V"⟩
abbrev cX4_give : ByteArray := prog_6_method_14_code
def yX4_give : MethodName := ⟨RX4, "give", "(IIII)V"⟩
abbrev cX4_one : ByteArray := prog_6_method_15_code
def yX4_one : MethodName := ⟨RX4, "one", "(II)V"⟩
abbrev cX4_two : ByteArray := prog_6_method_16_code
def yX4_two : MethodName := ⟨RX4, "two", "(III)V"⟩
abbrev cX4_reckon : ByteArray := prog_6_method_17_code
def yX4_reckon : MethodName := ⟨RX4, "reckon", "()V"⟩
abbrev cX4_follows : ByteArray := prog_6_method_18_code
def yX4_follows : MethodName := ⟨RX4, "follows", "(I)Z"⟩
abbrev cX4_sub : ByteArray := prog_6_method_19_code
def yX4_sub : MethodName := ⟨RX4, "sub", "(II)I"⟩
abbrev cX4_link : ByteArray := prog_6_method_20_code
def yX4_link : MethodName := ⟨RX4, "link", "(III)I"⟩
abbrev cX4_rounds : ByteArray := prog_6_method_21_code
def yX4_rounds : MethodName := ⟨RX4, "rounds", "()I"⟩
abbrev cX4_facts : ByteArray := prog_6_method_22_code
def yX4_facts : MethodName := ⟨RX4, "facts", "()I"⟩
abbrev cX4_fact : ByteArray := prog_6_method_23_code
def yX4_fact : MethodName := ⟨RX4, "fact", "(I)I"⟩
abbrev cX4_told : ByteArray := prog_6_method_24_code
def yX4_told : MethodName := ⟨RX4, "told", "(II)I"⟩
abbrev cX4_trace : ByteArray := prog_6_method_25_code
def yX4_trace : MethodName := ⟨RX4, "trace", "(I)I"⟩
abbrev cX4_want : ByteArray := prog_6_method_26_code
def yX4_want : MethodName := ⟨RX4, "want", "(I)Z"⟩
abbrev cX4_row : ByteArray := prog_6_method_27_code
def yX4_row : MethodName := ⟨RX4, "row", "(I)I"⟩
abbrev cX4_empty : ByteArray := prog_6_method_28_code
def yX4_empty : MethodName := ⟨RX4, "empty", "(I)I"⟩
abbrev cX4_both : ByteArray := prog_6_method_29_code
def yX4_both : MethodName := ⟨RX4, "both", "(II)Z"⟩
abbrev cX4_same : ByteArray := prog_6_method_30_code
def yX4_same : MethodName := ⟨RX4, "same", "(I)I"⟩
abbrev cX4_isAbove : ByteArray := prog_6_method_31_code
def yX4_isAbove : MethodName := ⟨RX4, "isAbove", "(II)Z"⟩
abbrev cX4_isParent : ByteArray := prog_6_method_32_code
def yX4_isParent : MethodName := ⟨RX4, "isParent", "(II)Z"⟩
abbrev cX4_parent : ByteArray := prog_6_method_33_code
def yX4_parent : MethodName := ⟨RX4, "parent", "(II)I"⟩
def RJx00060 : String := "java/lang/ArrayIndexOutOfBoundsException"
def TJx00060 : u_T := fun k => match k with
  | 0 => ("java/lang/Throwable", "cause", "Ljava/lang/Throwable;", false)
  | 1 => ("java/lang/Throwable", "stackTrace", "[Ljava/lang/StackTraceElement;", false)
  | 2 => ("java/lang/Throwable", "suppressedExceptions", "Ljava/util/List;", false)
  | 3 => ("java/lang/Throwable", "detailMessage", "Ljava/lang/String;", false)
  | 4 => ("java/lang/Throwable", "backtrace", "Ljava/lang/Object;", false)
  | _ => ("java/lang/Throwable", "depth", "I", false)
def tyJx00060 : Nat → FieldType := fun k => match k with
  | 0 => .object "java/lang/Throwable"
  | 1 => .array (.object "java/lang/StackTraceElement")
  | 2 => .object "java/util/List"
  | 3 => .object "java/lang/String"
  | 4 => .object "java/lang/Object"
  | _ => .int
abbrev wsJx000600 : List Cond := u_ws RJx00060 TJx00060 6
theorem nmJx00060 : ∀ a, a < 6 → ∀ b, b < 6 → a ≠ b → (TJx00060 a).2.1 ≠ (TJx00060 b).2.1 := by decide +kernel
theorem tyJx00060_ok : ∀ k, k < 6 → parseFieldDescriptor (TJx00060 k).2.2.1 = some (tyJx00060 k) := by decide +kernel
abbrev cJx00060_init_a7421 : ByteArray := prog_7_method_2_code
def yJx00060_init_a7421 : MethodName := ⟨RJx00060, "<init>", "(Ljava/lang/String;)V"⟩
def RJ0 : String := "java/lang/String"
def TJ0 : u_T := fun k => match k with
  | _ => ("", "", "", false)
def tyJ0 : Nat → FieldType := fun k => match k with
  | _ => .int
abbrev wsJ00 : List Cond := u_ws RJ0 TJ0 0
theorem nmJ0 : ∀ a, a < 0 → ∀ b, b < 0 → a ≠ b → (TJ0 a).2.1 ≠ (TJ0 b).2.1 := by decide +kernel
theorem tyJ0_ok : ∀ k, k < 0 → parseFieldDescriptor (TJ0 k).2.2.1 = some (tyJ0 k) := by decide +kernel
def RJ10 : String := "java/lang/System"
def TJ10 : u_T := fun k => match k with
  | _ => ("", "", "", false)
def tyJ10 : Nat → FieldType := fun k => match k with
  | _ => .int
abbrev wsJ100 : List Cond := u_ws RJ10 TJ10 0
theorem nmJ10 : ∀ a, a < 0 → ∀ b, b < 0 → a ≠ b → (TJ10 a).2.1 ≠ (TJ10 b).2.1 := by decide +kernel
theorem tyJ10_ok : ∀ k, k < 0 → parseFieldDescriptor (TJ10 k).2.2.1 = some (tyJ10 k) := by decide +kernel
def RJ7 : String := "java/util/Arrays"
def TJ7 : u_T := fun k => match k with
  | _ => ("", "", "", false)
def tyJ7 : Nat → FieldType := fun k => match k with
  | _ => .int
abbrev wsJ70 : List Cond := u_ws RJ7 TJ7 0
theorem nmJ7 : ∀ a, a < 0 → ∀ b, b < 0 → a ≠ b → (TJ7 a).2.1 ≠ (TJ7 b).2.1 := by decide +kernel
theorem tyJ7_ok : ∀ k, k < 0 → parseFieldDescriptor (TJ7 k).2.2.1 = some (tyJ7 k) := by decide +kernel
abbrev cJ7_fill_d0a16 : ByteArray := prog_14_method_101_code
def yJ7_fill_d0a16 : MethodName := ⟨RJ7, "fill", "([JJ)V"⟩
abbrev cJ7_fill_53178 : ByteArray := prog_14_method_103_code
def yJ7_fill_53178 : MethodName := ⟨RJ7, "fill", "([II)V"⟩
def RL : String := "ElCompletionLaw"
abbrev cL_fact : ByteArray := method_3_code
def yL_fact : MethodName := ⟨RL, "fact", "(LElCompletion;I[J)I"⟩
abbrev cL_law : ByteArray := code
def yL_law : MethodName := ⟨RL, "law", "([I)Z"⟩
def wsX0_init : List Cond := .code yX0_init cX0_init 1 none :: ([.methodLink RX0 3 objectInit, .instanceMethod objectInit, .code objectInit ⟨#[0xb1]⟩ 1 none, .arrayClass .int, .fieldLink RX0 9 "ElCompletion$Axioms" "kind" "[I", .fieldLink RX0 15 "ElCompletion$Axioms" "a" "[I", .fieldLink RX0 18 "ElCompletion$Axioms" "b" "[I", .fieldLink RX0 21 "ElCompletion$Axioms" "c" "[I", .fieldLink RX0 24 "ElCompletion$Axioms" "count" "I"] ++ wsX00)
def wsX0_append : List Cond := .code yX0_append cX0_append 5 (some .int) :: ([.fieldLink RX0 24 "ElCompletion$Axioms" "count" "I", .fieldLink RX0 9 "ElCompletion$Axioms" "kind" "[I", .fieldLink RX0 15 "ElCompletion$Axioms" "a" "[I", .fieldLink RX0 18 "ElCompletion$Axioms" "b" "[I", .fieldLink RX0 21 "ElCompletion$Axioms" "c" "[I"] ++ wsX00)
def wsX0_closeGap : List Cond := .code yX0_closeGap cX0_closeGap 3 none :: ([.fieldLink RX0 24 "ElCompletion$Axioms" "count" "I", .methodLink RX0 32 arraycopyName, .native arraycopyName, .static arraycopyName, .initialized "java/lang/System"] ++ wsX00)
def wsX0_remove : List Cond := .code yX0_remove cX0_remove 2 (some .int) :: ([.fieldLink RX0 24 "ElCompletion$Axioms" "count" "I", .fieldLink RX0 9 "ElCompletion$Axioms" "kind" "[I", .fieldLink RX0 15 "ElCompletion$Axioms" "a" "[I", .fieldLink RX0 18 "ElCompletion$Axioms" "b" "[I", .fieldLink RX0 21 "ElCompletion$Axioms" "c" "[I", .methodLink RX0 28 yX0_closeGap, .instanceMethod yX0_closeGap, .selects RX0 yX0_closeGap yX0_closeGap, .initialized RX0, .code yX0_closeGap cX0_closeGap 3 none, .methodLink RX0 32 arraycopyName, .native arraycopyName, .static arraycopyName, .initialized "java/lang/System"] ++ wsX00)
def wsX1_init : List Cond := .code yX1_init cX1_init 1 none :: ([.methodLink RX1 3 objectInit, .instanceMethod objectInit, .code objectInit ⟨#[0xb1]⟩ 1 none, .arrayClass .int, .fieldLink RX1 9 "ElCompletion$Closure" "before" "[I", .fieldLink RX1 15 "ElCompletion$Closure" "now" "[I", .arrayClass .long, .fieldLink RX1 18 "ElCompletion$Closure" "grounds" "[J", .fieldLink RX1 22 "ElCompletion$Closure" "order" "[I", .fieldLink RX1 25 "ElCompletion$Closure" "classCount" "I", .fieldLink RX1 29 "ElCompletion$Closure" "factCount" "I", .fieldLink RX1 32 "ElCompletion$Closure" "roundCount" "I", .fieldLink RX1 35 "ElCompletion$Closure" "gainers" "I"] ++ wsX10)
def wsJ7_fill_53178 : List Cond := .code yJ7_fill_53178 cJ7_fill_53178 4 none :: ([])
def wsJ7_fill_d0a16 : List Cond := .code yJ7_fill_d0a16 cJ7_fill_d0a16 5 none :: ([])
def wsX1_clear : List Cond := .code yX1_clear cX1_clear 2 none :: ([.fieldLink RX1 9 "ElCompletion$Closure" "before" "[I", .fieldLink RX1 15 "ElCompletion$Closure" "now" "[I", .fieldLink RX1 18 "ElCompletion$Closure" "grounds" "[J", .constantLong RX1 74 (-1), .fieldLink RX1 25 "ElCompletion$Closure" "classCount" "I", .fieldLink RX1 29 "ElCompletion$Closure" "factCount" "I", .fieldLink RX1 32 "ElCompletion$Closure" "roundCount" "I", .fieldLink RX1 35 "ElCompletion$Closure" "gainers" "I", .methodLink RX1 68 yJ7_fill_53178, .static yJ7_fill_53178, .initialized RJ7, .code yJ7_fill_53178 cJ7_fill_53178 4 none, .methodLink RX1 76 yJ7_fill_d0a16, .static yJ7_fill_d0a16, .code yJ7_fill_d0a16 cJ7_fill_d0a16 5 none] ++ wsX10)
def wsX3_isIn : List Cond := .code yX3_isIn cX3_isIn 2 (some .boolean) :: ([])
def wsX3_codeOf : List Cond := .code yX3_codeOf cX3_codeOf 2 (some .int) :: ([])
def wsX1_give : List Cond := .code yX1_give cX1_give 9 none :: ([.fieldLink RX1 15 "ElCompletion$Closure" "now" "[I", .fieldLink RX1 35 "ElCompletion$Closure" "gainers" "I", .fieldLink RX1 25 "ElCompletion$Closure" "classCount" "I", .fieldLink RX1 18 "ElCompletion$Closure" "grounds" "[J", .fieldLink RX1 32 "ElCompletion$Closure" "roundCount" "I", .static yX3_isIn, .initialized RX3, .code yX3_isIn cX3_isIn 2 (some .boolean), .static yX3_codeOf, .code yX3_codeOf cX3_codeOf 2 (some .int)] ++ wsX10)
def wsX3_linkColumn : List Cond := .code yX3_linkColumn cX3_linkColumn 2 (some .int) :: ([])
def wsX1_giveOfItself : List Cond := .code yX1_giveOfItself cX1_giveOfItself 3 none :: ([.fieldLink RX1 25 "ElCompletion$Closure" "classCount" "I", .static yX3_linkColumn, .initialized RX3, .code yX3_linkColumn cX3_linkColumn 2 (some .int), .methodLink RX1 79 yX1_give, .instanceMethod yX1_give, .selects RX1 yX1_give yX1_give, .initialized RX1, .code yX1_give cX1_give 9 none, .fieldLink RX1 15 "ElCompletion$Closure" "now" "[I", .fieldLink RX1 35 "ElCompletion$Closure" "gainers" "I", .fieldLink RX1 18 "ElCompletion$Closure" "grounds" "[J", .fieldLink RX1 32 "ElCompletion$Closure" "roundCount" "I", .static yX3_isIn, .code yX3_isIn cX3_isIn 2 (some .boolean), .static yX3_codeOf, .code yX3_codeOf cX3_codeOf 2 (some .int)] ++ wsX10)
def wsX1_giveAtFirst : List Cond := .code yX1_giveAtFirst cX1_giveAtFirst 3 none :: ([.fieldLink RX1 25 "ElCompletion$Closure" "classCount" "I", .methodLink RX1 79 yX1_give, .instanceMethod yX1_give, .selects RX1 yX1_give yX1_give, .initialized RX1, .code yX1_give cX1_give 9 none, .fieldLink RX1 15 "ElCompletion$Closure" "now" "[I", .fieldLink RX1 35 "ElCompletion$Closure" "gainers" "I", .fieldLink RX1 18 "ElCompletion$Closure" "grounds" "[J", .fieldLink RX1 32 "ElCompletion$Closure" "roundCount" "I", .static yX3_isIn, .initialized RX3, .code yX3_isIn cX3_isIn 2 (some .boolean), .static yX3_codeOf, .code yX3_codeOf cX3_codeOf 2 (some .int), .methodLink RX1 89 yX1_giveOfItself, .instanceMethod yX1_giveOfItself, .selects RX1 yX1_giveOfItself yX1_giveOfItself, .code yX1_giveOfItself cX1_giveOfItself 3 none, .static yX3_linkColumn, .code yX3_linkColumn cX3_linkColumn 2 (some .int)] ++ wsX10 ++ wsX00)
def wsX1_listFactsOf : List Cond := .code yX1_listFactsOf cX1_listFactsOf 5 none :: ([.fieldLink RX1 15 "ElCompletion$Closure" "now" "[I", .fieldLink RX1 9 "ElCompletion$Closure" "before" "[I", .fieldLink RX1 29 "ElCompletion$Closure" "factCount" "I", .fieldLink RX1 22 "ElCompletion$Closure" "order" "[I", .static yX3_isIn, .initialized RX3, .code yX3_isIn cX3_isIn 2 (some .boolean), .static yX3_codeOf, .code yX3_codeOf cX3_codeOf 2 (some .int)] ++ wsX10)
def wsX1_listColumns : List Cond := .code yX1_listColumns cX1_listColumns 4 none :: ([.fieldLink RX1 25 "ElCompletion$Closure" "classCount" "I", .fieldLink RX1 35 "ElCompletion$Closure" "gainers" "I", .static yX3_isIn, .initialized RX3, .code yX3_isIn cX3_isIn 2 (some .boolean), .methodLink RX1 123 yX1_listFactsOf, .instanceMethod yX1_listFactsOf, .selects RX1 yX1_listFactsOf yX1_listFactsOf, .initialized RX1, .code yX1_listFactsOf cX1_listFactsOf 5 none, .fieldLink RX1 15 "ElCompletion$Closure" "now" "[I", .fieldLink RX1 9 "ElCompletion$Closure" "before" "[I", .fieldLink RX1 29 "ElCompletion$Closure" "factCount" "I", .fieldLink RX1 22 "ElCompletion$Closure" "order" "[I", .static yX3_codeOf, .code yX3_codeOf cX3_codeOf 2 (some .int)] ++ wsX10)
def wsX1_endRound : List Cond := .code yX1_endRound cX1_endRound 1 none :: ([.fieldLink RX1 35 "ElCompletion$Closure" "gainers" "I", .fieldLink RX1 32 "ElCompletion$Closure" "roundCount" "I", .methodLink RX1 119 yX1_listColumns, .instanceMethod yX1_listColumns, .selects RX1 yX1_listColumns yX1_listColumns, .initialized RX1, .code yX1_listColumns cX1_listColumns 4 none, .fieldLink RX1 25 "ElCompletion$Closure" "classCount" "I", .static yX3_isIn, .initialized RX3, .code yX3_isIn cX3_isIn 2 (some .boolean), .methodLink RX1 123 yX1_listFactsOf, .instanceMethod yX1_listFactsOf, .selects RX1 yX1_listFactsOf yX1_listFactsOf, .code yX1_listFactsOf cX1_listFactsOf 5 none, .fieldLink RX1 15 "ElCompletion$Closure" "now" "[I", .fieldLink RX1 9 "ElCompletion$Closure" "before" "[I", .fieldLink RX1 29 "ElCompletion$Closure" "factCount" "I", .fieldLink RX1 22 "ElCompletion$Closure" "order" "[I", .static yX3_codeOf, .code yX3_codeOf cX3_codeOf 2 (some .int)] ++ wsX10)
def wsX1_giveToBoth : List Cond := .code yX1_giveToBoth cX1_giveToBoth 7 none :: ([.fieldLink RX1 9 "ElCompletion$Closure" "before" "[I", .fieldLink RX1 15 "ElCompletion$Closure" "now" "[I", .fieldLink RX1 25 "ElCompletion$Closure" "classCount" "I", .static yX3_isIn, .initialized RX3, .code yX3_isIn cX3_isIn 2 (some .boolean), .static yX3_codeOf, .code yX3_codeOf cX3_codeOf 2 (some .int), .methodLink RX1 79 yX1_give, .instanceMethod yX1_give, .selects RX1 yX1_give yX1_give, .initialized RX1, .code yX1_give cX1_give 9 none, .fieldLink RX1 35 "ElCompletion$Closure" "gainers" "I", .fieldLink RX1 18 "ElCompletion$Closure" "grounds" "[J", .fieldLink RX1 32 "ElCompletion$Closure" "roundCount" "I"] ++ wsX10)
def wsX1_giveToWhatHas : List Cond := .code yX1_giveToWhatHas cX1_giveToWhatHas 8 none :: ([.fieldLink RX1 9 "ElCompletion$Closure" "before" "[I", .fieldLink RX1 25 "ElCompletion$Closure" "classCount" "I", .static yX3_isIn, .initialized RX3, .code yX3_isIn cX3_isIn 2 (some .boolean), .static yX3_linkColumn, .code yX3_linkColumn cX3_linkColumn 2 (some .int), .static yX3_codeOf, .code yX3_codeOf cX3_codeOf 2 (some .int), .methodLink RX1 79 yX1_give, .instanceMethod yX1_give, .selects RX1 yX1_give yX1_give, .initialized RX1, .code yX1_give cX1_give 9 none, .fieldLink RX1 15 "ElCompletion$Closure" "now" "[I", .fieldLink RX1 35 "ElCompletion$Closure" "gainers" "I", .fieldLink RX1 18 "ElCompletion$Closure" "grounds" "[J", .fieldLink RX1 32 "ElCompletion$Closure" "roundCount" "I"] ++ wsX10)
def wsX1_giveRole : List Cond := .code yX1_giveRole cX1_giveRole 6 none :: ([.fieldLink RX1 25 "ElCompletion$Closure" "classCount" "I", .fieldLink RX1 9 "ElCompletion$Closure" "before" "[I", .static yX3_linkColumn, .initialized RX3, .code yX3_linkColumn cX3_linkColumn 2 (some .int), .methodLink RX1 79 yX1_give, .instanceMethod yX1_give, .selects RX1 yX1_give yX1_give, .initialized RX1, .code yX1_give cX1_give 9 none, .fieldLink RX1 15 "ElCompletion$Closure" "now" "[I", .fieldLink RX1 35 "ElCompletion$Closure" "gainers" "I", .fieldLink RX1 18 "ElCompletion$Closure" "grounds" "[J", .fieldLink RX1 32 "ElCompletion$Closure" "roundCount" "I", .static yX3_isIn, .code yX3_isIn cX3_isIn 2 (some .boolean), .static yX3_codeOf, .code yX3_codeOf cX3_codeOf 2 (some .int)] ++ wsX10)
def wsX1_giveChain : List Cond := .code yX1_giveChain cX1_giveChain 10 none :: ([.fieldLink RX1 25 "ElCompletion$Closure" "classCount" "I", .fieldLink RX1 9 "ElCompletion$Closure" "before" "[I", .static yX3_linkColumn, .initialized RX3, .code yX3_linkColumn cX3_linkColumn 2 (some .int), .static yX3_isIn, .code yX3_isIn cX3_isIn 2 (some .boolean), .static yX3_codeOf, .code yX3_codeOf cX3_codeOf 2 (some .int), .methodLink RX1 79 yX1_give, .instanceMethod yX1_give, .selects RX1 yX1_give yX1_give, .initialized RX1, .code yX1_give cX1_give 9 none, .fieldLink RX1 15 "ElCompletion$Closure" "now" "[I", .fieldLink RX1 35 "ElCompletion$Closure" "gainers" "I", .fieldLink RX1 18 "ElCompletion$Closure" "grounds" "[J", .fieldLink RX1 32 "ElCompletion$Closure" "roundCount" "I"] ++ wsX10)
def wsX1_giveByAxiom_r1 : List Cond := [Cond.fieldLink RX1 9 "ElCompletion$Closure" "before" "[I", Cond.methodLink RX1 79 yX1_give, Cond.instanceMethod yX1_give, Cond.selects RX1 yX1_give yX1_give, Cond.initialized RX1, Cond.code yX1_give cX1_give 9 none, Cond.fieldLink RX1 15 "ElCompletion$Closure" "now" "[I", Cond.fieldLink RX1 35 "ElCompletion$Closure" "gainers" "I", Cond.fieldLink RX1 25 "ElCompletion$Closure" "classCount" "I", Cond.fieldLink RX1 18 "ElCompletion$Closure" "grounds" "[J", Cond.fieldLink RX1 32 "ElCompletion$Closure" "roundCount" "I", Cond.static yX3_isIn, Cond.initialized RX3, Cond.code yX3_isIn cX3_isIn 2 (some .boolean), Cond.static yX3_codeOf, Cond.code yX3_codeOf cX3_codeOf 2 (some .int), Cond.methodLink RX1 102 yX1_giveToBoth, Cond.instanceMethod yX1_giveToBoth, Cond.selects RX1 yX1_giveToBoth yX1_giveToBoth, Cond.code yX1_giveToBoth cX1_giveToBoth 7 none, Cond.static yX3_linkColumn, Cond.code yX3_linkColumn cX3_linkColumn 2 (some .int), Cond.methodLink RX1 64 yX1_giveToWhatHas, Cond.instanceMethod yX1_giveToWhatHas]
def wsX1_giveByAxiom_r2 : List Cond := [Cond.selects RX1 yX1_giveToWhatHas yX1_giveToWhatHas, Cond.code yX1_giveToWhatHas cX1_giveToWhatHas 8 none, Cond.methodLink RX1 105 yX1_giveRole, Cond.instanceMethod yX1_giveRole, Cond.selects RX1 yX1_giveRole yX1_giveRole, Cond.code yX1_giveRole cX1_giveRole 6 none, Cond.methodLink RX1 109 yX1_giveChain, Cond.instanceMethod yX1_giveChain, Cond.selects RX1 yX1_giveChain yX1_giveChain, Cond.code yX1_giveChain cX1_giveChain 10 none]
def wsX1_giveByAxiom : List Cond := .code yX1_giveByAxiom cX1_giveByAxiom 6 none :: ((wsX1_giveByAxiom_r1 ++ wsX1_giveByAxiom_r2) ++ wsX00 ++ wsX10)
def wsX1_fill_r1 : List Cond := [Cond.fieldLink RX1 35 "ElCompletion$Closure" "gainers" "I", Cond.fieldLink RX1 15 "ElCompletion$Closure" "now" "[I", Cond.fieldLink RX1 9 "ElCompletion$Closure" "before" "[I", Cond.methodLink RX1 49 arraycopyName, Cond.native arraycopyName, Cond.static arraycopyName, Cond.initialized "java/lang/System", Cond.methodLink RX1 38 yX1_clear, Cond.instanceMethod yX1_clear, Cond.selects RX1 yX1_clear yX1_clear, Cond.initialized RX1, Cond.code yX1_clear cX1_clear 2 none, Cond.fieldLink RX1 18 "ElCompletion$Closure" "grounds" "[J", Cond.constantLong RX1 74 (-1), Cond.fieldLink RX1 25 "ElCompletion$Closure" "classCount" "I", Cond.fieldLink RX1 29 "ElCompletion$Closure" "factCount" "I", Cond.fieldLink RX1 32 "ElCompletion$Closure" "roundCount" "I", Cond.methodLink RX1 68 yJ7_fill_53178, Cond.static yJ7_fill_53178, Cond.initialized RJ7, Cond.code yJ7_fill_53178 cJ7_fill_53178 4 none, Cond.methodLink RX1 76 yJ7_fill_d0a16, Cond.static yJ7_fill_d0a16, Cond.code yJ7_fill_d0a16 cJ7_fill_d0a16 5 none]
def wsX1_fill_r2 : List Cond := [Cond.methodLink RX1 42 yX1_giveAtFirst, Cond.instanceMethod yX1_giveAtFirst, Cond.selects RX1 yX1_giveAtFirst yX1_giveAtFirst, Cond.code yX1_giveAtFirst cX1_giveAtFirst 3 none, Cond.methodLink RX1 79 yX1_give, Cond.instanceMethod yX1_give, Cond.selects RX1 yX1_give yX1_give, Cond.code yX1_give cX1_give 9 none, Cond.static yX3_isIn, Cond.initialized RX3, Cond.code yX3_isIn cX3_isIn 2 (some .boolean), Cond.static yX3_codeOf, Cond.code yX3_codeOf cX3_codeOf 2 (some .int), Cond.methodLink RX1 89 yX1_giveOfItself, Cond.instanceMethod yX1_giveOfItself, Cond.selects RX1 yX1_giveOfItself yX1_giveOfItself, Cond.code yX1_giveOfItself cX1_giveOfItself 3 none, Cond.static yX3_linkColumn, Cond.code yX3_linkColumn cX3_linkColumn 2 (some .int), Cond.methodLink RX1 46 yX1_endRound, Cond.instanceMethod yX1_endRound, Cond.selects RX1 yX1_endRound yX1_endRound, Cond.code yX1_endRound cX1_endRound 1 none, Cond.methodLink RX1 119 yX1_listColumns]
def wsX1_fill_r3 : List Cond := [Cond.instanceMethod yX1_listColumns, Cond.selects RX1 yX1_listColumns yX1_listColumns, Cond.code yX1_listColumns cX1_listColumns 4 none, Cond.methodLink RX1 123 yX1_listFactsOf, Cond.instanceMethod yX1_listFactsOf, Cond.selects RX1 yX1_listFactsOf yX1_listFactsOf, Cond.code yX1_listFactsOf cX1_listFactsOf 5 none, Cond.fieldLink RX1 22 "ElCompletion$Closure" "order" "[I", Cond.methodLink RX1 60 yX1_giveByAxiom, Cond.instanceMethod yX1_giveByAxiom, Cond.selects RX1 yX1_giveByAxiom yX1_giveByAxiom, Cond.code yX1_giveByAxiom cX1_giveByAxiom 6 none, Cond.methodLink RX1 102 yX1_giveToBoth, Cond.instanceMethod yX1_giveToBoth, Cond.selects RX1 yX1_giveToBoth yX1_giveToBoth, Cond.code yX1_giveToBoth cX1_giveToBoth 7 none, Cond.methodLink RX1 64 yX1_giveToWhatHas, Cond.instanceMethod yX1_giveToWhatHas, Cond.selects RX1 yX1_giveToWhatHas yX1_giveToWhatHas, Cond.code yX1_giveToWhatHas cX1_giveToWhatHas 8 none, Cond.methodLink RX1 105 yX1_giveRole, Cond.instanceMethod yX1_giveRole, Cond.selects RX1 yX1_giveRole yX1_giveRole, Cond.code yX1_giveRole cX1_giveRole 6 none]
def wsX1_fill_r4 : List Cond := [Cond.methodLink RX1 109 yX1_giveChain, Cond.instanceMethod yX1_giveChain, Cond.selects RX1 yX1_giveChain yX1_giveChain, Cond.code yX1_giveChain cX1_giveChain 10 none]
def wsX1_fill : List Cond := .code yX1_fill cX1_fill 5 none :: ((wsX1_fill_r1 ++ (wsX1_fill_r2 ++ (wsX1_fill_r3 ++ wsX1_fill_r4))) ++ wsX10 ++ wsX00)
def wsX1_has : List Cond := .code yX1_has cX1_has 3 (some .boolean) :: ([.fieldLink RX1 15 "ElCompletion$Closure" "now" "[I", .static yX3_isIn, .initialized RX3, .code yX3_isIn cX3_isIn 2 (some .boolean)] ++ wsX10)
def wsX1_follows : List Cond := .code yX1_follows cX1_follows 2 (some .boolean) :: ([.fieldLink RX1 18 "ElCompletion$Closure" "grounds" "[J"] ++ wsX10)
def wsX1_roundOf : List Cond := .code yX1_roundOf cX1_roundOf 2 (some .int) :: ([.fieldLink RX1 18 "ElCompletion$Closure" "grounds" "[J"] ++ wsX10)
def wsX1_axiomOf : List Cond := .code yX1_axiomOf cX1_axiomOf 3 (some .int) :: ([.fieldLink RX1 18 "ElCompletion$Closure" "grounds" "[J"] ++ wsX10)
def wsX1_firstPremiseOf : List Cond := .code yX1_firstPremiseOf cX1_firstPremiseOf 3 (some .int) :: ([.fieldLink RX1 18 "ElCompletion$Closure" "grounds" "[J"] ++ wsX10)
def wsX1_secondPremiseOf : List Cond := .code yX1_secondPremiseOf cX1_secondPremiseOf 3 (some .int) :: ([.fieldLink RX1 18 "ElCompletion$Closure" "grounds" "[J"] ++ wsX10)
def wsX1_areSame : List Cond := .code yX1_areSame cX1_areSame 3 (some .boolean) :: ([.methodLink RX1 126 yX1_has, .instanceMethod yX1_has, .selects RX1 yX1_has yX1_has, .initialized RX1, .code yX1_has cX1_has 3 (some .boolean), .fieldLink RX1 15 "ElCompletion$Closure" "now" "[I", .static yX3_isIn, .initialized RX3, .code yX3_isIn cX3_isIn 2 (some .boolean)] ++ wsX10)
def wsX1_leastSame : List Cond := .code yX1_leastSame cX1_leastSame 3 (some .int) :: ([.methodLink RX1 129 yX1_areSame, .instanceMethod yX1_areSame, .selects RX1 yX1_areSame yX1_areSame, .initialized RX1, .code yX1_areSame cX1_areSame 3 (some .boolean), .methodLink RX1 126 yX1_has, .instanceMethod yX1_has, .selects RX1 yX1_has yX1_has, .code yX1_has cX1_has 3 (some .boolean), .fieldLink RX1 15 "ElCompletion$Closure" "now" "[I", .static yX3_isIn, .initialized RX3, .code yX3_isIn cX3_isIn 2 (some .boolean)] ++ wsX10)
def wsX1_isParent : List Cond := .code yX1_isParent cX1_isParent 4 (some .boolean) :: ([.fieldLink RX1 25 "ElCompletion$Closure" "classCount" "I", .methodLink RX1 126 yX1_has, .instanceMethod yX1_has, .selects RX1 yX1_has yX1_has, .initialized RX1, .code yX1_has cX1_has 3 (some .boolean), .fieldLink RX1 15 "ElCompletion$Closure" "now" "[I", .static yX3_isIn, .initialized RX3, .code yX3_isIn cX3_isIn 2 (some .boolean), .methodLink RX1 135 yX1_leastSame, .instanceMethod yX1_leastSame, .selects RX1 yX1_leastSame yX1_leastSame, .code yX1_leastSame cX1_leastSame 3 (some .int), .methodLink RX1 129 yX1_areSame, .instanceMethod yX1_areSame, .selects RX1 yX1_areSame yX1_areSame, .code yX1_areSame cX1_areSame 3 (some .boolean)] ++ wsX10)
def wsX1_parentOf : List Cond := .code yX1_parentOf cX1_parentOf 5 (some .int) :: ([.fieldLink RX1 25 "ElCompletion$Closure" "classCount" "I", .methodLink RX1 126 yX1_has, .instanceMethod yX1_has, .selects RX1 yX1_has yX1_has, .initialized RX1, .code yX1_has cX1_has 3 (some .boolean), .fieldLink RX1 15 "ElCompletion$Closure" "now" "[I", .static yX3_isIn, .initialized RX3, .code yX3_isIn cX3_isIn 2 (some .boolean), .methodLink RX1 132 yX1_isParent, .instanceMethod yX1_isParent, .selects RX1 yX1_isParent yX1_isParent, .code yX1_isParent cX1_isParent 4 (some .boolean), .methodLink RX1 135 yX1_leastSame, .instanceMethod yX1_leastSame, .selects RX1 yX1_leastSame yX1_leastSame, .code yX1_leastSame cX1_leastSame 3 (some .int), .methodLink RX1 129 yX1_areSame, .instanceMethod yX1_areSame, .selects RX1 yX1_areSame yX1_areSame, .code yX1_areSame cX1_areSame 3 (some .boolean)] ++ wsX10)
def wsX2_init : List Cond := .code yX2_init cX2_init 1 none :: ([.methodLink RX2 3 objectInit, .instanceMethod objectInit, .code objectInit ⟨#[0xb1]⟩ 1 none, .arrayClass .int, .fieldLink RX2 9 "ElCompletion$Proof" "rows" "[I", .arrayClass .long, .fieldLink RX2 15 "ElCompletion$Proof" "needed" "[J", .fieldLink RX2 19 "ElCompletion$Proof" "count" "I"] ++ wsX20)
def wsX2_need : List Cond := .code yX2_need cX2_need 2 none :: ([.fieldLink RX2 15 "ElCompletion$Proof" "needed" "[J"] ++ wsX20)
def wsX2_isNeeded : List Cond := .code yX2_isNeeded cX2_isNeeded 2 (some .boolean) :: ([.fieldLink RX2 15 "ElCompletion$Proof" "needed" "[J"] ++ wsX20)
def wsX2_take_r1 : List Cond := [Cond.fieldLink RX2 19 "ElCompletion$Proof" "count" "I", Cond.fieldLink RX2 15 "ElCompletion$Proof" "needed" "[J", Cond.fieldLink RX2 9 "ElCompletion$Proof" "rows" "[I", Cond.instanceMethod yX1_follows, Cond.initialized RX1, Cond.selects RX1 yX1_follows yX1_follows, Cond.code yX1_follows cX1_follows 2 (some .boolean), Cond.fieldLink RX1 18 "ElCompletion$Closure" "grounds" "[J", Cond.methodLink RX2 29 yJ7_fill_d0a16, Cond.static yJ7_fill_d0a16, Cond.initialized RJ7, Cond.code yJ7_fill_d0a16 cJ7_fill_d0a16 5 none, Cond.methodLink RX2 35 yX2_need, Cond.instanceMethod yX2_need, Cond.selects RX2 yX2_need yX2_need, Cond.initialized RX2, Cond.code yX2_need cX2_need 2 none, Cond.methodLink RX2 45 yX2_isNeeded, Cond.instanceMethod yX2_isNeeded, Cond.selects RX2 yX2_isNeeded yX2_isNeeded, Cond.code yX2_isNeeded cX2_isNeeded 2 (some .boolean), Cond.instanceMethod yX1_firstPremiseOf, Cond.selects RX1 yX1_firstPremiseOf yX1_firstPremiseOf, Cond.code yX1_firstPremiseOf cX1_firstPremiseOf 3 (some .int)]
def wsX2_take_r2 : List Cond := [Cond.instanceMethod yX1_secondPremiseOf, Cond.selects RX1 yX1_secondPremiseOf yX1_secondPremiseOf, Cond.code yX1_secondPremiseOf cX1_secondPremiseOf 3 (some .int)]
def wsX2_take : List Cond := .code yX2_take cX2_take 4 none :: ((wsX2_take_r1 ++ wsX2_take_r2) ++ wsX20 ++ wsX10)
def wsX3_init_r1 : List Cond := [Cond.methodLink RX3 3 objectInit, Cond.instanceMethod objectInit, Cond.code objectInit ⟨#[0xb1]⟩ 1 none, Cond.classLink RX3 9 RX0, Cond.instantiable RX0 5, Cond.initialized RX0, Cond.fieldLink RX3 12 "ElCompletion" "axioms" "LElCompletion$Axioms;", Cond.classLink RX3 16 RX1, Cond.instantiable RX1 8, Cond.initialized RX1, Cond.fieldLink RX3 19 "ElCompletion" "closure" "LElCompletion$Closure;", Cond.classLink RX3 23 RX2, Cond.instantiable RX2 3, Cond.initialized RX2, Cond.fieldLink RX3 26 "ElCompletion" "proof" "LElCompletion$Proof;", Cond.fieldLink RX3 30 "ElCompletion" "classCount" "I", Cond.fieldLink RX3 34 "ElCompletion" "stale" "Z", Cond.instanceMethod yX0_init, Cond.code yX0_init cX0_init 1 none, Cond.methodLink RX0 3 objectInit, Cond.arrayClass .int, Cond.fieldLink RX0 9 "ElCompletion$Axioms" "kind" "[I", Cond.fieldLink RX0 15 "ElCompletion$Axioms" "a" "[I", Cond.fieldLink RX0 18 "ElCompletion$Axioms" "b" "[I"]
def wsX3_init_r2 : List Cond := [Cond.fieldLink RX0 21 "ElCompletion$Axioms" "c" "[I", Cond.fieldLink RX0 24 "ElCompletion$Axioms" "count" "I", Cond.instanceMethod yX1_init, Cond.code yX1_init cX1_init 1 none, Cond.methodLink RX1 3 objectInit, Cond.fieldLink RX1 9 "ElCompletion$Closure" "before" "[I", Cond.fieldLink RX1 15 "ElCompletion$Closure" "now" "[I", Cond.arrayClass .long, Cond.fieldLink RX1 18 "ElCompletion$Closure" "grounds" "[J", Cond.fieldLink RX1 22 "ElCompletion$Closure" "order" "[I", Cond.fieldLink RX1 25 "ElCompletion$Closure" "classCount" "I", Cond.fieldLink RX1 29 "ElCompletion$Closure" "factCount" "I", Cond.fieldLink RX1 32 "ElCompletion$Closure" "roundCount" "I", Cond.fieldLink RX1 35 "ElCompletion$Closure" "gainers" "I", Cond.instanceMethod yX2_init, Cond.code yX2_init cX2_init 1 none, Cond.methodLink RX2 3 objectInit, Cond.fieldLink RX2 9 "ElCompletion$Proof" "rows" "[I", Cond.fieldLink RX2 15 "ElCompletion$Proof" "needed" "[J", Cond.fieldLink RX2 19 "ElCompletion$Proof" "count" "I"]
def wsX3_init : List Cond := .code yX3_init cX3_init 1 none :: ((wsX3_init_r1 ++ wsX3_init_r2) ++ wsX00 ++ wsX30 ++ wsX10 ++ wsX20)
def wsX3_grow : List Cond := .code yX3_grow cX3_grow 1 (some .int) :: ([.fieldLink RX3 30 "ElCompletion" "classCount" "I", .fieldLink RX3 34 "ElCompletion" "stale" "Z"] ++ wsX30)
def wsX3_isClass : List Cond := .code yX3_isClass cX3_isClass 2 (some .boolean) :: ([.fieldLink RX3 30 "ElCompletion" "classCount" "I"] ++ wsX30)
def wsX3_isRole : List Cond := .code yX3_isRole cX3_isRole 1 (some .boolean) :: ([])
def wsX3_isAxiom : List Cond := .code yX3_isAxiom cX3_isAxiom 5 (some .boolean) :: ([.methodLink RX3 53 yX3_isClass, .instanceMethod yX3_isClass, .selects RX3 yX3_isClass yX3_isClass, .initialized RX3, .code yX3_isClass cX3_isClass 2 (some .boolean), .fieldLink RX3 30 "ElCompletion" "classCount" "I", .methodLink RX3 65 yX3_isRole, .static yX3_isRole, .code yX3_isRole cX3_isRole 1 (some .boolean)] ++ wsX30)
def wsX3_axiom : List Cond := .code yX3_axiom cX3_axiom 5 (some .int) :: ([.fieldLink RX3 12 "ElCompletion" "axioms" "LElCompletion$Axioms;", .fieldLink RX3 34 "ElCompletion" "stale" "Z", .methodLink RX3 38 yX3_isAxiom, .instanceMethod yX3_isAxiom, .selects RX3 yX3_isAxiom yX3_isAxiom, .initialized RX3, .code yX3_isAxiom cX3_isAxiom 5 (some .boolean), .methodLink RX3 53 yX3_isClass, .instanceMethod yX3_isClass, .selects RX3 yX3_isClass yX3_isClass, .code yX3_isClass cX3_isClass 2 (some .boolean), .fieldLink RX3 30 "ElCompletion" "classCount" "I", .methodLink RX3 65 yX3_isRole, .static yX3_isRole, .code yX3_isRole cX3_isRole 1 (some .boolean), .instanceMethod yX0_append, .initialized RX0, .selects RX0 yX0_append yX0_append, .code yX0_append cX0_append 5 (some .int), .fieldLink RX0 24 "ElCompletion$Axioms" "count" "I", .fieldLink RX0 9 "ElCompletion$Axioms" "kind" "[I", .fieldLink RX0 15 "ElCompletion$Axioms" "a" "[I", .fieldLink RX0 18 "ElCompletion$Axioms" "b" "[I", .fieldLink RX0 21 "ElCompletion$Axioms" "c" "[I"] ++ wsX30 ++ wsX00)
def wsX3_drop : List Cond := .code yX3_drop cX3_drop 2 (some .int) :: ([.fieldLink RX3 12 "ElCompletion" "axioms" "LElCompletion$Axioms;", .fieldLink RX3 34 "ElCompletion" "stale" "Z", .instanceMethod yX0_remove, .initialized RX0, .selects RX0 yX0_remove yX0_remove, .code yX0_remove cX0_remove 2 (some .int), .fieldLink RX0 24 "ElCompletion$Axioms" "count" "I", .fieldLink RX0 9 "ElCompletion$Axioms" "kind" "[I", .fieldLink RX0 15 "ElCompletion$Axioms" "a" "[I", .fieldLink RX0 18 "ElCompletion$Axioms" "b" "[I", .fieldLink RX0 21 "ElCompletion$Axioms" "c" "[I", .methodLink RX0 28 yX0_closeGap, .instanceMethod yX0_closeGap, .selects RX0 yX0_closeGap yX0_closeGap, .code yX0_closeGap cX0_closeGap 3 none, .methodLink RX0 32 arraycopyName, .native arraycopyName, .static arraycopyName, .initialized "java/lang/System"] ++ wsX30 ++ wsX00)
def wsX3_closed_r1 : List Cond := [Cond.fieldLink RX3 34 "ElCompletion" "stale" "Z", Cond.fieldLink RX3 19 "ElCompletion" "closure" "LElCompletion$Closure;", Cond.fieldLink RX3 12 "ElCompletion" "axioms" "LElCompletion$Axioms;", Cond.fieldLink RX3 30 "ElCompletion" "classCount" "I", Cond.instanceMethod yX1_fill, Cond.initialized RX1, Cond.selects RX1 yX1_fill yX1_fill, Cond.code yX1_fill cX1_fill 5 none, Cond.fieldLink RX1 35 "ElCompletion$Closure" "gainers" "I", Cond.fieldLink RX1 15 "ElCompletion$Closure" "now" "[I", Cond.fieldLink RX1 9 "ElCompletion$Closure" "before" "[I", Cond.methodLink RX1 49 arraycopyName, Cond.native arraycopyName, Cond.static arraycopyName, Cond.initialized "java/lang/System", Cond.methodLink RX1 38 yX1_clear, Cond.instanceMethod yX1_clear, Cond.selects RX1 yX1_clear yX1_clear, Cond.code yX1_clear cX1_clear 2 none, Cond.fieldLink RX1 18 "ElCompletion$Closure" "grounds" "[J", Cond.constantLong RX1 74 (-1), Cond.fieldLink RX1 25 "ElCompletion$Closure" "classCount" "I", Cond.fieldLink RX1 29 "ElCompletion$Closure" "factCount" "I", Cond.fieldLink RX1 32 "ElCompletion$Closure" "roundCount" "I"]
def wsX3_closed_r2 : List Cond := [Cond.methodLink RX1 68 yJ7_fill_53178, Cond.static yJ7_fill_53178, Cond.initialized RJ7, Cond.code yJ7_fill_53178 cJ7_fill_53178 4 none, Cond.methodLink RX1 76 yJ7_fill_d0a16, Cond.static yJ7_fill_d0a16, Cond.code yJ7_fill_d0a16 cJ7_fill_d0a16 5 none, Cond.methodLink RX1 42 yX1_giveAtFirst, Cond.instanceMethod yX1_giveAtFirst, Cond.selects RX1 yX1_giveAtFirst yX1_giveAtFirst, Cond.code yX1_giveAtFirst cX1_giveAtFirst 3 none, Cond.methodLink RX1 79 yX1_give, Cond.instanceMethod yX1_give, Cond.selects RX1 yX1_give yX1_give, Cond.code yX1_give cX1_give 9 none, Cond.static yX3_isIn, Cond.initialized RX3, Cond.code yX3_isIn cX3_isIn 2 (some .boolean), Cond.static yX3_codeOf, Cond.code yX3_codeOf cX3_codeOf 2 (some .int), Cond.methodLink RX1 89 yX1_giveOfItself, Cond.instanceMethod yX1_giveOfItself, Cond.selects RX1 yX1_giveOfItself yX1_giveOfItself, Cond.code yX1_giveOfItself cX1_giveOfItself 3 none]
def wsX3_closed_r3 : List Cond := [Cond.static yX3_linkColumn, Cond.code yX3_linkColumn cX3_linkColumn 2 (some .int), Cond.methodLink RX1 46 yX1_endRound, Cond.instanceMethod yX1_endRound, Cond.selects RX1 yX1_endRound yX1_endRound, Cond.code yX1_endRound cX1_endRound 1 none, Cond.methodLink RX1 119 yX1_listColumns, Cond.instanceMethod yX1_listColumns, Cond.selects RX1 yX1_listColumns yX1_listColumns, Cond.code yX1_listColumns cX1_listColumns 4 none, Cond.methodLink RX1 123 yX1_listFactsOf, Cond.instanceMethod yX1_listFactsOf, Cond.selects RX1 yX1_listFactsOf yX1_listFactsOf, Cond.code yX1_listFactsOf cX1_listFactsOf 5 none, Cond.fieldLink RX1 22 "ElCompletion$Closure" "order" "[I", Cond.methodLink RX1 60 yX1_giveByAxiom, Cond.instanceMethod yX1_giveByAxiom, Cond.selects RX1 yX1_giveByAxiom yX1_giveByAxiom, Cond.code yX1_giveByAxiom cX1_giveByAxiom 6 none, Cond.methodLink RX1 102 yX1_giveToBoth, Cond.instanceMethod yX1_giveToBoth, Cond.selects RX1 yX1_giveToBoth yX1_giveToBoth, Cond.code yX1_giveToBoth cX1_giveToBoth 7 none, Cond.methodLink RX1 64 yX1_giveToWhatHas]
def wsX3_closed_r4 : List Cond := [Cond.instanceMethod yX1_giveToWhatHas, Cond.selects RX1 yX1_giveToWhatHas yX1_giveToWhatHas, Cond.code yX1_giveToWhatHas cX1_giveToWhatHas 8 none, Cond.methodLink RX1 105 yX1_giveRole, Cond.instanceMethod yX1_giveRole, Cond.selects RX1 yX1_giveRole yX1_giveRole, Cond.code yX1_giveRole cX1_giveRole 6 none, Cond.methodLink RX1 109 yX1_giveChain, Cond.instanceMethod yX1_giveChain, Cond.selects RX1 yX1_giveChain yX1_giveChain, Cond.code yX1_giveChain cX1_giveChain 10 none]
def wsX3_closed : List Cond := .code yX3_closed cX3_closed 1 (some (.object "ElCompletion$Closure")) :: ((wsX3_closed_r1 ++ (wsX3_closed_r2 ++ (wsX3_closed_r3 ++ wsX3_closed_r4))) ++ wsX30 ++ wsX10 ++ wsX00)
def wsX3_sub_r1 : List Cond := [Cond.methodLink RX3 53 yX3_isClass, Cond.instanceMethod yX3_isClass, Cond.selects RX3 yX3_isClass yX3_isClass, Cond.initialized RX3, Cond.code yX3_isClass cX3_isClass 2 (some .boolean), Cond.fieldLink RX3 30 "ElCompletion" "classCount" "I", Cond.methodLink RX3 57 yX3_closed, Cond.instanceMethod yX3_closed, Cond.selects RX3 yX3_closed yX3_closed, Cond.code yX3_closed cX3_closed 1 (some (.object "ElCompletion$Closure")), Cond.fieldLink RX3 34 "ElCompletion" "stale" "Z", Cond.fieldLink RX3 19 "ElCompletion" "closure" "LElCompletion$Closure;", Cond.fieldLink RX3 12 "ElCompletion" "axioms" "LElCompletion$Axioms;", Cond.instanceMethod yX1_fill, Cond.initialized RX1, Cond.selects RX1 yX1_fill yX1_fill, Cond.code yX1_fill cX1_fill 5 none, Cond.fieldLink RX1 35 "ElCompletion$Closure" "gainers" "I", Cond.fieldLink RX1 15 "ElCompletion$Closure" "now" "[I", Cond.fieldLink RX1 9 "ElCompletion$Closure" "before" "[I", Cond.methodLink RX1 49 arraycopyName, Cond.native arraycopyName, Cond.static arraycopyName, Cond.initialized "java/lang/System"]
def wsX3_sub_r2 : List Cond := [Cond.methodLink RX1 38 yX1_clear, Cond.instanceMethod yX1_clear, Cond.selects RX1 yX1_clear yX1_clear, Cond.code yX1_clear cX1_clear 2 none, Cond.fieldLink RX1 18 "ElCompletion$Closure" "grounds" "[J", Cond.constantLong RX1 74 (-1), Cond.fieldLink RX1 25 "ElCompletion$Closure" "classCount" "I", Cond.fieldLink RX1 29 "ElCompletion$Closure" "factCount" "I", Cond.fieldLink RX1 32 "ElCompletion$Closure" "roundCount" "I", Cond.methodLink RX1 68 yJ7_fill_53178, Cond.static yJ7_fill_53178, Cond.initialized RJ7, Cond.code yJ7_fill_53178 cJ7_fill_53178 4 none, Cond.methodLink RX1 76 yJ7_fill_d0a16, Cond.static yJ7_fill_d0a16, Cond.code yJ7_fill_d0a16 cJ7_fill_d0a16 5 none, Cond.methodLink RX1 42 yX1_giveAtFirst, Cond.instanceMethod yX1_giveAtFirst, Cond.selects RX1 yX1_giveAtFirst yX1_giveAtFirst, Cond.code yX1_giveAtFirst cX1_giveAtFirst 3 none, Cond.methodLink RX1 79 yX1_give, Cond.instanceMethod yX1_give, Cond.selects RX1 yX1_give yX1_give, Cond.code yX1_give cX1_give 9 none]
def wsX3_sub_r3 : List Cond := [Cond.static yX3_isIn, Cond.code yX3_isIn cX3_isIn 2 (some .boolean), Cond.static yX3_codeOf, Cond.code yX3_codeOf cX3_codeOf 2 (some .int), Cond.methodLink RX1 89 yX1_giveOfItself, Cond.instanceMethod yX1_giveOfItself, Cond.selects RX1 yX1_giveOfItself yX1_giveOfItself, Cond.code yX1_giveOfItself cX1_giveOfItself 3 none, Cond.static yX3_linkColumn, Cond.code yX3_linkColumn cX3_linkColumn 2 (some .int), Cond.methodLink RX1 46 yX1_endRound, Cond.instanceMethod yX1_endRound, Cond.selects RX1 yX1_endRound yX1_endRound, Cond.code yX1_endRound cX1_endRound 1 none, Cond.methodLink RX1 119 yX1_listColumns, Cond.instanceMethod yX1_listColumns, Cond.selects RX1 yX1_listColumns yX1_listColumns, Cond.code yX1_listColumns cX1_listColumns 4 none, Cond.methodLink RX1 123 yX1_listFactsOf, Cond.instanceMethod yX1_listFactsOf, Cond.selects RX1 yX1_listFactsOf yX1_listFactsOf, Cond.code yX1_listFactsOf cX1_listFactsOf 5 none, Cond.fieldLink RX1 22 "ElCompletion$Closure" "order" "[I", Cond.methodLink RX1 60 yX1_giveByAxiom]
def wsX3_sub_r4 : List Cond := [Cond.instanceMethod yX1_giveByAxiom, Cond.selects RX1 yX1_giveByAxiom yX1_giveByAxiom, Cond.code yX1_giveByAxiom cX1_giveByAxiom 6 none, Cond.methodLink RX1 102 yX1_giveToBoth, Cond.instanceMethod yX1_giveToBoth, Cond.selects RX1 yX1_giveToBoth yX1_giveToBoth, Cond.code yX1_giveToBoth cX1_giveToBoth 7 none, Cond.methodLink RX1 64 yX1_giveToWhatHas, Cond.instanceMethod yX1_giveToWhatHas, Cond.selects RX1 yX1_giveToWhatHas yX1_giveToWhatHas, Cond.code yX1_giveToWhatHas cX1_giveToWhatHas 8 none, Cond.methodLink RX1 105 yX1_giveRole, Cond.instanceMethod yX1_giveRole, Cond.selects RX1 yX1_giveRole yX1_giveRole, Cond.code yX1_giveRole cX1_giveRole 6 none, Cond.methodLink RX1 109 yX1_giveChain, Cond.instanceMethod yX1_giveChain, Cond.selects RX1 yX1_giveChain yX1_giveChain, Cond.code yX1_giveChain cX1_giveChain 10 none, Cond.instanceMethod yX1_has, Cond.selects RX1 yX1_has yX1_has, Cond.code yX1_has cX1_has 3 (some .boolean)]
def wsX3_sub : List Cond := .code yX3_sub cX3_sub 3 (some .int) :: ((wsX3_sub_r1 ++ (wsX3_sub_r2 ++ (wsX3_sub_r3 ++ wsX3_sub_r4))) ++ wsX30 ++ wsX10 ++ wsX00)
def wsX3_link_r1 : List Cond := [Cond.methodLink RX3 53 yX3_isClass, Cond.instanceMethod yX3_isClass, Cond.selects RX3 yX3_isClass yX3_isClass, Cond.initialized RX3, Cond.code yX3_isClass cX3_isClass 2 (some .boolean), Cond.fieldLink RX3 30 "ElCompletion" "classCount" "I", Cond.methodLink RX3 65 yX3_isRole, Cond.static yX3_isRole, Cond.code yX3_isRole cX3_isRole 1 (some .boolean), Cond.methodLink RX3 57 yX3_closed, Cond.instanceMethod yX3_closed, Cond.selects RX3 yX3_closed yX3_closed, Cond.code yX3_closed cX3_closed 1 (some (.object "ElCompletion$Closure")), Cond.fieldLink RX3 34 "ElCompletion" "stale" "Z", Cond.fieldLink RX3 19 "ElCompletion" "closure" "LElCompletion$Closure;", Cond.fieldLink RX3 12 "ElCompletion" "axioms" "LElCompletion$Axioms;", Cond.instanceMethod yX1_fill, Cond.initialized RX1, Cond.selects RX1 yX1_fill yX1_fill, Cond.code yX1_fill cX1_fill 5 none, Cond.fieldLink RX1 35 "ElCompletion$Closure" "gainers" "I", Cond.fieldLink RX1 15 "ElCompletion$Closure" "now" "[I", Cond.fieldLink RX1 9 "ElCompletion$Closure" "before" "[I", Cond.methodLink RX1 49 arraycopyName]
def wsX3_link_r2 : List Cond := [Cond.native arraycopyName, Cond.static arraycopyName, Cond.initialized "java/lang/System", Cond.methodLink RX1 38 yX1_clear, Cond.instanceMethod yX1_clear, Cond.selects RX1 yX1_clear yX1_clear, Cond.code yX1_clear cX1_clear 2 none, Cond.fieldLink RX1 18 "ElCompletion$Closure" "grounds" "[J", Cond.constantLong RX1 74 (-1), Cond.fieldLink RX1 25 "ElCompletion$Closure" "classCount" "I", Cond.fieldLink RX1 29 "ElCompletion$Closure" "factCount" "I", Cond.fieldLink RX1 32 "ElCompletion$Closure" "roundCount" "I", Cond.methodLink RX1 68 yJ7_fill_53178, Cond.static yJ7_fill_53178, Cond.initialized RJ7, Cond.code yJ7_fill_53178 cJ7_fill_53178 4 none, Cond.methodLink RX1 76 yJ7_fill_d0a16, Cond.static yJ7_fill_d0a16, Cond.code yJ7_fill_d0a16 cJ7_fill_d0a16 5 none, Cond.methodLink RX1 42 yX1_giveAtFirst, Cond.instanceMethod yX1_giveAtFirst, Cond.selects RX1 yX1_giveAtFirst yX1_giveAtFirst, Cond.code yX1_giveAtFirst cX1_giveAtFirst 3 none, Cond.methodLink RX1 79 yX1_give]
def wsX3_link_r3 : List Cond := [Cond.instanceMethod yX1_give, Cond.selects RX1 yX1_give yX1_give, Cond.code yX1_give cX1_give 9 none, Cond.static yX3_isIn, Cond.code yX3_isIn cX3_isIn 2 (some .boolean), Cond.static yX3_codeOf, Cond.code yX3_codeOf cX3_codeOf 2 (some .int), Cond.methodLink RX1 89 yX1_giveOfItself, Cond.instanceMethod yX1_giveOfItself, Cond.selects RX1 yX1_giveOfItself yX1_giveOfItself, Cond.code yX1_giveOfItself cX1_giveOfItself 3 none, Cond.static yX3_linkColumn, Cond.code yX3_linkColumn cX3_linkColumn 2 (some .int), Cond.methodLink RX1 46 yX1_endRound, Cond.instanceMethod yX1_endRound, Cond.selects RX1 yX1_endRound yX1_endRound, Cond.code yX1_endRound cX1_endRound 1 none, Cond.methodLink RX1 119 yX1_listColumns, Cond.instanceMethod yX1_listColumns, Cond.selects RX1 yX1_listColumns yX1_listColumns, Cond.code yX1_listColumns cX1_listColumns 4 none, Cond.methodLink RX1 123 yX1_listFactsOf, Cond.instanceMethod yX1_listFactsOf, Cond.selects RX1 yX1_listFactsOf yX1_listFactsOf]
def wsX3_link_r4 : List Cond := [Cond.code yX1_listFactsOf cX1_listFactsOf 5 none, Cond.fieldLink RX1 22 "ElCompletion$Closure" "order" "[I", Cond.methodLink RX1 60 yX1_giveByAxiom, Cond.instanceMethod yX1_giveByAxiom, Cond.selects RX1 yX1_giveByAxiom yX1_giveByAxiom, Cond.code yX1_giveByAxiom cX1_giveByAxiom 6 none, Cond.methodLink RX1 102 yX1_giveToBoth, Cond.instanceMethod yX1_giveToBoth, Cond.selects RX1 yX1_giveToBoth yX1_giveToBoth, Cond.code yX1_giveToBoth cX1_giveToBoth 7 none, Cond.methodLink RX1 64 yX1_giveToWhatHas, Cond.instanceMethod yX1_giveToWhatHas, Cond.selects RX1 yX1_giveToWhatHas yX1_giveToWhatHas, Cond.code yX1_giveToWhatHas cX1_giveToWhatHas 8 none, Cond.methodLink RX1 105 yX1_giveRole, Cond.instanceMethod yX1_giveRole, Cond.selects RX1 yX1_giveRole yX1_giveRole, Cond.code yX1_giveRole cX1_giveRole 6 none, Cond.methodLink RX1 109 yX1_giveChain, Cond.instanceMethod yX1_giveChain, Cond.selects RX1 yX1_giveChain yX1_giveChain, Cond.code yX1_giveChain cX1_giveChain 10 none, Cond.methodLink RX3 68 yX3_linkColumn, Cond.instanceMethod yX1_has]
def wsX3_link_r5 : List Cond := [Cond.selects RX1 yX1_has yX1_has, Cond.code yX1_has cX1_has 3 (some .boolean)]
def wsX3_link : List Cond := .code yX3_link cX3_link 4 (some .int) :: ((wsX3_link_r1 ++ (wsX3_link_r2 ++ (wsX3_link_r3 ++ (wsX3_link_r4 ++ wsX3_link_r5)))) ++ wsX30 ++ wsX10 ++ wsX00)
def wsX3_rounds_r1 : List Cond := [Cond.methodLink RX3 57 yX3_closed, Cond.instanceMethod yX3_closed, Cond.selects RX3 yX3_closed yX3_closed, Cond.initialized RX3, Cond.code yX3_closed cX3_closed 1 (some (.object "ElCompletion$Closure")), Cond.fieldLink RX3 34 "ElCompletion" "stale" "Z", Cond.fieldLink RX3 19 "ElCompletion" "closure" "LElCompletion$Closure;", Cond.fieldLink RX3 12 "ElCompletion" "axioms" "LElCompletion$Axioms;", Cond.fieldLink RX3 30 "ElCompletion" "classCount" "I", Cond.instanceMethod yX1_fill, Cond.initialized RX1, Cond.selects RX1 yX1_fill yX1_fill, Cond.code yX1_fill cX1_fill 5 none, Cond.fieldLink RX1 35 "ElCompletion$Closure" "gainers" "I", Cond.fieldLink RX1 15 "ElCompletion$Closure" "now" "[I", Cond.fieldLink RX1 9 "ElCompletion$Closure" "before" "[I", Cond.methodLink RX1 49 arraycopyName, Cond.native arraycopyName, Cond.static arraycopyName, Cond.initialized "java/lang/System", Cond.methodLink RX1 38 yX1_clear, Cond.instanceMethod yX1_clear, Cond.selects RX1 yX1_clear yX1_clear, Cond.code yX1_clear cX1_clear 2 none]
def wsX3_rounds_r2 : List Cond := [Cond.fieldLink RX1 18 "ElCompletion$Closure" "grounds" "[J", Cond.constantLong RX1 74 (-1), Cond.fieldLink RX1 25 "ElCompletion$Closure" "classCount" "I", Cond.fieldLink RX1 29 "ElCompletion$Closure" "factCount" "I", Cond.fieldLink RX1 32 "ElCompletion$Closure" "roundCount" "I", Cond.methodLink RX1 68 yJ7_fill_53178, Cond.static yJ7_fill_53178, Cond.initialized RJ7, Cond.code yJ7_fill_53178 cJ7_fill_53178 4 none, Cond.methodLink RX1 76 yJ7_fill_d0a16, Cond.static yJ7_fill_d0a16, Cond.code yJ7_fill_d0a16 cJ7_fill_d0a16 5 none, Cond.methodLink RX1 42 yX1_giveAtFirst, Cond.instanceMethod yX1_giveAtFirst, Cond.selects RX1 yX1_giveAtFirst yX1_giveAtFirst, Cond.code yX1_giveAtFirst cX1_giveAtFirst 3 none, Cond.methodLink RX1 79 yX1_give, Cond.instanceMethod yX1_give, Cond.selects RX1 yX1_give yX1_give, Cond.code yX1_give cX1_give 9 none, Cond.static yX3_isIn, Cond.code yX3_isIn cX3_isIn 2 (some .boolean), Cond.static yX3_codeOf, Cond.code yX3_codeOf cX3_codeOf 2 (some .int)]
def wsX3_rounds_r3 : List Cond := [Cond.methodLink RX1 89 yX1_giveOfItself, Cond.instanceMethod yX1_giveOfItself, Cond.selects RX1 yX1_giveOfItself yX1_giveOfItself, Cond.code yX1_giveOfItself cX1_giveOfItself 3 none, Cond.static yX3_linkColumn, Cond.code yX3_linkColumn cX3_linkColumn 2 (some .int), Cond.methodLink RX1 46 yX1_endRound, Cond.instanceMethod yX1_endRound, Cond.selects RX1 yX1_endRound yX1_endRound, Cond.code yX1_endRound cX1_endRound 1 none, Cond.methodLink RX1 119 yX1_listColumns, Cond.instanceMethod yX1_listColumns, Cond.selects RX1 yX1_listColumns yX1_listColumns, Cond.code yX1_listColumns cX1_listColumns 4 none, Cond.methodLink RX1 123 yX1_listFactsOf, Cond.instanceMethod yX1_listFactsOf, Cond.selects RX1 yX1_listFactsOf yX1_listFactsOf, Cond.code yX1_listFactsOf cX1_listFactsOf 5 none, Cond.fieldLink RX1 22 "ElCompletion$Closure" "order" "[I", Cond.methodLink RX1 60 yX1_giveByAxiom, Cond.instanceMethod yX1_giveByAxiom, Cond.selects RX1 yX1_giveByAxiom yX1_giveByAxiom, Cond.code yX1_giveByAxiom cX1_giveByAxiom 6 none, Cond.methodLink RX1 102 yX1_giveToBoth]
def wsX3_rounds_r4 : List Cond := [Cond.instanceMethod yX1_giveToBoth, Cond.selects RX1 yX1_giveToBoth yX1_giveToBoth, Cond.code yX1_giveToBoth cX1_giveToBoth 7 none, Cond.methodLink RX1 64 yX1_giveToWhatHas, Cond.instanceMethod yX1_giveToWhatHas, Cond.selects RX1 yX1_giveToWhatHas yX1_giveToWhatHas, Cond.code yX1_giveToWhatHas cX1_giveToWhatHas 8 none, Cond.methodLink RX1 105 yX1_giveRole, Cond.instanceMethod yX1_giveRole, Cond.selects RX1 yX1_giveRole yX1_giveRole, Cond.code yX1_giveRole cX1_giveRole 6 none, Cond.methodLink RX1 109 yX1_giveChain, Cond.instanceMethod yX1_giveChain, Cond.selects RX1 yX1_giveChain yX1_giveChain, Cond.code yX1_giveChain cX1_giveChain 10 none]
def wsX3_rounds : List Cond := .code yX3_rounds cX3_rounds 1 (some .int) :: ((wsX3_rounds_r1 ++ (wsX3_rounds_r2 ++ (wsX3_rounds_r3 ++ wsX3_rounds_r4))) ++ wsX10 ++ wsX30 ++ wsX00)
def wsX3_facts_r1 : List Cond := [Cond.methodLink RX3 57 yX3_closed, Cond.instanceMethod yX3_closed, Cond.selects RX3 yX3_closed yX3_closed, Cond.initialized RX3, Cond.code yX3_closed cX3_closed 1 (some (.object "ElCompletion$Closure")), Cond.fieldLink RX3 34 "ElCompletion" "stale" "Z", Cond.fieldLink RX3 19 "ElCompletion" "closure" "LElCompletion$Closure;", Cond.fieldLink RX3 12 "ElCompletion" "axioms" "LElCompletion$Axioms;", Cond.fieldLink RX3 30 "ElCompletion" "classCount" "I", Cond.instanceMethod yX1_fill, Cond.initialized RX1, Cond.selects RX1 yX1_fill yX1_fill, Cond.code yX1_fill cX1_fill 5 none, Cond.fieldLink RX1 35 "ElCompletion$Closure" "gainers" "I", Cond.fieldLink RX1 15 "ElCompletion$Closure" "now" "[I", Cond.fieldLink RX1 9 "ElCompletion$Closure" "before" "[I", Cond.methodLink RX1 49 arraycopyName, Cond.native arraycopyName, Cond.static arraycopyName, Cond.initialized "java/lang/System", Cond.methodLink RX1 38 yX1_clear, Cond.instanceMethod yX1_clear, Cond.selects RX1 yX1_clear yX1_clear, Cond.code yX1_clear cX1_clear 2 none]
def wsX3_facts_r2 : List Cond := [Cond.fieldLink RX1 18 "ElCompletion$Closure" "grounds" "[J", Cond.constantLong RX1 74 (-1), Cond.fieldLink RX1 25 "ElCompletion$Closure" "classCount" "I", Cond.fieldLink RX1 29 "ElCompletion$Closure" "factCount" "I", Cond.fieldLink RX1 32 "ElCompletion$Closure" "roundCount" "I", Cond.methodLink RX1 68 yJ7_fill_53178, Cond.static yJ7_fill_53178, Cond.initialized RJ7, Cond.code yJ7_fill_53178 cJ7_fill_53178 4 none, Cond.methodLink RX1 76 yJ7_fill_d0a16, Cond.static yJ7_fill_d0a16, Cond.code yJ7_fill_d0a16 cJ7_fill_d0a16 5 none, Cond.methodLink RX1 42 yX1_giveAtFirst, Cond.instanceMethod yX1_giveAtFirst, Cond.selects RX1 yX1_giveAtFirst yX1_giveAtFirst, Cond.code yX1_giveAtFirst cX1_giveAtFirst 3 none, Cond.methodLink RX1 79 yX1_give, Cond.instanceMethod yX1_give, Cond.selects RX1 yX1_give yX1_give, Cond.code yX1_give cX1_give 9 none, Cond.static yX3_isIn, Cond.code yX3_isIn cX3_isIn 2 (some .boolean), Cond.static yX3_codeOf, Cond.code yX3_codeOf cX3_codeOf 2 (some .int)]
def wsX3_facts_r3 : List Cond := [Cond.methodLink RX1 89 yX1_giveOfItself, Cond.instanceMethod yX1_giveOfItself, Cond.selects RX1 yX1_giveOfItself yX1_giveOfItself, Cond.code yX1_giveOfItself cX1_giveOfItself 3 none, Cond.static yX3_linkColumn, Cond.code yX3_linkColumn cX3_linkColumn 2 (some .int), Cond.methodLink RX1 46 yX1_endRound, Cond.instanceMethod yX1_endRound, Cond.selects RX1 yX1_endRound yX1_endRound, Cond.code yX1_endRound cX1_endRound 1 none, Cond.methodLink RX1 119 yX1_listColumns, Cond.instanceMethod yX1_listColumns, Cond.selects RX1 yX1_listColumns yX1_listColumns, Cond.code yX1_listColumns cX1_listColumns 4 none, Cond.methodLink RX1 123 yX1_listFactsOf, Cond.instanceMethod yX1_listFactsOf, Cond.selects RX1 yX1_listFactsOf yX1_listFactsOf, Cond.code yX1_listFactsOf cX1_listFactsOf 5 none, Cond.fieldLink RX1 22 "ElCompletion$Closure" "order" "[I", Cond.methodLink RX1 60 yX1_giveByAxiom, Cond.instanceMethod yX1_giveByAxiom, Cond.selects RX1 yX1_giveByAxiom yX1_giveByAxiom, Cond.code yX1_giveByAxiom cX1_giveByAxiom 6 none, Cond.methodLink RX1 102 yX1_giveToBoth]
def wsX3_facts_r4 : List Cond := [Cond.instanceMethod yX1_giveToBoth, Cond.selects RX1 yX1_giveToBoth yX1_giveToBoth, Cond.code yX1_giveToBoth cX1_giveToBoth 7 none, Cond.methodLink RX1 64 yX1_giveToWhatHas, Cond.instanceMethod yX1_giveToWhatHas, Cond.selects RX1 yX1_giveToWhatHas yX1_giveToWhatHas, Cond.code yX1_giveToWhatHas cX1_giveToWhatHas 8 none, Cond.methodLink RX1 105 yX1_giveRole, Cond.instanceMethod yX1_giveRole, Cond.selects RX1 yX1_giveRole yX1_giveRole, Cond.code yX1_giveRole cX1_giveRole 6 none, Cond.methodLink RX1 109 yX1_giveChain, Cond.instanceMethod yX1_giveChain, Cond.selects RX1 yX1_giveChain yX1_giveChain, Cond.code yX1_giveChain cX1_giveChain 10 none]
def wsX3_facts : List Cond := .code yX3_facts cX3_facts 1 (some .int) :: ((wsX3_facts_r1 ++ (wsX3_facts_r2 ++ (wsX3_facts_r3 ++ wsX3_facts_r4))) ++ wsX10 ++ wsX30 ++ wsX00)
def wsX3_fact_r1 : List Cond := [Cond.classLink RX3 78 RJx00060, Cond.instantiable RJx00060 6, Cond.initialized RJx00060, Cond.methodLink RX3 57 yX3_closed, Cond.instanceMethod yX3_closed, Cond.selects RX3 yX3_closed yX3_closed, Cond.initialized RX3, Cond.code yX3_closed cX3_closed 1 (some (.object "ElCompletion$Closure")), Cond.fieldLink RX3 34 "ElCompletion" "stale" "Z", Cond.fieldLink RX3 19 "ElCompletion" "closure" "LElCompletion$Closure;", Cond.fieldLink RX3 12 "ElCompletion" "axioms" "LElCompletion$Axioms;", Cond.fieldLink RX3 30 "ElCompletion" "classCount" "I", Cond.instanceMethod yX1_fill, Cond.initialized RX1, Cond.selects RX1 yX1_fill yX1_fill, Cond.code yX1_fill cX1_fill 5 none, Cond.fieldLink RX1 35 "ElCompletion$Closure" "gainers" "I", Cond.fieldLink RX1 15 "ElCompletion$Closure" "now" "[I", Cond.fieldLink RX1 9 "ElCompletion$Closure" "before" "[I", Cond.methodLink RX1 49 arraycopyName, Cond.native arraycopyName, Cond.static arraycopyName, Cond.initialized "java/lang/System", Cond.methodLink RX1 38 yX1_clear]
def wsX3_fact_r2 : List Cond := [Cond.instanceMethod yX1_clear, Cond.selects RX1 yX1_clear yX1_clear, Cond.code yX1_clear cX1_clear 2 none, Cond.fieldLink RX1 18 "ElCompletion$Closure" "grounds" "[J", Cond.constantLong RX1 74 (-1), Cond.fieldLink RX1 25 "ElCompletion$Closure" "classCount" "I", Cond.fieldLink RX1 29 "ElCompletion$Closure" "factCount" "I", Cond.fieldLink RX1 32 "ElCompletion$Closure" "roundCount" "I", Cond.methodLink RX1 68 yJ7_fill_53178, Cond.static yJ7_fill_53178, Cond.initialized RJ7, Cond.code yJ7_fill_53178 cJ7_fill_53178 4 none, Cond.methodLink RX1 76 yJ7_fill_d0a16, Cond.static yJ7_fill_d0a16, Cond.code yJ7_fill_d0a16 cJ7_fill_d0a16 5 none, Cond.methodLink RX1 42 yX1_giveAtFirst, Cond.instanceMethod yX1_giveAtFirst, Cond.selects RX1 yX1_giveAtFirst yX1_giveAtFirst, Cond.code yX1_giveAtFirst cX1_giveAtFirst 3 none, Cond.methodLink RX1 79 yX1_give, Cond.instanceMethod yX1_give, Cond.selects RX1 yX1_give yX1_give, Cond.code yX1_give cX1_give 9 none, Cond.static yX3_isIn]
def wsX3_fact_r3 : List Cond := [Cond.code yX3_isIn cX3_isIn 2 (some .boolean), Cond.static yX3_codeOf, Cond.code yX3_codeOf cX3_codeOf 2 (some .int), Cond.methodLink RX1 89 yX1_giveOfItself, Cond.instanceMethod yX1_giveOfItself, Cond.selects RX1 yX1_giveOfItself yX1_giveOfItself, Cond.code yX1_giveOfItself cX1_giveOfItself 3 none, Cond.static yX3_linkColumn, Cond.code yX3_linkColumn cX3_linkColumn 2 (some .int), Cond.methodLink RX1 46 yX1_endRound, Cond.instanceMethod yX1_endRound, Cond.selects RX1 yX1_endRound yX1_endRound, Cond.code yX1_endRound cX1_endRound 1 none, Cond.methodLink RX1 119 yX1_listColumns, Cond.instanceMethod yX1_listColumns, Cond.selects RX1 yX1_listColumns yX1_listColumns, Cond.code yX1_listColumns cX1_listColumns 4 none, Cond.methodLink RX1 123 yX1_listFactsOf, Cond.instanceMethod yX1_listFactsOf, Cond.selects RX1 yX1_listFactsOf yX1_listFactsOf, Cond.code yX1_listFactsOf cX1_listFactsOf 5 none, Cond.fieldLink RX1 22 "ElCompletion$Closure" "order" "[I", Cond.methodLink RX1 60 yX1_giveByAxiom, Cond.instanceMethod yX1_giveByAxiom]
def wsX3_fact_r4 : List Cond := [Cond.selects RX1 yX1_giveByAxiom yX1_giveByAxiom, Cond.code yX1_giveByAxiom cX1_giveByAxiom 6 none, Cond.methodLink RX1 102 yX1_giveToBoth, Cond.instanceMethod yX1_giveToBoth, Cond.selects RX1 yX1_giveToBoth yX1_giveToBoth, Cond.code yX1_giveToBoth cX1_giveToBoth 7 none, Cond.methodLink RX1 64 yX1_giveToWhatHas, Cond.instanceMethod yX1_giveToWhatHas, Cond.selects RX1 yX1_giveToWhatHas yX1_giveToWhatHas, Cond.code yX1_giveToWhatHas cX1_giveToWhatHas 8 none, Cond.methodLink RX1 105 yX1_giveRole, Cond.instanceMethod yX1_giveRole, Cond.selects RX1 yX1_giveRole yX1_giveRole, Cond.code yX1_giveRole cX1_giveRole 6 none, Cond.methodLink RX1 109 yX1_giveChain, Cond.instanceMethod yX1_giveChain, Cond.selects RX1 yX1_giveChain yX1_giveChain, Cond.code yX1_giveChain cX1_giveChain 10 none]
def wsX3_fact : List Cond := .code yX3_fact cX3_fact 3 (some .int) :: ((wsX3_fact_r1 ++ (wsX3_fact_r2 ++ (wsX3_fact_r3 ++ wsX3_fact_r4))) ++ wsX10 ++ wsJx000600 ++ wsX30 ++ wsX00)
def wsX3_told_r1 : List Cond := [Cond.methodLink RX3 57 yX3_closed, Cond.instanceMethod yX3_closed, Cond.selects RX3 yX3_closed yX3_closed, Cond.initialized RX3, Cond.code yX3_closed cX3_closed 1 (some (.object "ElCompletion$Closure")), Cond.fieldLink RX3 34 "ElCompletion" "stale" "Z", Cond.fieldLink RX3 19 "ElCompletion" "closure" "LElCompletion$Closure;", Cond.fieldLink RX3 12 "ElCompletion" "axioms" "LElCompletion$Axioms;", Cond.fieldLink RX3 30 "ElCompletion" "classCount" "I", Cond.instanceMethod yX1_fill, Cond.initialized RX1, Cond.selects RX1 yX1_fill yX1_fill, Cond.code yX1_fill cX1_fill 5 none, Cond.fieldLink RX1 35 "ElCompletion$Closure" "gainers" "I", Cond.fieldLink RX1 15 "ElCompletion$Closure" "now" "[I", Cond.fieldLink RX1 9 "ElCompletion$Closure" "before" "[I", Cond.methodLink RX1 49 arraycopyName, Cond.native arraycopyName, Cond.static arraycopyName, Cond.initialized "java/lang/System", Cond.methodLink RX1 38 yX1_clear, Cond.instanceMethod yX1_clear, Cond.selects RX1 yX1_clear yX1_clear, Cond.code yX1_clear cX1_clear 2 none]
def wsX3_told_r2 : List Cond := [Cond.fieldLink RX1 18 "ElCompletion$Closure" "grounds" "[J", Cond.constantLong RX1 74 (-1), Cond.fieldLink RX1 25 "ElCompletion$Closure" "classCount" "I", Cond.fieldLink RX1 29 "ElCompletion$Closure" "factCount" "I", Cond.fieldLink RX1 32 "ElCompletion$Closure" "roundCount" "I", Cond.methodLink RX1 68 yJ7_fill_53178, Cond.static yJ7_fill_53178, Cond.initialized RJ7, Cond.code yJ7_fill_53178 cJ7_fill_53178 4 none, Cond.methodLink RX1 76 yJ7_fill_d0a16, Cond.static yJ7_fill_d0a16, Cond.code yJ7_fill_d0a16 cJ7_fill_d0a16 5 none, Cond.methodLink RX1 42 yX1_giveAtFirst, Cond.instanceMethod yX1_giveAtFirst, Cond.selects RX1 yX1_giveAtFirst yX1_giveAtFirst, Cond.code yX1_giveAtFirst cX1_giveAtFirst 3 none, Cond.methodLink RX1 79 yX1_give, Cond.instanceMethod yX1_give, Cond.selects RX1 yX1_give yX1_give, Cond.code yX1_give cX1_give 9 none, Cond.static yX3_isIn, Cond.code yX3_isIn cX3_isIn 2 (some .boolean), Cond.static yX3_codeOf, Cond.code yX3_codeOf cX3_codeOf 2 (some .int)]
def wsX3_told_r3 : List Cond := [Cond.methodLink RX1 89 yX1_giveOfItself, Cond.instanceMethod yX1_giveOfItself, Cond.selects RX1 yX1_giveOfItself yX1_giveOfItself, Cond.code yX1_giveOfItself cX1_giveOfItself 3 none, Cond.static yX3_linkColumn, Cond.code yX3_linkColumn cX3_linkColumn 2 (some .int), Cond.methodLink RX1 46 yX1_endRound, Cond.instanceMethod yX1_endRound, Cond.selects RX1 yX1_endRound yX1_endRound, Cond.code yX1_endRound cX1_endRound 1 none, Cond.methodLink RX1 119 yX1_listColumns, Cond.instanceMethod yX1_listColumns, Cond.selects RX1 yX1_listColumns yX1_listColumns, Cond.code yX1_listColumns cX1_listColumns 4 none, Cond.methodLink RX1 123 yX1_listFactsOf, Cond.instanceMethod yX1_listFactsOf, Cond.selects RX1 yX1_listFactsOf yX1_listFactsOf, Cond.code yX1_listFactsOf cX1_listFactsOf 5 none, Cond.fieldLink RX1 22 "ElCompletion$Closure" "order" "[I", Cond.methodLink RX1 60 yX1_giveByAxiom, Cond.instanceMethod yX1_giveByAxiom, Cond.selects RX1 yX1_giveByAxiom yX1_giveByAxiom, Cond.code yX1_giveByAxiom cX1_giveByAxiom 6 none, Cond.methodLink RX1 102 yX1_giveToBoth]
def wsX3_told_r4 : List Cond := [Cond.instanceMethod yX1_giveToBoth, Cond.selects RX1 yX1_giveToBoth yX1_giveToBoth, Cond.code yX1_giveToBoth cX1_giveToBoth 7 none, Cond.methodLink RX1 64 yX1_giveToWhatHas, Cond.instanceMethod yX1_giveToWhatHas, Cond.selects RX1 yX1_giveToWhatHas yX1_giveToWhatHas, Cond.code yX1_giveToWhatHas cX1_giveToWhatHas 8 none, Cond.methodLink RX1 105 yX1_giveRole, Cond.instanceMethod yX1_giveRole, Cond.selects RX1 yX1_giveRole yX1_giveRole, Cond.code yX1_giveRole cX1_giveRole 6 none, Cond.methodLink RX1 109 yX1_giveChain, Cond.instanceMethod yX1_giveChain, Cond.selects RX1 yX1_giveChain yX1_giveChain, Cond.code yX1_giveChain cX1_giveChain 10 none, Cond.instanceMethod yX1_follows, Cond.selects RX1 yX1_follows yX1_follows, Cond.code yX1_follows cX1_follows 2 (some .boolean), Cond.instanceMethod yX1_roundOf, Cond.selects RX1 yX1_roundOf yX1_roundOf, Cond.code yX1_roundOf cX1_roundOf 2 (some .int), Cond.instanceMethod yX1_axiomOf, Cond.selects RX1 yX1_axiomOf yX1_axiomOf, Cond.code yX1_axiomOf cX1_axiomOf 3 (some .int)]
def wsX3_told_r5 : List Cond := [Cond.instanceMethod yX1_firstPremiseOf, Cond.selects RX1 yX1_firstPremiseOf yX1_firstPremiseOf, Cond.code yX1_firstPremiseOf cX1_firstPremiseOf 3 (some .int), Cond.instanceMethod yX1_secondPremiseOf, Cond.selects RX1 yX1_secondPremiseOf yX1_secondPremiseOf, Cond.code yX1_secondPremiseOf cX1_secondPremiseOf 3 (some .int)]
def wsX3_told : List Cond := .code yX3_told cX3_told 4 (some .int) :: ((wsX3_told_r1 ++ (wsX3_told_r2 ++ (wsX3_told_r3 ++ (wsX3_told_r4 ++ wsX3_told_r5)))) ++ wsX30 ++ wsX10 ++ wsX00)
def wsX3_trace_r1 : List Cond := [Cond.fieldLink RX3 26 "ElCompletion" "proof" "LElCompletion$Proof;", Cond.methodLink RX3 57 yX3_closed, Cond.instanceMethod yX3_closed, Cond.selects RX3 yX3_closed yX3_closed, Cond.initialized RX3, Cond.code yX3_closed cX3_closed 1 (some (.object "ElCompletion$Closure")), Cond.fieldLink RX3 34 "ElCompletion" "stale" "Z", Cond.fieldLink RX3 19 "ElCompletion" "closure" "LElCompletion$Closure;", Cond.fieldLink RX3 12 "ElCompletion" "axioms" "LElCompletion$Axioms;", Cond.fieldLink RX3 30 "ElCompletion" "classCount" "I", Cond.instanceMethod yX1_fill, Cond.initialized RX1, Cond.selects RX1 yX1_fill yX1_fill, Cond.code yX1_fill cX1_fill 5 none, Cond.fieldLink RX1 35 "ElCompletion$Closure" "gainers" "I", Cond.fieldLink RX1 15 "ElCompletion$Closure" "now" "[I", Cond.fieldLink RX1 9 "ElCompletion$Closure" "before" "[I", Cond.methodLink RX1 49 arraycopyName, Cond.native arraycopyName, Cond.static arraycopyName, Cond.initialized "java/lang/System", Cond.methodLink RX1 38 yX1_clear, Cond.instanceMethod yX1_clear, Cond.selects RX1 yX1_clear yX1_clear]
def wsX3_trace_r2 : List Cond := [Cond.code yX1_clear cX1_clear 2 none, Cond.fieldLink RX1 18 "ElCompletion$Closure" "grounds" "[J", Cond.constantLong RX1 74 (-1), Cond.fieldLink RX1 25 "ElCompletion$Closure" "classCount" "I", Cond.fieldLink RX1 29 "ElCompletion$Closure" "factCount" "I", Cond.fieldLink RX1 32 "ElCompletion$Closure" "roundCount" "I", Cond.methodLink RX1 68 yJ7_fill_53178, Cond.static yJ7_fill_53178, Cond.initialized RJ7, Cond.code yJ7_fill_53178 cJ7_fill_53178 4 none, Cond.methodLink RX1 76 yJ7_fill_d0a16, Cond.static yJ7_fill_d0a16, Cond.code yJ7_fill_d0a16 cJ7_fill_d0a16 5 none, Cond.methodLink RX1 42 yX1_giveAtFirst, Cond.instanceMethod yX1_giveAtFirst, Cond.selects RX1 yX1_giveAtFirst yX1_giveAtFirst, Cond.code yX1_giveAtFirst cX1_giveAtFirst 3 none, Cond.methodLink RX1 79 yX1_give, Cond.instanceMethod yX1_give, Cond.selects RX1 yX1_give yX1_give, Cond.code yX1_give cX1_give 9 none, Cond.static yX3_isIn, Cond.code yX3_isIn cX3_isIn 2 (some .boolean), Cond.static yX3_codeOf]
def wsX3_trace_r3 : List Cond := [Cond.code yX3_codeOf cX3_codeOf 2 (some .int), Cond.methodLink RX1 89 yX1_giveOfItself, Cond.instanceMethod yX1_giveOfItself, Cond.selects RX1 yX1_giveOfItself yX1_giveOfItself, Cond.code yX1_giveOfItself cX1_giveOfItself 3 none, Cond.static yX3_linkColumn, Cond.code yX3_linkColumn cX3_linkColumn 2 (some .int), Cond.methodLink RX1 46 yX1_endRound, Cond.instanceMethod yX1_endRound, Cond.selects RX1 yX1_endRound yX1_endRound, Cond.code yX1_endRound cX1_endRound 1 none, Cond.methodLink RX1 119 yX1_listColumns, Cond.instanceMethod yX1_listColumns, Cond.selects RX1 yX1_listColumns yX1_listColumns, Cond.code yX1_listColumns cX1_listColumns 4 none, Cond.methodLink RX1 123 yX1_listFactsOf, Cond.instanceMethod yX1_listFactsOf, Cond.selects RX1 yX1_listFactsOf yX1_listFactsOf, Cond.code yX1_listFactsOf cX1_listFactsOf 5 none, Cond.fieldLink RX1 22 "ElCompletion$Closure" "order" "[I", Cond.methodLink RX1 60 yX1_giveByAxiom, Cond.instanceMethod yX1_giveByAxiom, Cond.selects RX1 yX1_giveByAxiom yX1_giveByAxiom, Cond.code yX1_giveByAxiom cX1_giveByAxiom 6 none]
def wsX3_trace_r4 : List Cond := [Cond.methodLink RX1 102 yX1_giveToBoth, Cond.instanceMethod yX1_giveToBoth, Cond.selects RX1 yX1_giveToBoth yX1_giveToBoth, Cond.code yX1_giveToBoth cX1_giveToBoth 7 none, Cond.methodLink RX1 64 yX1_giveToWhatHas, Cond.instanceMethod yX1_giveToWhatHas, Cond.selects RX1 yX1_giveToWhatHas yX1_giveToWhatHas, Cond.code yX1_giveToWhatHas cX1_giveToWhatHas 8 none, Cond.methodLink RX1 105 yX1_giveRole, Cond.instanceMethod yX1_giveRole, Cond.selects RX1 yX1_giveRole yX1_giveRole, Cond.code yX1_giveRole cX1_giveRole 6 none, Cond.methodLink RX1 109 yX1_giveChain, Cond.instanceMethod yX1_giveChain, Cond.selects RX1 yX1_giveChain yX1_giveChain, Cond.code yX1_giveChain cX1_giveChain 10 none, Cond.instanceMethod yX2_take, Cond.initialized RX2, Cond.selects RX2 yX2_take yX2_take, Cond.code yX2_take cX2_take 4 none, Cond.fieldLink RX2 19 "ElCompletion$Proof" "count" "I", Cond.fieldLink RX2 15 "ElCompletion$Proof" "needed" "[J", Cond.fieldLink RX2 9 "ElCompletion$Proof" "rows" "[I", Cond.instanceMethod yX1_follows]
def wsX3_trace_r5 : List Cond := [Cond.selects RX1 yX1_follows yX1_follows, Cond.code yX1_follows cX1_follows 2 (some .boolean), Cond.methodLink RX2 29 yJ7_fill_d0a16, Cond.methodLink RX2 35 yX2_need, Cond.instanceMethod yX2_need, Cond.selects RX2 yX2_need yX2_need, Cond.code yX2_need cX2_need 2 none, Cond.methodLink RX2 45 yX2_isNeeded, Cond.instanceMethod yX2_isNeeded, Cond.selects RX2 yX2_isNeeded yX2_isNeeded, Cond.code yX2_isNeeded cX2_isNeeded 2 (some .boolean), Cond.instanceMethod yX1_firstPremiseOf, Cond.selects RX1 yX1_firstPremiseOf yX1_firstPremiseOf, Cond.code yX1_firstPremiseOf cX1_firstPremiseOf 3 (some .int), Cond.instanceMethod yX1_secondPremiseOf, Cond.selects RX1 yX1_secondPremiseOf yX1_secondPremiseOf, Cond.code yX1_secondPremiseOf cX1_secondPremiseOf 3 (some .int)]
def wsX3_trace : List Cond := .code yX3_trace cX3_trace 2 (some .int) :: ((wsX3_trace_r1 ++ (wsX3_trace_r2 ++ (wsX3_trace_r3 ++ (wsX3_trace_r4 ++ wsX3_trace_r5)))) ++ wsX30 ++ wsX20 ++ wsX10 ++ wsX00)
def wsX3_row : List Cond := .code yX3_row cX3_row 2 (some .int) :: ([.fieldLink RX3 26 "ElCompletion" "proof" "LElCompletion$Proof;"] ++ wsX30 ++ wsX20)
def wsX3_empty_r1 : List Cond := [Cond.methodLink RX3 112 yX3_sub, Cond.instanceMethod yX3_sub, Cond.selects RX3 yX3_sub yX3_sub, Cond.initialized RX3, Cond.code yX3_sub cX3_sub 3 (some .int), Cond.methodLink RX3 53 yX3_isClass, Cond.instanceMethod yX3_isClass, Cond.selects RX3 yX3_isClass yX3_isClass, Cond.code yX3_isClass cX3_isClass 2 (some .boolean), Cond.fieldLink RX3 30 "ElCompletion" "classCount" "I", Cond.methodLink RX3 57 yX3_closed, Cond.instanceMethod yX3_closed, Cond.selects RX3 yX3_closed yX3_closed, Cond.code yX3_closed cX3_closed 1 (some (.object "ElCompletion$Closure")), Cond.fieldLink RX3 34 "ElCompletion" "stale" "Z", Cond.fieldLink RX3 19 "ElCompletion" "closure" "LElCompletion$Closure;", Cond.fieldLink RX3 12 "ElCompletion" "axioms" "LElCompletion$Axioms;", Cond.instanceMethod yX1_fill, Cond.initialized RX1, Cond.selects RX1 yX1_fill yX1_fill, Cond.code yX1_fill cX1_fill 5 none, Cond.fieldLink RX1 35 "ElCompletion$Closure" "gainers" "I", Cond.fieldLink RX1 15 "ElCompletion$Closure" "now" "[I", Cond.fieldLink RX1 9 "ElCompletion$Closure" "before" "[I"]
def wsX3_empty_r2 : List Cond := [Cond.methodLink RX1 49 arraycopyName, Cond.native arraycopyName, Cond.static arraycopyName, Cond.initialized "java/lang/System", Cond.methodLink RX1 38 yX1_clear, Cond.instanceMethod yX1_clear, Cond.selects RX1 yX1_clear yX1_clear, Cond.code yX1_clear cX1_clear 2 none, Cond.fieldLink RX1 18 "ElCompletion$Closure" "grounds" "[J", Cond.constantLong RX1 74 (-1), Cond.fieldLink RX1 25 "ElCompletion$Closure" "classCount" "I", Cond.fieldLink RX1 29 "ElCompletion$Closure" "factCount" "I", Cond.fieldLink RX1 32 "ElCompletion$Closure" "roundCount" "I", Cond.methodLink RX1 68 yJ7_fill_53178, Cond.static yJ7_fill_53178, Cond.initialized RJ7, Cond.code yJ7_fill_53178 cJ7_fill_53178 4 none, Cond.methodLink RX1 76 yJ7_fill_d0a16, Cond.static yJ7_fill_d0a16, Cond.code yJ7_fill_d0a16 cJ7_fill_d0a16 5 none, Cond.methodLink RX1 42 yX1_giveAtFirst, Cond.instanceMethod yX1_giveAtFirst, Cond.selects RX1 yX1_giveAtFirst yX1_giveAtFirst, Cond.code yX1_giveAtFirst cX1_giveAtFirst 3 none]
def wsX3_empty_r3 : List Cond := [Cond.methodLink RX1 79 yX1_give, Cond.instanceMethod yX1_give, Cond.selects RX1 yX1_give yX1_give, Cond.code yX1_give cX1_give 9 none, Cond.static yX3_isIn, Cond.code yX3_isIn cX3_isIn 2 (some .boolean), Cond.static yX3_codeOf, Cond.code yX3_codeOf cX3_codeOf 2 (some .int), Cond.methodLink RX1 89 yX1_giveOfItself, Cond.instanceMethod yX1_giveOfItself, Cond.selects RX1 yX1_giveOfItself yX1_giveOfItself, Cond.code yX1_giveOfItself cX1_giveOfItself 3 none, Cond.static yX3_linkColumn, Cond.code yX3_linkColumn cX3_linkColumn 2 (some .int), Cond.methodLink RX1 46 yX1_endRound, Cond.instanceMethod yX1_endRound, Cond.selects RX1 yX1_endRound yX1_endRound, Cond.code yX1_endRound cX1_endRound 1 none, Cond.methodLink RX1 119 yX1_listColumns, Cond.instanceMethod yX1_listColumns, Cond.selects RX1 yX1_listColumns yX1_listColumns, Cond.code yX1_listColumns cX1_listColumns 4 none, Cond.methodLink RX1 123 yX1_listFactsOf, Cond.instanceMethod yX1_listFactsOf]
def wsX3_empty_r4 : List Cond := [Cond.selects RX1 yX1_listFactsOf yX1_listFactsOf, Cond.code yX1_listFactsOf cX1_listFactsOf 5 none, Cond.fieldLink RX1 22 "ElCompletion$Closure" "order" "[I", Cond.methodLink RX1 60 yX1_giveByAxiom, Cond.instanceMethod yX1_giveByAxiom, Cond.selects RX1 yX1_giveByAxiom yX1_giveByAxiom, Cond.code yX1_giveByAxiom cX1_giveByAxiom 6 none, Cond.methodLink RX1 102 yX1_giveToBoth, Cond.instanceMethod yX1_giveToBoth, Cond.selects RX1 yX1_giveToBoth yX1_giveToBoth, Cond.code yX1_giveToBoth cX1_giveToBoth 7 none, Cond.methodLink RX1 64 yX1_giveToWhatHas, Cond.instanceMethod yX1_giveToWhatHas, Cond.selects RX1 yX1_giveToWhatHas yX1_giveToWhatHas, Cond.code yX1_giveToWhatHas cX1_giveToWhatHas 8 none, Cond.methodLink RX1 105 yX1_giveRole, Cond.instanceMethod yX1_giveRole, Cond.selects RX1 yX1_giveRole yX1_giveRole, Cond.code yX1_giveRole cX1_giveRole 6 none, Cond.methodLink RX1 109 yX1_giveChain, Cond.instanceMethod yX1_giveChain, Cond.selects RX1 yX1_giveChain yX1_giveChain, Cond.code yX1_giveChain cX1_giveChain 10 none, Cond.instanceMethod yX1_has]
def wsX3_empty_r5 : List Cond := [Cond.selects RX1 yX1_has yX1_has, Cond.code yX1_has cX1_has 3 (some .boolean)]
def wsX3_empty : List Cond := .code yX3_empty cX3_empty 2 (some .int) :: ((wsX3_empty_r1 ++ (wsX3_empty_r2 ++ (wsX3_empty_r3 ++ (wsX3_empty_r4 ++ wsX3_empty_r5)))) ++ wsX30 ++ wsX10 ++ wsX00)
def wsX3_same_r1 : List Cond := [Cond.methodLink RX3 53 yX3_isClass, Cond.instanceMethod yX3_isClass, Cond.selects RX3 yX3_isClass yX3_isClass, Cond.initialized RX3, Cond.code yX3_isClass cX3_isClass 2 (some .boolean), Cond.fieldLink RX3 30 "ElCompletion" "classCount" "I", Cond.methodLink RX3 57 yX3_closed, Cond.instanceMethod yX3_closed, Cond.selects RX3 yX3_closed yX3_closed, Cond.code yX3_closed cX3_closed 1 (some (.object "ElCompletion$Closure")), Cond.fieldLink RX3 34 "ElCompletion" "stale" "Z", Cond.fieldLink RX3 19 "ElCompletion" "closure" "LElCompletion$Closure;", Cond.fieldLink RX3 12 "ElCompletion" "axioms" "LElCompletion$Axioms;", Cond.instanceMethod yX1_fill, Cond.initialized RX1, Cond.selects RX1 yX1_fill yX1_fill, Cond.code yX1_fill cX1_fill 5 none, Cond.fieldLink RX1 35 "ElCompletion$Closure" "gainers" "I", Cond.fieldLink RX1 15 "ElCompletion$Closure" "now" "[I", Cond.fieldLink RX1 9 "ElCompletion$Closure" "before" "[I", Cond.methodLink RX1 49 arraycopyName, Cond.native arraycopyName, Cond.static arraycopyName, Cond.initialized "java/lang/System"]
def wsX3_same_r2 : List Cond := [Cond.methodLink RX1 38 yX1_clear, Cond.instanceMethod yX1_clear, Cond.selects RX1 yX1_clear yX1_clear, Cond.code yX1_clear cX1_clear 2 none, Cond.fieldLink RX1 18 "ElCompletion$Closure" "grounds" "[J", Cond.constantLong RX1 74 (-1), Cond.fieldLink RX1 25 "ElCompletion$Closure" "classCount" "I", Cond.fieldLink RX1 29 "ElCompletion$Closure" "factCount" "I", Cond.fieldLink RX1 32 "ElCompletion$Closure" "roundCount" "I", Cond.methodLink RX1 68 yJ7_fill_53178, Cond.static yJ7_fill_53178, Cond.initialized RJ7, Cond.code yJ7_fill_53178 cJ7_fill_53178 4 none, Cond.methodLink RX1 76 yJ7_fill_d0a16, Cond.static yJ7_fill_d0a16, Cond.code yJ7_fill_d0a16 cJ7_fill_d0a16 5 none, Cond.methodLink RX1 42 yX1_giveAtFirst, Cond.instanceMethod yX1_giveAtFirst, Cond.selects RX1 yX1_giveAtFirst yX1_giveAtFirst, Cond.code yX1_giveAtFirst cX1_giveAtFirst 3 none, Cond.methodLink RX1 79 yX1_give, Cond.instanceMethod yX1_give, Cond.selects RX1 yX1_give yX1_give, Cond.code yX1_give cX1_give 9 none]
def wsX3_same_r3 : List Cond := [Cond.static yX3_isIn, Cond.code yX3_isIn cX3_isIn 2 (some .boolean), Cond.static yX3_codeOf, Cond.code yX3_codeOf cX3_codeOf 2 (some .int), Cond.methodLink RX1 89 yX1_giveOfItself, Cond.instanceMethod yX1_giveOfItself, Cond.selects RX1 yX1_giveOfItself yX1_giveOfItself, Cond.code yX1_giveOfItself cX1_giveOfItself 3 none, Cond.static yX3_linkColumn, Cond.code yX3_linkColumn cX3_linkColumn 2 (some .int), Cond.methodLink RX1 46 yX1_endRound, Cond.instanceMethod yX1_endRound, Cond.selects RX1 yX1_endRound yX1_endRound, Cond.code yX1_endRound cX1_endRound 1 none, Cond.methodLink RX1 119 yX1_listColumns, Cond.instanceMethod yX1_listColumns, Cond.selects RX1 yX1_listColumns yX1_listColumns, Cond.code yX1_listColumns cX1_listColumns 4 none, Cond.methodLink RX1 123 yX1_listFactsOf, Cond.instanceMethod yX1_listFactsOf, Cond.selects RX1 yX1_listFactsOf yX1_listFactsOf, Cond.code yX1_listFactsOf cX1_listFactsOf 5 none, Cond.fieldLink RX1 22 "ElCompletion$Closure" "order" "[I", Cond.methodLink RX1 60 yX1_giveByAxiom]
def wsX3_same_r4 : List Cond := [Cond.instanceMethod yX1_giveByAxiom, Cond.selects RX1 yX1_giveByAxiom yX1_giveByAxiom, Cond.code yX1_giveByAxiom cX1_giveByAxiom 6 none, Cond.methodLink RX1 102 yX1_giveToBoth, Cond.instanceMethod yX1_giveToBoth, Cond.selects RX1 yX1_giveToBoth yX1_giveToBoth, Cond.code yX1_giveToBoth cX1_giveToBoth 7 none, Cond.methodLink RX1 64 yX1_giveToWhatHas, Cond.instanceMethod yX1_giveToWhatHas, Cond.selects RX1 yX1_giveToWhatHas yX1_giveToWhatHas, Cond.code yX1_giveToWhatHas cX1_giveToWhatHas 8 none, Cond.methodLink RX1 105 yX1_giveRole, Cond.instanceMethod yX1_giveRole, Cond.selects RX1 yX1_giveRole yX1_giveRole, Cond.code yX1_giveRole cX1_giveRole 6 none, Cond.methodLink RX1 109 yX1_giveChain, Cond.instanceMethod yX1_giveChain, Cond.selects RX1 yX1_giveChain yX1_giveChain, Cond.code yX1_giveChain cX1_giveChain 10 none, Cond.instanceMethod yX1_leastSame, Cond.selects RX1 yX1_leastSame yX1_leastSame, Cond.code yX1_leastSame cX1_leastSame 3 (some .int), Cond.methodLink RX1 129 yX1_areSame, Cond.instanceMethod yX1_areSame]
def wsX3_same_r5 : List Cond := [Cond.selects RX1 yX1_areSame yX1_areSame, Cond.code yX1_areSame cX1_areSame 3 (some .boolean), Cond.methodLink RX1 126 yX1_has, Cond.instanceMethod yX1_has, Cond.selects RX1 yX1_has yX1_has, Cond.code yX1_has cX1_has 3 (some .boolean)]
def wsX3_same : List Cond := .code yX3_same cX3_same 2 (some .int) :: ((wsX3_same_r1 ++ (wsX3_same_r2 ++ (wsX3_same_r3 ++ (wsX3_same_r4 ++ wsX3_same_r5)))) ++ wsX30 ++ wsX10 ++ wsX00)
def wsX3_parent_r1 : List Cond := [Cond.methodLink RX3 53 yX3_isClass, Cond.instanceMethod yX3_isClass, Cond.selects RX3 yX3_isClass yX3_isClass, Cond.initialized RX3, Cond.code yX3_isClass cX3_isClass 2 (some .boolean), Cond.fieldLink RX3 30 "ElCompletion" "classCount" "I", Cond.methodLink RX3 57 yX3_closed, Cond.instanceMethod yX3_closed, Cond.selects RX3 yX3_closed yX3_closed, Cond.code yX3_closed cX3_closed 1 (some (.object "ElCompletion$Closure")), Cond.fieldLink RX3 34 "ElCompletion" "stale" "Z", Cond.fieldLink RX3 19 "ElCompletion" "closure" "LElCompletion$Closure;", Cond.fieldLink RX3 12 "ElCompletion" "axioms" "LElCompletion$Axioms;", Cond.instanceMethod yX1_fill, Cond.initialized RX1, Cond.selects RX1 yX1_fill yX1_fill, Cond.code yX1_fill cX1_fill 5 none, Cond.fieldLink RX1 35 "ElCompletion$Closure" "gainers" "I", Cond.fieldLink RX1 15 "ElCompletion$Closure" "now" "[I", Cond.fieldLink RX1 9 "ElCompletion$Closure" "before" "[I", Cond.methodLink RX1 49 arraycopyName, Cond.native arraycopyName, Cond.static arraycopyName, Cond.initialized "java/lang/System"]
def wsX3_parent_r2 : List Cond := [Cond.methodLink RX1 38 yX1_clear, Cond.instanceMethod yX1_clear, Cond.selects RX1 yX1_clear yX1_clear, Cond.code yX1_clear cX1_clear 2 none, Cond.fieldLink RX1 18 "ElCompletion$Closure" "grounds" "[J", Cond.constantLong RX1 74 (-1), Cond.fieldLink RX1 25 "ElCompletion$Closure" "classCount" "I", Cond.fieldLink RX1 29 "ElCompletion$Closure" "factCount" "I", Cond.fieldLink RX1 32 "ElCompletion$Closure" "roundCount" "I", Cond.methodLink RX1 68 yJ7_fill_53178, Cond.static yJ7_fill_53178, Cond.initialized RJ7, Cond.code yJ7_fill_53178 cJ7_fill_53178 4 none, Cond.methodLink RX1 76 yJ7_fill_d0a16, Cond.static yJ7_fill_d0a16, Cond.code yJ7_fill_d0a16 cJ7_fill_d0a16 5 none, Cond.methodLink RX1 42 yX1_giveAtFirst, Cond.instanceMethod yX1_giveAtFirst, Cond.selects RX1 yX1_giveAtFirst yX1_giveAtFirst, Cond.code yX1_giveAtFirst cX1_giveAtFirst 3 none, Cond.methodLink RX1 79 yX1_give, Cond.instanceMethod yX1_give, Cond.selects RX1 yX1_give yX1_give, Cond.code yX1_give cX1_give 9 none]
def wsX3_parent_r3 : List Cond := [Cond.static yX3_isIn, Cond.code yX3_isIn cX3_isIn 2 (some .boolean), Cond.static yX3_codeOf, Cond.code yX3_codeOf cX3_codeOf 2 (some .int), Cond.methodLink RX1 89 yX1_giveOfItself, Cond.instanceMethod yX1_giveOfItself, Cond.selects RX1 yX1_giveOfItself yX1_giveOfItself, Cond.code yX1_giveOfItself cX1_giveOfItself 3 none, Cond.static yX3_linkColumn, Cond.code yX3_linkColumn cX3_linkColumn 2 (some .int), Cond.methodLink RX1 46 yX1_endRound, Cond.instanceMethod yX1_endRound, Cond.selects RX1 yX1_endRound yX1_endRound, Cond.code yX1_endRound cX1_endRound 1 none, Cond.methodLink RX1 119 yX1_listColumns, Cond.instanceMethod yX1_listColumns, Cond.selects RX1 yX1_listColumns yX1_listColumns, Cond.code yX1_listColumns cX1_listColumns 4 none, Cond.methodLink RX1 123 yX1_listFactsOf, Cond.instanceMethod yX1_listFactsOf, Cond.selects RX1 yX1_listFactsOf yX1_listFactsOf, Cond.code yX1_listFactsOf cX1_listFactsOf 5 none, Cond.fieldLink RX1 22 "ElCompletion$Closure" "order" "[I", Cond.methodLink RX1 60 yX1_giveByAxiom]
def wsX3_parent_r4 : List Cond := [Cond.instanceMethod yX1_giveByAxiom, Cond.selects RX1 yX1_giveByAxiom yX1_giveByAxiom, Cond.code yX1_giveByAxiom cX1_giveByAxiom 6 none, Cond.methodLink RX1 102 yX1_giveToBoth, Cond.instanceMethod yX1_giveToBoth, Cond.selects RX1 yX1_giveToBoth yX1_giveToBoth, Cond.code yX1_giveToBoth cX1_giveToBoth 7 none, Cond.methodLink RX1 64 yX1_giveToWhatHas, Cond.instanceMethod yX1_giveToWhatHas, Cond.selects RX1 yX1_giveToWhatHas yX1_giveToWhatHas, Cond.code yX1_giveToWhatHas cX1_giveToWhatHas 8 none, Cond.methodLink RX1 105 yX1_giveRole, Cond.instanceMethod yX1_giveRole, Cond.selects RX1 yX1_giveRole yX1_giveRole, Cond.code yX1_giveRole cX1_giveRole 6 none, Cond.methodLink RX1 109 yX1_giveChain, Cond.instanceMethod yX1_giveChain, Cond.selects RX1 yX1_giveChain yX1_giveChain, Cond.code yX1_giveChain cX1_giveChain 10 none, Cond.instanceMethod yX1_parentOf, Cond.selects RX1 yX1_parentOf yX1_parentOf, Cond.code yX1_parentOf cX1_parentOf 5 (some .int), Cond.methodLink RX1 126 yX1_has, Cond.instanceMethod yX1_has]
def wsX3_parent_r5 : List Cond := [Cond.selects RX1 yX1_has yX1_has, Cond.code yX1_has cX1_has 3 (some .boolean), Cond.methodLink RX1 132 yX1_isParent, Cond.instanceMethod yX1_isParent, Cond.selects RX1 yX1_isParent yX1_isParent, Cond.code yX1_isParent cX1_isParent 4 (some .boolean), Cond.methodLink RX1 135 yX1_leastSame, Cond.instanceMethod yX1_leastSame, Cond.selects RX1 yX1_leastSame yX1_leastSame, Cond.code yX1_leastSame cX1_leastSame 3 (some .int), Cond.methodLink RX1 129 yX1_areSame, Cond.instanceMethod yX1_areSame, Cond.selects RX1 yX1_areSame yX1_areSame, Cond.code yX1_areSame cX1_areSame 3 (some .boolean)]
def wsX3_parent : List Cond := .code yX3_parent cX3_parent 3 (some .int) :: ((wsX3_parent_r1 ++ (wsX3_parent_r2 ++ (wsX3_parent_r3 ++ (wsX3_parent_r4 ++ wsX3_parent_r5)))) ++ wsX30 ++ wsX10 ++ wsX00)
def wsX4_thrown : List Cond := .code yX4_thrown cX4_thrown 1 (some .int) :: ([.fieldLink RX4 1 "ElCompletionModel" "thrown" "I"] ++ wsX40)
def wsX4_init : List Cond := .code yX4_init cX4_init 1 none :: ([.methodLink RX4 7 objectInit, .instanceMethod objectInit, .code objectInit ⟨#[0xb1]⟩ 1 none, .fieldLink RX4 13 "ElCompletionModel" "classes" "I", .arrayClass .int, .fieldLink RX4 16 "ElCompletionModel" "axioms" "[I", .fieldLink RX4 20 "ElCompletionModel" "rounds" "[I", .fieldLink RX4 23 "ElCompletionModel" "whys" "[I", .fieldLink RX4 26 "ElCompletionModel" "firsts" "[I", .fieldLink RX4 29 "ElCompletionModel" "seconds" "[I", .fieldLink RX4 32 "ElCompletionModel" "row" "[I", .fieldLink RX4 35 "ElCompletionModel" "proof" "[I", .arrayClass .boolean, .fieldLink RX4 38 "ElCompletionModel" "wanted" "[Z"] ++ wsX40)
def wsX4_isClass : List Cond := .code yX4_isClass cX4_isClass 2 (some .boolean) :: ([.fieldLink RX4 13 "ElCompletionModel" "classes" "I"] ++ wsX40)
def wsX4_isRole : List Cond := .code yX4_isRole cX4_isRole 1 (some .boolean) :: ([])
def wsX4_grow : List Cond := .code yX4_grow cX4_grow 1 (some .int) :: ([.fieldLink RX4 1 "ElCompletionModel" "thrown" "I", .fieldLink RX4 13 "ElCompletionModel" "classes" "I", .fieldLink RX4 42 "ElCompletionModel" "known" "Z"] ++ wsX40)
def wsX4_wants : List Cond := .code yX4_wants cX4_wants 1 (some .int) :: ([])
def wsX4_fits : List Cond := .code yX4_fits cX4_fits 3 (some .boolean) :: ([.methodLink RX4 46 yX4_isClass, .instanceMethod yX4_isClass, .selects RX4 yX4_isClass yX4_isClass, .initialized RX4, .code yX4_isClass cX4_isClass 2 (some .boolean), .fieldLink RX4 13 "ElCompletionModel" "classes" "I", .methodLink RX4 50 yX4_isRole, .static yX4_isRole, .code yX4_isRole cX4_isRole 1 (some .boolean)] ++ wsX40)
def wsX4_axiom : List Cond := .code yX4_axiom cX4_axiom 6 (some .int) :: ([.fieldLink RX4 1 "ElCompletionModel" "thrown" "I", .fieldLink RX4 61 "ElCompletionModel" "count" "I", .fieldLink RX4 16 "ElCompletionModel" "axioms" "[I", .fieldLink RX4 42 "ElCompletionModel" "known" "Z", .methodLink RX4 53 yX4_wants, .static yX4_wants, .initialized RX4, .code yX4_wants cX4_wants 1 (some .int), .methodLink RX4 57 yX4_fits, .instanceMethod yX4_fits, .selects RX4 yX4_fits yX4_fits, .code yX4_fits cX4_fits 3 (some .boolean), .methodLink RX4 46 yX4_isClass, .instanceMethod yX4_isClass, .selects RX4 yX4_isClass yX4_isClass, .code yX4_isClass cX4_isClass 2 (some .boolean), .fieldLink RX4 13 "ElCompletionModel" "classes" "I", .methodLink RX4 50 yX4_isRole, .static yX4_isRole, .code yX4_isRole cX4_isRole 1 (some .boolean)] ++ wsX40)
def wsX4_drop : List Cond := .code yX4_drop cX4_drop 3 (some .int) :: ([.fieldLink RX4 1 "ElCompletionModel" "thrown" "I", .fieldLink RX4 61 "ElCompletionModel" "count" "I", .fieldLink RX4 16 "ElCompletionModel" "axioms" "[I", .fieldLink RX4 42 "ElCompletionModel" "known" "Z"] ++ wsX40)
def wsX4_code : List Cond := .code yX4_code cX4_code 2 (some .int) :: ([])
def wsX4_linked : List Cond := .code yX4_linked cX4_linked 3 (some .int) :: ([])
def wsX4_has : List Cond := .code yX4_has cX4_has 2 (some .boolean) :: ([.fieldLink RX4 20 "ElCompletionModel" "rounds" "[I", .fieldLink RX4 64 "ElCompletionModel" "round" "I"] ++ wsX40)
def wsX4_start : List Cond := .code yX4_start cX4_start 2 none :: ([.fieldLink RX4 20 "ElCompletionModel" "rounds" "[I", .fieldLink RX4 23 "ElCompletionModel" "whys" "[I", .fieldLink RX4 26 "ElCompletionModel" "firsts" "[I", .fieldLink RX4 29 "ElCompletionModel" "seconds" "[I"] ++ wsX40)
def wsX4_give : List Cond := .code yX4_give cX4_give 7 none :: ([.fieldLink RX4 20 "ElCompletionModel" "rounds" "[I", .fieldLink RX4 23 "ElCompletionModel" "whys" "[I", .fieldLink RX4 26 "ElCompletionModel" "firsts" "[I", .fieldLink RX4 29 "ElCompletionModel" "seconds" "[I", .fieldLink RX4 70 "ElCompletionModel" "made" "I", .fieldLink RX4 64 "ElCompletionModel" "round" "I", .methodLink RX4 67 yX4_has, .instanceMethod yX4_has, .selects RX4 yX4_has yX4_has, .initialized RX4, .code yX4_has cX4_has 2 (some .boolean)] ++ wsX40)
def wsX4_two : List Cond := .code yX4_two cX4_two 9 none :: ([.fieldLink RX4 16 "ElCompletionModel" "axioms" "[I", .fieldLink RX4 13 "ElCompletionModel" "classes" "I", .methodLink RX4 81 yX4_linked, .static yX4_linked, .initialized RX4, .code yX4_linked cX4_linked 3 (some .int), .methodLink RX4 73 yX4_code, .static yX4_code, .code yX4_code cX4_code 2 (some .int), .methodLink RX4 77 yX4_give, .instanceMethod yX4_give, .selects RX4 yX4_give yX4_give, .code yX4_give cX4_give 7 none, .fieldLink RX4 20 "ElCompletionModel" "rounds" "[I", .fieldLink RX4 23 "ElCompletionModel" "whys" "[I", .fieldLink RX4 26 "ElCompletionModel" "firsts" "[I", .fieldLink RX4 29 "ElCompletionModel" "seconds" "[I", .fieldLink RX4 70 "ElCompletionModel" "made" "I", .fieldLink RX4 64 "ElCompletionModel" "round" "I", .methodLink RX4 67 yX4_has, .instanceMethod yX4_has, .selects RX4 yX4_has yX4_has, .code yX4_has cX4_has 2 (some .boolean)] ++ wsX40)
def wsX4_one_r1 : List Cond := [Cond.fieldLink RX4 16 "ElCompletionModel" "axioms" "[I", Cond.fieldLink RX4 13 "ElCompletionModel" "classes" "I", Cond.methodLink RX4 73 yX4_code, Cond.static yX4_code, Cond.initialized RX4, Cond.code yX4_code cX4_code 2 (some .int), Cond.methodLink RX4 77 yX4_give, Cond.instanceMethod yX4_give, Cond.selects RX4 yX4_give yX4_give, Cond.code yX4_give cX4_give 7 none, Cond.fieldLink RX4 20 "ElCompletionModel" "rounds" "[I", Cond.fieldLink RX4 23 "ElCompletionModel" "whys" "[I", Cond.fieldLink RX4 26 "ElCompletionModel" "firsts" "[I", Cond.fieldLink RX4 29 "ElCompletionModel" "seconds" "[I", Cond.fieldLink RX4 70 "ElCompletionModel" "made" "I", Cond.fieldLink RX4 64 "ElCompletionModel" "round" "I", Cond.methodLink RX4 67 yX4_has, Cond.instanceMethod yX4_has, Cond.selects RX4 yX4_has yX4_has, Cond.code yX4_has cX4_has 2 (some .boolean), Cond.methodLink RX4 81 yX4_linked, Cond.static yX4_linked, Cond.code yX4_linked cX4_linked 3 (some .int), Cond.methodLink RX4 85 yX4_two]
def wsX4_one_r2 : List Cond := [Cond.instanceMethod yX4_two, Cond.selects RX4 yX4_two yX4_two, Cond.code yX4_two cX4_two 9 none]
def wsX4_one : List Cond := .code yX4_one cX4_one 7 none :: ((wsX4_one_r1 ++ wsX4_one_r2) ++ wsX40)
def wsX4_reckon_r1 : List Cond := [Cond.fieldLink RX4 42 "ElCompletionModel" "known" "Z", Cond.fieldLink RX4 20 "ElCompletionModel" "rounds" "[I", Cond.fieldLink RX4 13 "ElCompletionModel" "classes" "I", Cond.fieldLink RX4 61 "ElCompletionModel" "count" "I", Cond.fieldLink RX4 16 "ElCompletionModel" "axioms" "[I", Cond.fieldLink RX4 64 "ElCompletionModel" "round" "I", Cond.fieldLink RX4 70 "ElCompletionModel" "made" "I", Cond.fieldLink RX4 97 "ElCompletionModel" "found" "I", Cond.fieldLink RX4 32 "ElCompletionModel" "row" "[I", Cond.methodLink RX4 73 yX4_code, Cond.static yX4_code, Cond.initialized RX4, Cond.code yX4_code cX4_code 2 (some .int), Cond.methodLink RX4 89 yX4_start, Cond.instanceMethod yX4_start, Cond.selects RX4 yX4_start yX4_start, Cond.code yX4_start cX4_start 2 none, Cond.fieldLink RX4 23 "ElCompletionModel" "whys" "[I", Cond.fieldLink RX4 26 "ElCompletionModel" "firsts" "[I", Cond.fieldLink RX4 29 "ElCompletionModel" "seconds" "[I", Cond.methodLink RX4 81 yX4_linked, Cond.static yX4_linked, Cond.code yX4_linked cX4_linked 3 (some .int), Cond.methodLink RX4 93 yX4_one]
def wsX4_reckon_r2 : List Cond := [Cond.instanceMethod yX4_one, Cond.selects RX4 yX4_one yX4_one, Cond.code yX4_one cX4_one 7 none, Cond.methodLink RX4 77 yX4_give, Cond.instanceMethod yX4_give, Cond.selects RX4 yX4_give yX4_give, Cond.code yX4_give cX4_give 7 none, Cond.methodLink RX4 67 yX4_has, Cond.instanceMethod yX4_has, Cond.selects RX4 yX4_has yX4_has, Cond.code yX4_has cX4_has 2 (some .boolean), Cond.methodLink RX4 85 yX4_two, Cond.instanceMethod yX4_two, Cond.selects RX4 yX4_two yX4_two, Cond.code yX4_two cX4_two 9 none]
def wsX4_reckon : List Cond := .code yX4_reckon cX4_reckon 4 none :: ((wsX4_reckon_r1 ++ wsX4_reckon_r2) ++ wsX40)
def wsX4_follows_r1 : List Cond := [Cond.fieldLink RX4 20 "ElCompletionModel" "rounds" "[I", Cond.methodLink RX4 100 yX4_reckon, Cond.instanceMethod yX4_reckon, Cond.selects RX4 yX4_reckon yX4_reckon, Cond.initialized RX4, Cond.code yX4_reckon cX4_reckon 4 none, Cond.fieldLink RX4 42 "ElCompletionModel" "known" "Z", Cond.fieldLink RX4 13 "ElCompletionModel" "classes" "I", Cond.fieldLink RX4 61 "ElCompletionModel" "count" "I", Cond.fieldLink RX4 16 "ElCompletionModel" "axioms" "[I", Cond.fieldLink RX4 64 "ElCompletionModel" "round" "I", Cond.fieldLink RX4 70 "ElCompletionModel" "made" "I", Cond.fieldLink RX4 97 "ElCompletionModel" "found" "I", Cond.fieldLink RX4 32 "ElCompletionModel" "row" "[I", Cond.methodLink RX4 73 yX4_code, Cond.static yX4_code, Cond.code yX4_code cX4_code 2 (some .int), Cond.methodLink RX4 89 yX4_start, Cond.instanceMethod yX4_start, Cond.selects RX4 yX4_start yX4_start, Cond.code yX4_start cX4_start 2 none, Cond.fieldLink RX4 23 "ElCompletionModel" "whys" "[I", Cond.fieldLink RX4 26 "ElCompletionModel" "firsts" "[I", Cond.fieldLink RX4 29 "ElCompletionModel" "seconds" "[I"]
def wsX4_follows_r2 : List Cond := [Cond.methodLink RX4 81 yX4_linked, Cond.static yX4_linked, Cond.code yX4_linked cX4_linked 3 (some .int), Cond.methodLink RX4 93 yX4_one, Cond.instanceMethod yX4_one, Cond.selects RX4 yX4_one yX4_one, Cond.code yX4_one cX4_one 7 none, Cond.methodLink RX4 77 yX4_give, Cond.instanceMethod yX4_give, Cond.selects RX4 yX4_give yX4_give, Cond.code yX4_give cX4_give 7 none, Cond.methodLink RX4 67 yX4_has, Cond.instanceMethod yX4_has, Cond.selects RX4 yX4_has yX4_has, Cond.code yX4_has cX4_has 2 (some .boolean), Cond.methodLink RX4 85 yX4_two, Cond.instanceMethod yX4_two, Cond.selects RX4 yX4_two yX4_two, Cond.code yX4_two cX4_two 9 none]
def wsX4_follows : List Cond := .code yX4_follows cX4_follows 2 (some .boolean) :: ((wsX4_follows_r1 ++ wsX4_follows_r2) ++ wsX40)
def wsX4_sub_r1 : List Cond := [Cond.fieldLink RX4 1 "ElCompletionModel" "thrown" "I", Cond.methodLink RX4 46 yX4_isClass, Cond.instanceMethod yX4_isClass, Cond.selects RX4 yX4_isClass yX4_isClass, Cond.initialized RX4, Cond.code yX4_isClass cX4_isClass 2 (some .boolean), Cond.fieldLink RX4 13 "ElCompletionModel" "classes" "I", Cond.methodLink RX4 73 yX4_code, Cond.static yX4_code, Cond.code yX4_code cX4_code 2 (some .int), Cond.methodLink RX4 103 yX4_follows, Cond.instanceMethod yX4_follows, Cond.selects RX4 yX4_follows yX4_follows, Cond.code yX4_follows cX4_follows 2 (some .boolean), Cond.fieldLink RX4 20 "ElCompletionModel" "rounds" "[I", Cond.methodLink RX4 100 yX4_reckon, Cond.instanceMethod yX4_reckon, Cond.selects RX4 yX4_reckon yX4_reckon, Cond.code yX4_reckon cX4_reckon 4 none, Cond.fieldLink RX4 42 "ElCompletionModel" "known" "Z", Cond.fieldLink RX4 61 "ElCompletionModel" "count" "I", Cond.fieldLink RX4 16 "ElCompletionModel" "axioms" "[I", Cond.fieldLink RX4 64 "ElCompletionModel" "round" "I", Cond.fieldLink RX4 70 "ElCompletionModel" "made" "I"]
def wsX4_sub_r2 : List Cond := [Cond.fieldLink RX4 97 "ElCompletionModel" "found" "I", Cond.fieldLink RX4 32 "ElCompletionModel" "row" "[I", Cond.methodLink RX4 89 yX4_start, Cond.instanceMethod yX4_start, Cond.selects RX4 yX4_start yX4_start, Cond.code yX4_start cX4_start 2 none, Cond.fieldLink RX4 23 "ElCompletionModel" "whys" "[I", Cond.fieldLink RX4 26 "ElCompletionModel" "firsts" "[I", Cond.fieldLink RX4 29 "ElCompletionModel" "seconds" "[I", Cond.methodLink RX4 81 yX4_linked, Cond.static yX4_linked, Cond.code yX4_linked cX4_linked 3 (some .int), Cond.methodLink RX4 93 yX4_one, Cond.instanceMethod yX4_one, Cond.selects RX4 yX4_one yX4_one, Cond.code yX4_one cX4_one 7 none, Cond.methodLink RX4 77 yX4_give, Cond.instanceMethod yX4_give, Cond.selects RX4 yX4_give yX4_give, Cond.code yX4_give cX4_give 7 none, Cond.methodLink RX4 67 yX4_has, Cond.instanceMethod yX4_has, Cond.selects RX4 yX4_has yX4_has, Cond.code yX4_has cX4_has 2 (some .boolean)]
def wsX4_sub_r3 : List Cond := [Cond.methodLink RX4 85 yX4_two, Cond.instanceMethod yX4_two, Cond.selects RX4 yX4_two yX4_two, Cond.code yX4_two cX4_two 9 none]
def wsX4_sub : List Cond := .code yX4_sub cX4_sub 3 (some .int) :: ((wsX4_sub_r1 ++ (wsX4_sub_r2 ++ wsX4_sub_r3)) ++ wsX40)
def wsX4_link_r1 : List Cond := [Cond.fieldLink RX4 1 "ElCompletionModel" "thrown" "I", Cond.methodLink RX4 46 yX4_isClass, Cond.instanceMethod yX4_isClass, Cond.selects RX4 yX4_isClass yX4_isClass, Cond.initialized RX4, Cond.code yX4_isClass cX4_isClass 2 (some .boolean), Cond.fieldLink RX4 13 "ElCompletionModel" "classes" "I", Cond.methodLink RX4 50 yX4_isRole, Cond.static yX4_isRole, Cond.code yX4_isRole cX4_isRole 1 (some .boolean), Cond.methodLink RX4 81 yX4_linked, Cond.static yX4_linked, Cond.code yX4_linked cX4_linked 3 (some .int), Cond.methodLink RX4 103 yX4_follows, Cond.instanceMethod yX4_follows, Cond.selects RX4 yX4_follows yX4_follows, Cond.code yX4_follows cX4_follows 2 (some .boolean), Cond.fieldLink RX4 20 "ElCompletionModel" "rounds" "[I", Cond.methodLink RX4 100 yX4_reckon, Cond.instanceMethod yX4_reckon, Cond.selects RX4 yX4_reckon yX4_reckon, Cond.code yX4_reckon cX4_reckon 4 none, Cond.fieldLink RX4 42 "ElCompletionModel" "known" "Z", Cond.fieldLink RX4 61 "ElCompletionModel" "count" "I"]
def wsX4_link_r2 : List Cond := [Cond.fieldLink RX4 16 "ElCompletionModel" "axioms" "[I", Cond.fieldLink RX4 64 "ElCompletionModel" "round" "I", Cond.fieldLink RX4 70 "ElCompletionModel" "made" "I", Cond.fieldLink RX4 97 "ElCompletionModel" "found" "I", Cond.fieldLink RX4 32 "ElCompletionModel" "row" "[I", Cond.methodLink RX4 73 yX4_code, Cond.static yX4_code, Cond.code yX4_code cX4_code 2 (some .int), Cond.methodLink RX4 89 yX4_start, Cond.instanceMethod yX4_start, Cond.selects RX4 yX4_start yX4_start, Cond.code yX4_start cX4_start 2 none, Cond.fieldLink RX4 23 "ElCompletionModel" "whys" "[I", Cond.fieldLink RX4 26 "ElCompletionModel" "firsts" "[I", Cond.fieldLink RX4 29 "ElCompletionModel" "seconds" "[I", Cond.methodLink RX4 93 yX4_one, Cond.instanceMethod yX4_one, Cond.selects RX4 yX4_one yX4_one, Cond.code yX4_one cX4_one 7 none, Cond.methodLink RX4 77 yX4_give, Cond.instanceMethod yX4_give, Cond.selects RX4 yX4_give yX4_give, Cond.code yX4_give cX4_give 7 none, Cond.methodLink RX4 67 yX4_has]
def wsX4_link_r3 : List Cond := [Cond.instanceMethod yX4_has, Cond.selects RX4 yX4_has yX4_has, Cond.code yX4_has cX4_has 2 (some .boolean), Cond.methodLink RX4 85 yX4_two, Cond.instanceMethod yX4_two, Cond.selects RX4 yX4_two yX4_two, Cond.code yX4_two cX4_two 9 none]
def wsX4_link : List Cond := .code yX4_link cX4_link 4 (some .int) :: ((wsX4_link_r1 ++ (wsX4_link_r2 ++ wsX4_link_r3)) ++ wsX40)
def wsX4_rounds_r1 : List Cond := [Cond.fieldLink RX4 1 "ElCompletionModel" "thrown" "I", Cond.fieldLink RX4 64 "ElCompletionModel" "round" "I", Cond.methodLink RX4 100 yX4_reckon, Cond.instanceMethod yX4_reckon, Cond.selects RX4 yX4_reckon yX4_reckon, Cond.initialized RX4, Cond.code yX4_reckon cX4_reckon 4 none, Cond.fieldLink RX4 42 "ElCompletionModel" "known" "Z", Cond.fieldLink RX4 20 "ElCompletionModel" "rounds" "[I", Cond.fieldLink RX4 13 "ElCompletionModel" "classes" "I", Cond.fieldLink RX4 61 "ElCompletionModel" "count" "I", Cond.fieldLink RX4 16 "ElCompletionModel" "axioms" "[I", Cond.fieldLink RX4 70 "ElCompletionModel" "made" "I", Cond.fieldLink RX4 97 "ElCompletionModel" "found" "I", Cond.fieldLink RX4 32 "ElCompletionModel" "row" "[I", Cond.methodLink RX4 73 yX4_code, Cond.static yX4_code, Cond.code yX4_code cX4_code 2 (some .int), Cond.methodLink RX4 89 yX4_start, Cond.instanceMethod yX4_start, Cond.selects RX4 yX4_start yX4_start, Cond.code yX4_start cX4_start 2 none, Cond.fieldLink RX4 23 "ElCompletionModel" "whys" "[I", Cond.fieldLink RX4 26 "ElCompletionModel" "firsts" "[I"]
def wsX4_rounds_r2 : List Cond := [Cond.fieldLink RX4 29 "ElCompletionModel" "seconds" "[I", Cond.methodLink RX4 81 yX4_linked, Cond.static yX4_linked, Cond.code yX4_linked cX4_linked 3 (some .int), Cond.methodLink RX4 93 yX4_one, Cond.instanceMethod yX4_one, Cond.selects RX4 yX4_one yX4_one, Cond.code yX4_one cX4_one 7 none, Cond.methodLink RX4 77 yX4_give, Cond.instanceMethod yX4_give, Cond.selects RX4 yX4_give yX4_give, Cond.code yX4_give cX4_give 7 none, Cond.methodLink RX4 67 yX4_has, Cond.instanceMethod yX4_has, Cond.selects RX4 yX4_has yX4_has, Cond.code yX4_has cX4_has 2 (some .boolean), Cond.methodLink RX4 85 yX4_two, Cond.instanceMethod yX4_two, Cond.selects RX4 yX4_two yX4_two, Cond.code yX4_two cX4_two 9 none]
def wsX4_rounds : List Cond := .code yX4_rounds cX4_rounds 1 (some .int) :: ((wsX4_rounds_r1 ++ wsX4_rounds_r2) ++ wsX40)
def wsX4_facts_r1 : List Cond := [Cond.fieldLink RX4 1 "ElCompletionModel" "thrown" "I", Cond.fieldLink RX4 97 "ElCompletionModel" "found" "I", Cond.methodLink RX4 100 yX4_reckon, Cond.instanceMethod yX4_reckon, Cond.selects RX4 yX4_reckon yX4_reckon, Cond.initialized RX4, Cond.code yX4_reckon cX4_reckon 4 none, Cond.fieldLink RX4 42 "ElCompletionModel" "known" "Z", Cond.fieldLink RX4 20 "ElCompletionModel" "rounds" "[I", Cond.fieldLink RX4 13 "ElCompletionModel" "classes" "I", Cond.fieldLink RX4 61 "ElCompletionModel" "count" "I", Cond.fieldLink RX4 16 "ElCompletionModel" "axioms" "[I", Cond.fieldLink RX4 64 "ElCompletionModel" "round" "I", Cond.fieldLink RX4 70 "ElCompletionModel" "made" "I", Cond.fieldLink RX4 32 "ElCompletionModel" "row" "[I", Cond.methodLink RX4 73 yX4_code, Cond.static yX4_code, Cond.code yX4_code cX4_code 2 (some .int), Cond.methodLink RX4 89 yX4_start, Cond.instanceMethod yX4_start, Cond.selects RX4 yX4_start yX4_start, Cond.code yX4_start cX4_start 2 none, Cond.fieldLink RX4 23 "ElCompletionModel" "whys" "[I", Cond.fieldLink RX4 26 "ElCompletionModel" "firsts" "[I"]
def wsX4_facts_r2 : List Cond := [Cond.fieldLink RX4 29 "ElCompletionModel" "seconds" "[I", Cond.methodLink RX4 81 yX4_linked, Cond.static yX4_linked, Cond.code yX4_linked cX4_linked 3 (some .int), Cond.methodLink RX4 93 yX4_one, Cond.instanceMethod yX4_one, Cond.selects RX4 yX4_one yX4_one, Cond.code yX4_one cX4_one 7 none, Cond.methodLink RX4 77 yX4_give, Cond.instanceMethod yX4_give, Cond.selects RX4 yX4_give yX4_give, Cond.code yX4_give cX4_give 7 none, Cond.methodLink RX4 67 yX4_has, Cond.instanceMethod yX4_has, Cond.selects RX4 yX4_has yX4_has, Cond.code yX4_has cX4_has 2 (some .boolean), Cond.methodLink RX4 85 yX4_two, Cond.instanceMethod yX4_two, Cond.selects RX4 yX4_two yX4_two, Cond.code yX4_two cX4_two 9 none]
def wsX4_facts : List Cond := .code yX4_facts cX4_facts 1 (some .int) :: ((wsX4_facts_r1 ++ wsX4_facts_r2) ++ wsX40)
def wsX4_fact_r1 : List Cond := [Cond.fieldLink RX4 97 "ElCompletionModel" "found" "I", Cond.fieldLink RX4 1 "ElCompletionModel" "thrown" "I", Cond.fieldLink RX4 32 "ElCompletionModel" "row" "[I", Cond.methodLink RX4 100 yX4_reckon, Cond.instanceMethod yX4_reckon, Cond.selects RX4 yX4_reckon yX4_reckon, Cond.initialized RX4, Cond.code yX4_reckon cX4_reckon 4 none, Cond.fieldLink RX4 42 "ElCompletionModel" "known" "Z", Cond.fieldLink RX4 20 "ElCompletionModel" "rounds" "[I", Cond.fieldLink RX4 13 "ElCompletionModel" "classes" "I", Cond.fieldLink RX4 61 "ElCompletionModel" "count" "I", Cond.fieldLink RX4 16 "ElCompletionModel" "axioms" "[I", Cond.fieldLink RX4 64 "ElCompletionModel" "round" "I", Cond.fieldLink RX4 70 "ElCompletionModel" "made" "I", Cond.methodLink RX4 73 yX4_code, Cond.static yX4_code, Cond.code yX4_code cX4_code 2 (some .int), Cond.methodLink RX4 89 yX4_start, Cond.instanceMethod yX4_start, Cond.selects RX4 yX4_start yX4_start, Cond.code yX4_start cX4_start 2 none, Cond.fieldLink RX4 23 "ElCompletionModel" "whys" "[I", Cond.fieldLink RX4 26 "ElCompletionModel" "firsts" "[I"]
def wsX4_fact_r2 : List Cond := [Cond.fieldLink RX4 29 "ElCompletionModel" "seconds" "[I", Cond.methodLink RX4 81 yX4_linked, Cond.static yX4_linked, Cond.code yX4_linked cX4_linked 3 (some .int), Cond.methodLink RX4 93 yX4_one, Cond.instanceMethod yX4_one, Cond.selects RX4 yX4_one yX4_one, Cond.code yX4_one cX4_one 7 none, Cond.methodLink RX4 77 yX4_give, Cond.instanceMethod yX4_give, Cond.selects RX4 yX4_give yX4_give, Cond.code yX4_give cX4_give 7 none, Cond.methodLink RX4 67 yX4_has, Cond.instanceMethod yX4_has, Cond.selects RX4 yX4_has yX4_has, Cond.code yX4_has cX4_has 2 (some .boolean), Cond.methodLink RX4 85 yX4_two, Cond.instanceMethod yX4_two, Cond.selects RX4 yX4_two yX4_two, Cond.code yX4_two cX4_two 9 none]
def wsX4_fact : List Cond := .code yX4_fact cX4_fact 2 (some .int) :: ((wsX4_fact_r1 ++ wsX4_fact_r2) ++ wsX40)
def wsX4_told_r1 : List Cond := [Cond.fieldLink RX4 1 "ElCompletionModel" "thrown" "I", Cond.fieldLink RX4 20 "ElCompletionModel" "rounds" "[I", Cond.fieldLink RX4 23 "ElCompletionModel" "whys" "[I", Cond.fieldLink RX4 26 "ElCompletionModel" "firsts" "[I", Cond.fieldLink RX4 29 "ElCompletionModel" "seconds" "[I", Cond.methodLink RX4 103 yX4_follows, Cond.instanceMethod yX4_follows, Cond.selects RX4 yX4_follows yX4_follows, Cond.initialized RX4, Cond.code yX4_follows cX4_follows 2 (some .boolean), Cond.methodLink RX4 100 yX4_reckon, Cond.instanceMethod yX4_reckon, Cond.selects RX4 yX4_reckon yX4_reckon, Cond.code yX4_reckon cX4_reckon 4 none, Cond.fieldLink RX4 42 "ElCompletionModel" "known" "Z", Cond.fieldLink RX4 13 "ElCompletionModel" "classes" "I", Cond.fieldLink RX4 61 "ElCompletionModel" "count" "I", Cond.fieldLink RX4 16 "ElCompletionModel" "axioms" "[I", Cond.fieldLink RX4 64 "ElCompletionModel" "round" "I", Cond.fieldLink RX4 70 "ElCompletionModel" "made" "I", Cond.fieldLink RX4 97 "ElCompletionModel" "found" "I", Cond.fieldLink RX4 32 "ElCompletionModel" "row" "[I", Cond.methodLink RX4 73 yX4_code, Cond.static yX4_code]
def wsX4_told_r2 : List Cond := [Cond.code yX4_code cX4_code 2 (some .int), Cond.methodLink RX4 89 yX4_start, Cond.instanceMethod yX4_start, Cond.selects RX4 yX4_start yX4_start, Cond.code yX4_start cX4_start 2 none, Cond.methodLink RX4 81 yX4_linked, Cond.static yX4_linked, Cond.code yX4_linked cX4_linked 3 (some .int), Cond.methodLink RX4 93 yX4_one, Cond.instanceMethod yX4_one, Cond.selects RX4 yX4_one yX4_one, Cond.code yX4_one cX4_one 7 none, Cond.methodLink RX4 77 yX4_give, Cond.instanceMethod yX4_give, Cond.selects RX4 yX4_give yX4_give, Cond.code yX4_give cX4_give 7 none, Cond.methodLink RX4 67 yX4_has, Cond.instanceMethod yX4_has, Cond.selects RX4 yX4_has yX4_has, Cond.code yX4_has cX4_has 2 (some .boolean), Cond.methodLink RX4 85 yX4_two, Cond.instanceMethod yX4_two, Cond.selects RX4 yX4_two yX4_two, Cond.code yX4_two cX4_two 9 none]
def wsX4_told : List Cond := .code yX4_told cX4_told 3 (some .int) :: ((wsX4_told_r1 ++ wsX4_told_r2) ++ wsX40)
def wsX4_want : List Cond := .code yX4_want cX4_want 2 (some .boolean) :: ([.fieldLink RX4 38 "ElCompletionModel" "wanted" "[Z"] ++ wsX40)
def wsX4_trace_r1 : List Cond := [Cond.fieldLink RX4 1 "ElCompletionModel" "thrown" "I", Cond.fieldLink RX4 106 "ElCompletionModel" "proofSize" "I", Cond.fieldLink RX4 38 "ElCompletionModel" "wanted" "[Z", Cond.fieldLink RX4 26 "ElCompletionModel" "firsts" "[I", Cond.fieldLink RX4 29 "ElCompletionModel" "seconds" "[I", Cond.fieldLink RX4 97 "ElCompletionModel" "found" "I", Cond.fieldLink RX4 32 "ElCompletionModel" "row" "[I", Cond.fieldLink RX4 35 "ElCompletionModel" "proof" "[I", Cond.methodLink RX4 103 yX4_follows, Cond.instanceMethod yX4_follows, Cond.selects RX4 yX4_follows yX4_follows, Cond.initialized RX4, Cond.code yX4_follows cX4_follows 2 (some .boolean), Cond.fieldLink RX4 20 "ElCompletionModel" "rounds" "[I", Cond.methodLink RX4 100 yX4_reckon, Cond.instanceMethod yX4_reckon, Cond.selects RX4 yX4_reckon yX4_reckon, Cond.code yX4_reckon cX4_reckon 4 none, Cond.fieldLink RX4 42 "ElCompletionModel" "known" "Z", Cond.fieldLink RX4 13 "ElCompletionModel" "classes" "I", Cond.fieldLink RX4 61 "ElCompletionModel" "count" "I", Cond.fieldLink RX4 16 "ElCompletionModel" "axioms" "[I", Cond.fieldLink RX4 64 "ElCompletionModel" "round" "I", Cond.fieldLink RX4 70 "ElCompletionModel" "made" "I"]
def wsX4_trace_r2 : List Cond := [Cond.methodLink RX4 73 yX4_code, Cond.static yX4_code, Cond.code yX4_code cX4_code 2 (some .int), Cond.methodLink RX4 89 yX4_start, Cond.instanceMethod yX4_start, Cond.selects RX4 yX4_start yX4_start, Cond.code yX4_start cX4_start 2 none, Cond.fieldLink RX4 23 "ElCompletionModel" "whys" "[I", Cond.methodLink RX4 81 yX4_linked, Cond.static yX4_linked, Cond.code yX4_linked cX4_linked 3 (some .int), Cond.methodLink RX4 93 yX4_one, Cond.instanceMethod yX4_one, Cond.selects RX4 yX4_one yX4_one, Cond.code yX4_one cX4_one 7 none, Cond.methodLink RX4 77 yX4_give, Cond.instanceMethod yX4_give, Cond.selects RX4 yX4_give yX4_give, Cond.code yX4_give cX4_give 7 none, Cond.methodLink RX4 67 yX4_has, Cond.instanceMethod yX4_has, Cond.selects RX4 yX4_has yX4_has, Cond.code yX4_has cX4_has 2 (some .boolean), Cond.methodLink RX4 85 yX4_two]
def wsX4_trace_r3 : List Cond := [Cond.instanceMethod yX4_two, Cond.selects RX4 yX4_two yX4_two, Cond.code yX4_two cX4_two 9 none, Cond.methodLink RX4 109 yX4_want, Cond.instanceMethod yX4_want, Cond.selects RX4 yX4_want yX4_want, Cond.code yX4_want cX4_want 2 (some .boolean)]
def wsX4_trace : List Cond := .code yX4_trace cX4_trace 4 (some .int) :: ((wsX4_trace_r1 ++ (wsX4_trace_r2 ++ wsX4_trace_r3)) ++ wsX40)
def wsX4_row : List Cond := .code yX4_row cX4_row 2 (some .int) :: ([.fieldLink RX4 1 "ElCompletionModel" "thrown" "I", .fieldLink RX4 106 "ElCompletionModel" "proofSize" "I", .fieldLink RX4 35 "ElCompletionModel" "proof" "[I"] ++ wsX40)
def wsX4_empty_r1 : List Cond := [Cond.fieldLink RX4 1 "ElCompletionModel" "thrown" "I", Cond.methodLink RX4 112 yX4_sub, Cond.instanceMethod yX4_sub, Cond.selects RX4 yX4_sub yX4_sub, Cond.initialized RX4, Cond.code yX4_sub cX4_sub 3 (some .int), Cond.methodLink RX4 46 yX4_isClass, Cond.instanceMethod yX4_isClass, Cond.selects RX4 yX4_isClass yX4_isClass, Cond.code yX4_isClass cX4_isClass 2 (some .boolean), Cond.fieldLink RX4 13 "ElCompletionModel" "classes" "I", Cond.methodLink RX4 73 yX4_code, Cond.static yX4_code, Cond.code yX4_code cX4_code 2 (some .int), Cond.methodLink RX4 103 yX4_follows, Cond.instanceMethod yX4_follows, Cond.selects RX4 yX4_follows yX4_follows, Cond.code yX4_follows cX4_follows 2 (some .boolean), Cond.fieldLink RX4 20 "ElCompletionModel" "rounds" "[I", Cond.methodLink RX4 100 yX4_reckon, Cond.instanceMethod yX4_reckon, Cond.selects RX4 yX4_reckon yX4_reckon, Cond.code yX4_reckon cX4_reckon 4 none, Cond.fieldLink RX4 42 "ElCompletionModel" "known" "Z"]
def wsX4_empty_r2 : List Cond := [Cond.fieldLink RX4 61 "ElCompletionModel" "count" "I", Cond.fieldLink RX4 16 "ElCompletionModel" "axioms" "[I", Cond.fieldLink RX4 64 "ElCompletionModel" "round" "I", Cond.fieldLink RX4 70 "ElCompletionModel" "made" "I", Cond.fieldLink RX4 97 "ElCompletionModel" "found" "I", Cond.fieldLink RX4 32 "ElCompletionModel" "row" "[I", Cond.methodLink RX4 89 yX4_start, Cond.instanceMethod yX4_start, Cond.selects RX4 yX4_start yX4_start, Cond.code yX4_start cX4_start 2 none, Cond.fieldLink RX4 23 "ElCompletionModel" "whys" "[I", Cond.fieldLink RX4 26 "ElCompletionModel" "firsts" "[I", Cond.fieldLink RX4 29 "ElCompletionModel" "seconds" "[I", Cond.methodLink RX4 81 yX4_linked, Cond.static yX4_linked, Cond.code yX4_linked cX4_linked 3 (some .int), Cond.methodLink RX4 93 yX4_one, Cond.instanceMethod yX4_one, Cond.selects RX4 yX4_one yX4_one, Cond.code yX4_one cX4_one 7 none, Cond.methodLink RX4 77 yX4_give, Cond.instanceMethod yX4_give, Cond.selects RX4 yX4_give yX4_give, Cond.code yX4_give cX4_give 7 none]
def wsX4_empty_r3 : List Cond := [Cond.methodLink RX4 67 yX4_has, Cond.instanceMethod yX4_has, Cond.selects RX4 yX4_has yX4_has, Cond.code yX4_has cX4_has 2 (some .boolean), Cond.methodLink RX4 85 yX4_two, Cond.instanceMethod yX4_two, Cond.selects RX4 yX4_two yX4_two, Cond.code yX4_two cX4_two 9 none]
def wsX4_empty : List Cond := .code yX4_empty cX4_empty 2 (some .int) :: ((wsX4_empty_r1 ++ (wsX4_empty_r2 ++ wsX4_empty_r3)) ++ wsX40)
def wsX4_both_r1 : List Cond := [Cond.methodLink RX4 73 yX4_code, Cond.static yX4_code, Cond.initialized RX4, Cond.code yX4_code cX4_code 2 (some .int), Cond.methodLink RX4 103 yX4_follows, Cond.instanceMethod yX4_follows, Cond.selects RX4 yX4_follows yX4_follows, Cond.code yX4_follows cX4_follows 2 (some .boolean), Cond.fieldLink RX4 20 "ElCompletionModel" "rounds" "[I", Cond.methodLink RX4 100 yX4_reckon, Cond.instanceMethod yX4_reckon, Cond.selects RX4 yX4_reckon yX4_reckon, Cond.code yX4_reckon cX4_reckon 4 none, Cond.fieldLink RX4 42 "ElCompletionModel" "known" "Z", Cond.fieldLink RX4 13 "ElCompletionModel" "classes" "I", Cond.fieldLink RX4 61 "ElCompletionModel" "count" "I", Cond.fieldLink RX4 16 "ElCompletionModel" "axioms" "[I", Cond.fieldLink RX4 64 "ElCompletionModel" "round" "I", Cond.fieldLink RX4 70 "ElCompletionModel" "made" "I", Cond.fieldLink RX4 97 "ElCompletionModel" "found" "I", Cond.fieldLink RX4 32 "ElCompletionModel" "row" "[I", Cond.methodLink RX4 89 yX4_start, Cond.instanceMethod yX4_start, Cond.selects RX4 yX4_start yX4_start]
def wsX4_both_r2 : List Cond := [Cond.code yX4_start cX4_start 2 none, Cond.fieldLink RX4 23 "ElCompletionModel" "whys" "[I", Cond.fieldLink RX4 26 "ElCompletionModel" "firsts" "[I", Cond.fieldLink RX4 29 "ElCompletionModel" "seconds" "[I", Cond.methodLink RX4 81 yX4_linked, Cond.static yX4_linked, Cond.code yX4_linked cX4_linked 3 (some .int), Cond.methodLink RX4 93 yX4_one, Cond.instanceMethod yX4_one, Cond.selects RX4 yX4_one yX4_one, Cond.code yX4_one cX4_one 7 none, Cond.methodLink RX4 77 yX4_give, Cond.instanceMethod yX4_give, Cond.selects RX4 yX4_give yX4_give, Cond.code yX4_give cX4_give 7 none, Cond.methodLink RX4 67 yX4_has, Cond.instanceMethod yX4_has, Cond.selects RX4 yX4_has yX4_has, Cond.code yX4_has cX4_has 2 (some .boolean), Cond.methodLink RX4 85 yX4_two, Cond.instanceMethod yX4_two, Cond.selects RX4 yX4_two yX4_two, Cond.code yX4_two cX4_two 9 none]
def wsX4_both : List Cond := .code yX4_both cX4_both 3 (some .boolean) :: ((wsX4_both_r1 ++ wsX4_both_r2) ++ wsX40)
def wsX4_same_r1 : List Cond := [Cond.fieldLink RX4 1 "ElCompletionModel" "thrown" "I", Cond.methodLink RX4 46 yX4_isClass, Cond.instanceMethod yX4_isClass, Cond.selects RX4 yX4_isClass yX4_isClass, Cond.initialized RX4, Cond.code yX4_isClass cX4_isClass 2 (some .boolean), Cond.fieldLink RX4 13 "ElCompletionModel" "classes" "I", Cond.methodLink RX4 115 yX4_both, Cond.instanceMethod yX4_both, Cond.selects RX4 yX4_both yX4_both, Cond.code yX4_both cX4_both 3 (some .boolean), Cond.methodLink RX4 73 yX4_code, Cond.static yX4_code, Cond.code yX4_code cX4_code 2 (some .int), Cond.methodLink RX4 103 yX4_follows, Cond.instanceMethod yX4_follows, Cond.selects RX4 yX4_follows yX4_follows, Cond.code yX4_follows cX4_follows 2 (some .boolean), Cond.fieldLink RX4 20 "ElCompletionModel" "rounds" "[I", Cond.methodLink RX4 100 yX4_reckon, Cond.instanceMethod yX4_reckon, Cond.selects RX4 yX4_reckon yX4_reckon, Cond.code yX4_reckon cX4_reckon 4 none, Cond.fieldLink RX4 42 "ElCompletionModel" "known" "Z"]
def wsX4_same_r2 : List Cond := [Cond.fieldLink RX4 61 "ElCompletionModel" "count" "I", Cond.fieldLink RX4 16 "ElCompletionModel" "axioms" "[I", Cond.fieldLink RX4 64 "ElCompletionModel" "round" "I", Cond.fieldLink RX4 70 "ElCompletionModel" "made" "I", Cond.fieldLink RX4 97 "ElCompletionModel" "found" "I", Cond.fieldLink RX4 32 "ElCompletionModel" "row" "[I", Cond.methodLink RX4 89 yX4_start, Cond.instanceMethod yX4_start, Cond.selects RX4 yX4_start yX4_start, Cond.code yX4_start cX4_start 2 none, Cond.fieldLink RX4 23 "ElCompletionModel" "whys" "[I", Cond.fieldLink RX4 26 "ElCompletionModel" "firsts" "[I", Cond.fieldLink RX4 29 "ElCompletionModel" "seconds" "[I", Cond.methodLink RX4 81 yX4_linked, Cond.static yX4_linked, Cond.code yX4_linked cX4_linked 3 (some .int), Cond.methodLink RX4 93 yX4_one, Cond.instanceMethod yX4_one, Cond.selects RX4 yX4_one yX4_one, Cond.code yX4_one cX4_one 7 none, Cond.methodLink RX4 77 yX4_give, Cond.instanceMethod yX4_give, Cond.selects RX4 yX4_give yX4_give, Cond.code yX4_give cX4_give 7 none]
def wsX4_same_r3 : List Cond := [Cond.methodLink RX4 67 yX4_has, Cond.instanceMethod yX4_has, Cond.selects RX4 yX4_has yX4_has, Cond.code yX4_has cX4_has 2 (some .boolean), Cond.methodLink RX4 85 yX4_two, Cond.instanceMethod yX4_two, Cond.selects RX4 yX4_two yX4_two, Cond.code yX4_two cX4_two 9 none]
def wsX4_same : List Cond := .code yX4_same cX4_same 3 (some .int) :: ((wsX4_same_r1 ++ (wsX4_same_r2 ++ wsX4_same_r3)) ++ wsX40)
def wsX4_isAbove_r1 : List Cond := [Cond.methodLink RX4 73 yX4_code, Cond.static yX4_code, Cond.initialized RX4, Cond.code yX4_code cX4_code 2 (some .int), Cond.methodLink RX4 103 yX4_follows, Cond.instanceMethod yX4_follows, Cond.selects RX4 yX4_follows yX4_follows, Cond.code yX4_follows cX4_follows 2 (some .boolean), Cond.fieldLink RX4 20 "ElCompletionModel" "rounds" "[I", Cond.methodLink RX4 100 yX4_reckon, Cond.instanceMethod yX4_reckon, Cond.selects RX4 yX4_reckon yX4_reckon, Cond.code yX4_reckon cX4_reckon 4 none, Cond.fieldLink RX4 42 "ElCompletionModel" "known" "Z", Cond.fieldLink RX4 13 "ElCompletionModel" "classes" "I", Cond.fieldLink RX4 61 "ElCompletionModel" "count" "I", Cond.fieldLink RX4 16 "ElCompletionModel" "axioms" "[I", Cond.fieldLink RX4 64 "ElCompletionModel" "round" "I", Cond.fieldLink RX4 70 "ElCompletionModel" "made" "I", Cond.fieldLink RX4 97 "ElCompletionModel" "found" "I", Cond.fieldLink RX4 32 "ElCompletionModel" "row" "[I", Cond.methodLink RX4 89 yX4_start, Cond.instanceMethod yX4_start, Cond.selects RX4 yX4_start yX4_start]
def wsX4_isAbove_r2 : List Cond := [Cond.code yX4_start cX4_start 2 none, Cond.fieldLink RX4 23 "ElCompletionModel" "whys" "[I", Cond.fieldLink RX4 26 "ElCompletionModel" "firsts" "[I", Cond.fieldLink RX4 29 "ElCompletionModel" "seconds" "[I", Cond.methodLink RX4 81 yX4_linked, Cond.static yX4_linked, Cond.code yX4_linked cX4_linked 3 (some .int), Cond.methodLink RX4 93 yX4_one, Cond.instanceMethod yX4_one, Cond.selects RX4 yX4_one yX4_one, Cond.code yX4_one cX4_one 7 none, Cond.methodLink RX4 77 yX4_give, Cond.instanceMethod yX4_give, Cond.selects RX4 yX4_give yX4_give, Cond.code yX4_give cX4_give 7 none, Cond.methodLink RX4 67 yX4_has, Cond.instanceMethod yX4_has, Cond.selects RX4 yX4_has yX4_has, Cond.code yX4_has cX4_has 2 (some .boolean), Cond.methodLink RX4 85 yX4_two, Cond.instanceMethod yX4_two, Cond.selects RX4 yX4_two yX4_two, Cond.code yX4_two cX4_two 9 none, Cond.methodLink RX4 115 yX4_both]
def wsX4_isAbove_r3 : List Cond := [Cond.instanceMethod yX4_both, Cond.selects RX4 yX4_both yX4_both, Cond.code yX4_both cX4_both 3 (some .boolean)]
def wsX4_isAbove : List Cond := .code yX4_isAbove cX4_isAbove 3 (some .boolean) :: ((wsX4_isAbove_r1 ++ (wsX4_isAbove_r2 ++ wsX4_isAbove_r3)) ++ wsX40)
def wsX4_isParent_r1 : List Cond := [Cond.fieldLink RX4 13 "ElCompletionModel" "classes" "I", Cond.methodLink RX4 118 yX4_isAbove, Cond.instanceMethod yX4_isAbove, Cond.selects RX4 yX4_isAbove yX4_isAbove, Cond.initialized RX4, Cond.code yX4_isAbove cX4_isAbove 3 (some .boolean), Cond.methodLink RX4 73 yX4_code, Cond.static yX4_code, Cond.code yX4_code cX4_code 2 (some .int), Cond.methodLink RX4 103 yX4_follows, Cond.instanceMethod yX4_follows, Cond.selects RX4 yX4_follows yX4_follows, Cond.code yX4_follows cX4_follows 2 (some .boolean), Cond.fieldLink RX4 20 "ElCompletionModel" "rounds" "[I", Cond.methodLink RX4 100 yX4_reckon, Cond.instanceMethod yX4_reckon, Cond.selects RX4 yX4_reckon yX4_reckon, Cond.code yX4_reckon cX4_reckon 4 none, Cond.fieldLink RX4 42 "ElCompletionModel" "known" "Z", Cond.fieldLink RX4 61 "ElCompletionModel" "count" "I", Cond.fieldLink RX4 16 "ElCompletionModel" "axioms" "[I", Cond.fieldLink RX4 64 "ElCompletionModel" "round" "I", Cond.fieldLink RX4 70 "ElCompletionModel" "made" "I", Cond.fieldLink RX4 97 "ElCompletionModel" "found" "I"]
def wsX4_isParent_r2 : List Cond := [Cond.fieldLink RX4 32 "ElCompletionModel" "row" "[I", Cond.methodLink RX4 89 yX4_start, Cond.instanceMethod yX4_start, Cond.selects RX4 yX4_start yX4_start, Cond.code yX4_start cX4_start 2 none, Cond.fieldLink RX4 23 "ElCompletionModel" "whys" "[I", Cond.fieldLink RX4 26 "ElCompletionModel" "firsts" "[I", Cond.fieldLink RX4 29 "ElCompletionModel" "seconds" "[I", Cond.methodLink RX4 81 yX4_linked, Cond.static yX4_linked, Cond.code yX4_linked cX4_linked 3 (some .int), Cond.methodLink RX4 93 yX4_one, Cond.instanceMethod yX4_one, Cond.selects RX4 yX4_one yX4_one, Cond.code yX4_one cX4_one 7 none, Cond.methodLink RX4 77 yX4_give, Cond.instanceMethod yX4_give, Cond.selects RX4 yX4_give yX4_give, Cond.code yX4_give cX4_give 7 none, Cond.methodLink RX4 67 yX4_has, Cond.instanceMethod yX4_has, Cond.selects RX4 yX4_has yX4_has, Cond.code yX4_has cX4_has 2 (some .boolean), Cond.methodLink RX4 85 yX4_two]
def wsX4_isParent_r3 : List Cond := [Cond.instanceMethod yX4_two, Cond.selects RX4 yX4_two yX4_two, Cond.code yX4_two cX4_two 9 none, Cond.methodLink RX4 115 yX4_both, Cond.instanceMethod yX4_both, Cond.selects RX4 yX4_both yX4_both, Cond.code yX4_both cX4_both 3 (some .boolean), Cond.methodLink RX4 121 yX4_same, Cond.instanceMethod yX4_same, Cond.selects RX4 yX4_same yX4_same, Cond.code yX4_same cX4_same 3 (some .int), Cond.fieldLink RX4 1 "ElCompletionModel" "thrown" "I", Cond.methodLink RX4 46 yX4_isClass, Cond.instanceMethod yX4_isClass, Cond.selects RX4 yX4_isClass yX4_isClass, Cond.code yX4_isClass cX4_isClass 2 (some .boolean)]
def wsX4_isParent : List Cond := .code yX4_isParent cX4_isParent 4 (some .boolean) :: ((wsX4_isParent_r1 ++ (wsX4_isParent_r2 ++ wsX4_isParent_r3)) ++ wsX40)
def wsX4_parent_r1 : List Cond := [Cond.fieldLink RX4 1 "ElCompletionModel" "thrown" "I", Cond.fieldLink RX4 13 "ElCompletionModel" "classes" "I", Cond.methodLink RX4 46 yX4_isClass, Cond.instanceMethod yX4_isClass, Cond.selects RX4 yX4_isClass yX4_isClass, Cond.initialized RX4, Cond.code yX4_isClass cX4_isClass 2 (some .boolean), Cond.methodLink RX4 73 yX4_code, Cond.static yX4_code, Cond.code yX4_code cX4_code 2 (some .int), Cond.methodLink RX4 103 yX4_follows, Cond.instanceMethod yX4_follows, Cond.selects RX4 yX4_follows yX4_follows, Cond.code yX4_follows cX4_follows 2 (some .boolean), Cond.fieldLink RX4 20 "ElCompletionModel" "rounds" "[I", Cond.methodLink RX4 100 yX4_reckon, Cond.instanceMethod yX4_reckon, Cond.selects RX4 yX4_reckon yX4_reckon, Cond.code yX4_reckon cX4_reckon 4 none, Cond.fieldLink RX4 42 "ElCompletionModel" "known" "Z", Cond.fieldLink RX4 61 "ElCompletionModel" "count" "I", Cond.fieldLink RX4 16 "ElCompletionModel" "axioms" "[I", Cond.fieldLink RX4 64 "ElCompletionModel" "round" "I", Cond.fieldLink RX4 70 "ElCompletionModel" "made" "I"]
def wsX4_parent_r2 : List Cond := [Cond.fieldLink RX4 97 "ElCompletionModel" "found" "I", Cond.fieldLink RX4 32 "ElCompletionModel" "row" "[I", Cond.methodLink RX4 89 yX4_start, Cond.instanceMethod yX4_start, Cond.selects RX4 yX4_start yX4_start, Cond.code yX4_start cX4_start 2 none, Cond.fieldLink RX4 23 "ElCompletionModel" "whys" "[I", Cond.fieldLink RX4 26 "ElCompletionModel" "firsts" "[I", Cond.fieldLink RX4 29 "ElCompletionModel" "seconds" "[I", Cond.methodLink RX4 81 yX4_linked, Cond.static yX4_linked, Cond.code yX4_linked cX4_linked 3 (some .int), Cond.methodLink RX4 93 yX4_one, Cond.instanceMethod yX4_one, Cond.selects RX4 yX4_one yX4_one, Cond.code yX4_one cX4_one 7 none, Cond.methodLink RX4 77 yX4_give, Cond.instanceMethod yX4_give, Cond.selects RX4 yX4_give yX4_give, Cond.code yX4_give cX4_give 7 none, Cond.methodLink RX4 67 yX4_has, Cond.instanceMethod yX4_has, Cond.selects RX4 yX4_has yX4_has, Cond.code yX4_has cX4_has 2 (some .boolean)]
def wsX4_parent_r3 : List Cond := [Cond.methodLink RX4 85 yX4_two, Cond.instanceMethod yX4_two, Cond.selects RX4 yX4_two yX4_two, Cond.code yX4_two cX4_two 9 none, Cond.methodLink RX4 124 yX4_isParent, Cond.instanceMethod yX4_isParent, Cond.selects RX4 yX4_isParent yX4_isParent, Cond.code yX4_isParent cX4_isParent 4 (some .boolean), Cond.methodLink RX4 118 yX4_isAbove, Cond.instanceMethod yX4_isAbove, Cond.selects RX4 yX4_isAbove yX4_isAbove, Cond.code yX4_isAbove cX4_isAbove 3 (some .boolean), Cond.methodLink RX4 115 yX4_both, Cond.instanceMethod yX4_both, Cond.selects RX4 yX4_both yX4_both, Cond.code yX4_both cX4_both 3 (some .boolean), Cond.methodLink RX4 121 yX4_same, Cond.instanceMethod yX4_same, Cond.selects RX4 yX4_same yX4_same, Cond.code yX4_same cX4_same 3 (some .int)]
def wsX4_parent : List Cond := .code yX4_parent cX4_parent 5 (some .int) :: ((wsX4_parent_r1 ++ (wsX4_parent_r2 ++ wsX4_parent_r3)) ++ wsX40)
def wsJx00060_init_a7421 : List Cond := .code yJx00060_init_a7421 cJx00060_init_a7421 2 none :: ([])
def wsL_fact_r1 : List Cond := [Cond.methodLink RL 7 yX3_fact, Cond.instanceMethod yX3_fact, Cond.selects RX3 yX3_fact yX3_fact, Cond.initialized RX3, Cond.code yX3_fact cX3_fact 3 (some .int), Cond.classLink RX3 78 RJx00060, Cond.instantiable RJx00060 6, Cond.initialized RJx00060, Cond.methodLink RX3 57 yX3_closed, Cond.instanceMethod yX3_closed, Cond.selects RX3 yX3_closed yX3_closed, Cond.code yX3_closed cX3_closed 1 (some (.object "ElCompletion$Closure")), Cond.fieldLink RX3 34 "ElCompletion" "stale" "Z", Cond.fieldLink RX3 19 "ElCompletion" "closure" "LElCompletion$Closure;", Cond.fieldLink RX3 12 "ElCompletion" "axioms" "LElCompletion$Axioms;", Cond.fieldLink RX3 30 "ElCompletion" "classCount" "I", Cond.instanceMethod yX1_fill, Cond.initialized RX1, Cond.selects RX1 yX1_fill yX1_fill, Cond.code yX1_fill cX1_fill 5 none, Cond.fieldLink RX1 35 "ElCompletion$Closure" "gainers" "I", Cond.fieldLink RX1 15 "ElCompletion$Closure" "now" "[I", Cond.fieldLink RX1 9 "ElCompletion$Closure" "before" "[I", Cond.methodLink RX1 49 arraycopyName]
def wsL_fact_r2 : List Cond := [Cond.native arraycopyName, Cond.static arraycopyName, Cond.initialized "java/lang/System", Cond.methodLink RX1 38 yX1_clear, Cond.instanceMethod yX1_clear, Cond.selects RX1 yX1_clear yX1_clear, Cond.code yX1_clear cX1_clear 2 none, Cond.fieldLink RX1 18 "ElCompletion$Closure" "grounds" "[J", Cond.constantLong RX1 74 (-1), Cond.fieldLink RX1 25 "ElCompletion$Closure" "classCount" "I", Cond.fieldLink RX1 29 "ElCompletion$Closure" "factCount" "I", Cond.fieldLink RX1 32 "ElCompletion$Closure" "roundCount" "I", Cond.methodLink RX1 68 yJ7_fill_53178, Cond.static yJ7_fill_53178, Cond.initialized RJ7, Cond.code yJ7_fill_53178 cJ7_fill_53178 4 none, Cond.methodLink RX1 76 yJ7_fill_d0a16, Cond.static yJ7_fill_d0a16, Cond.code yJ7_fill_d0a16 cJ7_fill_d0a16 5 none, Cond.methodLink RX1 42 yX1_giveAtFirst, Cond.instanceMethod yX1_giveAtFirst, Cond.selects RX1 yX1_giveAtFirst yX1_giveAtFirst, Cond.code yX1_giveAtFirst cX1_giveAtFirst 3 none, Cond.methodLink RX1 79 yX1_give]
def wsL_fact_r3 : List Cond := [Cond.instanceMethod yX1_give, Cond.selects RX1 yX1_give yX1_give, Cond.code yX1_give cX1_give 9 none, Cond.static yX3_isIn, Cond.code yX3_isIn cX3_isIn 2 (some .boolean), Cond.static yX3_codeOf, Cond.code yX3_codeOf cX3_codeOf 2 (some .int), Cond.methodLink RX1 89 yX1_giveOfItself, Cond.instanceMethod yX1_giveOfItself, Cond.selects RX1 yX1_giveOfItself yX1_giveOfItself, Cond.code yX1_giveOfItself cX1_giveOfItself 3 none, Cond.static yX3_linkColumn, Cond.code yX3_linkColumn cX3_linkColumn 2 (some .int), Cond.methodLink RX1 46 yX1_endRound, Cond.instanceMethod yX1_endRound, Cond.selects RX1 yX1_endRound yX1_endRound, Cond.code yX1_endRound cX1_endRound 1 none, Cond.methodLink RX1 119 yX1_listColumns, Cond.instanceMethod yX1_listColumns, Cond.selects RX1 yX1_listColumns yX1_listColumns, Cond.code yX1_listColumns cX1_listColumns 4 none, Cond.methodLink RX1 123 yX1_listFactsOf, Cond.instanceMethod yX1_listFactsOf, Cond.selects RX1 yX1_listFactsOf yX1_listFactsOf]
def wsL_fact_r4 : List Cond := [Cond.code yX1_listFactsOf cX1_listFactsOf 5 none, Cond.fieldLink RX1 22 "ElCompletion$Closure" "order" "[I", Cond.methodLink RX1 60 yX1_giveByAxiom, Cond.instanceMethod yX1_giveByAxiom, Cond.selects RX1 yX1_giveByAxiom yX1_giveByAxiom, Cond.code yX1_giveByAxiom cX1_giveByAxiom 6 none, Cond.methodLink RX1 102 yX1_giveToBoth, Cond.instanceMethod yX1_giveToBoth, Cond.selects RX1 yX1_giveToBoth yX1_giveToBoth, Cond.code yX1_giveToBoth cX1_giveToBoth 7 none, Cond.methodLink RX1 64 yX1_giveToWhatHas, Cond.instanceMethod yX1_giveToWhatHas, Cond.selects RX1 yX1_giveToWhatHas yX1_giveToWhatHas, Cond.code yX1_giveToWhatHas cX1_giveToWhatHas 8 none, Cond.methodLink RX1 105 yX1_giveRole, Cond.instanceMethod yX1_giveRole, Cond.selects RX1 yX1_giveRole yX1_giveRole, Cond.code yX1_giveRole cX1_giveRole 6 none, Cond.methodLink RX1 109 yX1_giveChain, Cond.instanceMethod yX1_giveChain, Cond.selects RX1 yX1_giveChain yX1_giveChain, Cond.code yX1_giveChain cX1_giveChain 10 none]
def wsL_fact : List Cond := .codeWith yL_fact cL_fact 4 (some .int) [(0, 9, 12, 13)] :: ((wsL_fact_r1 ++ (wsL_fact_r2 ++ (wsL_fact_r3 ++ wsL_fact_r4))) ++ wsX10 ++ wsJx000600 ++ wsX30 ++ wsX00)
def wsL_law_r1 : List Cond := [Cond.classLink RL 8 RX3, Cond.instantiable RX3 5, Cond.initialized RX3, Cond.classLink RL 16 RX4, Cond.instantiable RX4 16, Cond.initialized RX4, Cond.arrayClass .long, Cond.methodLink RL 15 yX3_init, Cond.instanceMethod yX3_init, Cond.code yX3_init cX3_init 1 none, Cond.methodLink RX3 3 objectInit, Cond.instanceMethod objectInit, Cond.code objectInit ⟨#[0xb1]⟩ 1 none, Cond.classLink RX3 9 RX0, Cond.instantiable RX0 5, Cond.initialized RX0, Cond.fieldLink RX3 12 "ElCompletion" "axioms" "LElCompletion$Axioms;", Cond.classLink RX3 16 RX1, Cond.instantiable RX1 8, Cond.initialized RX1, Cond.fieldLink RX3 19 "ElCompletion" "closure" "LElCompletion$Closure;", Cond.classLink RX3 23 RX2, Cond.instantiable RX2 3, Cond.initialized RX2]
def wsL_law_r2 : List Cond := [Cond.fieldLink RX3 26 "ElCompletion" "proof" "LElCompletion$Proof;", Cond.fieldLink RX3 30 "ElCompletion" "classCount" "I", Cond.fieldLink RX3 34 "ElCompletion" "stale" "Z", Cond.instanceMethod yX0_init, Cond.code yX0_init cX0_init 1 none, Cond.methodLink RX0 3 objectInit, Cond.arrayClass .int, Cond.fieldLink RX0 9 "ElCompletion$Axioms" "kind" "[I", Cond.fieldLink RX0 15 "ElCompletion$Axioms" "a" "[I", Cond.fieldLink RX0 18 "ElCompletion$Axioms" "b" "[I", Cond.fieldLink RX0 21 "ElCompletion$Axioms" "c" "[I", Cond.fieldLink RX0 24 "ElCompletion$Axioms" "count" "I", Cond.instanceMethod yX1_init, Cond.code yX1_init cX1_init 1 none, Cond.methodLink RX1 3 objectInit, Cond.fieldLink RX1 9 "ElCompletion$Closure" "before" "[I", Cond.fieldLink RX1 15 "ElCompletion$Closure" "now" "[I", Cond.fieldLink RX1 18 "ElCompletion$Closure" "grounds" "[J", Cond.fieldLink RX1 22 "ElCompletion$Closure" "order" "[I", Cond.fieldLink RX1 25 "ElCompletion$Closure" "classCount" "I", Cond.fieldLink RX1 29 "ElCompletion$Closure" "factCount" "I", Cond.fieldLink RX1 32 "ElCompletion$Closure" "roundCount" "I", Cond.fieldLink RX1 35 "ElCompletion$Closure" "gainers" "I", Cond.instanceMethod yX2_init]
def wsL_law_r3 : List Cond := [Cond.code yX2_init cX2_init 1 none, Cond.methodLink RX2 3 objectInit, Cond.fieldLink RX2 9 "ElCompletion$Proof" "rows" "[I", Cond.fieldLink RX2 15 "ElCompletion$Proof" "needed" "[J", Cond.fieldLink RX2 19 "ElCompletion$Proof" "count" "I", Cond.methodLink RL 18 yX4_init, Cond.instanceMethod yX4_init, Cond.code yX4_init cX4_init 1 none, Cond.methodLink RX4 7 objectInit, Cond.fieldLink RX4 13 "ElCompletionModel" "classes" "I", Cond.fieldLink RX4 16 "ElCompletionModel" "axioms" "[I", Cond.fieldLink RX4 20 "ElCompletionModel" "rounds" "[I", Cond.fieldLink RX4 23 "ElCompletionModel" "whys" "[I", Cond.fieldLink RX4 26 "ElCompletionModel" "firsts" "[I", Cond.fieldLink RX4 29 "ElCompletionModel" "seconds" "[I", Cond.fieldLink RX4 32 "ElCompletionModel" "row" "[I", Cond.fieldLink RX4 35 "ElCompletionModel" "proof" "[I", Cond.arrayClass .boolean, Cond.fieldLink RX4 38 "ElCompletionModel" "wanted" "[Z", Cond.methodLink RL 19 yX3_grow, Cond.instanceMethod yX3_grow, Cond.selects RX3 yX3_grow yX3_grow, Cond.code yX3_grow cX3_grow 1 (some .int), Cond.methodLink RL 23 yX4_grow]
def wsL_law_r4 : List Cond := [Cond.instanceMethod yX4_grow, Cond.selects RX4 yX4_grow yX4_grow, Cond.code yX4_grow cX4_grow 1 (some .int), Cond.fieldLink RX4 1 "ElCompletionModel" "thrown" "I", Cond.fieldLink RX4 42 "ElCompletionModel" "known" "Z", Cond.methodLink RL 24 yX3_axiom, Cond.instanceMethod yX3_axiom, Cond.selects RX3 yX3_axiom yX3_axiom, Cond.code yX3_axiom cX3_axiom 5 (some .int), Cond.methodLink RX3 38 yX3_isAxiom, Cond.instanceMethod yX3_isAxiom, Cond.selects RX3 yX3_isAxiom yX3_isAxiom, Cond.code yX3_isAxiom cX3_isAxiom 5 (some .boolean), Cond.methodLink RX3 53 yX3_isClass, Cond.instanceMethod yX3_isClass, Cond.selects RX3 yX3_isClass yX3_isClass, Cond.code yX3_isClass cX3_isClass 2 (some .boolean), Cond.methodLink RX3 65 yX3_isRole, Cond.static yX3_isRole, Cond.code yX3_isRole cX3_isRole 1 (some .boolean), Cond.instanceMethod yX0_append, Cond.selects RX0 yX0_append yX0_append, Cond.code yX0_append cX0_append 5 (some .int), Cond.methodLink RL 28 yX4_axiom]
def wsL_law_r5 : List Cond := [Cond.instanceMethod yX4_axiom, Cond.selects RX4 yX4_axiom yX4_axiom, Cond.code yX4_axiom cX4_axiom 6 (some .int), Cond.fieldLink RX4 61 "ElCompletionModel" "count" "I", Cond.methodLink RX4 53 yX4_wants, Cond.static yX4_wants, Cond.code yX4_wants cX4_wants 1 (some .int), Cond.methodLink RX4 57 yX4_fits, Cond.instanceMethod yX4_fits, Cond.selects RX4 yX4_fits yX4_fits, Cond.code yX4_fits cX4_fits 3 (some .boolean), Cond.methodLink RX4 46 yX4_isClass, Cond.instanceMethod yX4_isClass, Cond.selects RX4 yX4_isClass yX4_isClass, Cond.code yX4_isClass cX4_isClass 2 (some .boolean), Cond.methodLink RX4 50 yX4_isRole, Cond.static yX4_isRole, Cond.code yX4_isRole cX4_isRole 1 (some .boolean), Cond.methodLink RL 29 yX3_drop, Cond.instanceMethod yX3_drop, Cond.selects RX3 yX3_drop yX3_drop, Cond.code yX3_drop cX3_drop 2 (some .int), Cond.instanceMethod yX0_remove, Cond.selects RX0 yX0_remove yX0_remove]
def wsL_law_r6 : List Cond := [Cond.code yX0_remove cX0_remove 2 (some .int), Cond.methodLink RX0 28 yX0_closeGap, Cond.instanceMethod yX0_closeGap, Cond.selects RX0 yX0_closeGap yX0_closeGap, Cond.code yX0_closeGap cX0_closeGap 3 none, Cond.methodLink RX0 32 arraycopyName, Cond.native arraycopyName, Cond.static arraycopyName, Cond.initialized "java/lang/System", Cond.methodLink RL 32 yX4_drop, Cond.instanceMethod yX4_drop, Cond.selects RX4 yX4_drop yX4_drop, Cond.code yX4_drop cX4_drop 3 (some .int), Cond.methodLink RL 33 yX3_sub, Cond.instanceMethod yX3_sub, Cond.selects RX3 yX3_sub yX3_sub, Cond.code yX3_sub cX3_sub 3 (some .int), Cond.methodLink RX3 57 yX3_closed, Cond.instanceMethod yX3_closed, Cond.selects RX3 yX3_closed yX3_closed, Cond.code yX3_closed cX3_closed 1 (some (.object "ElCompletion$Closure")), Cond.instanceMethod yX1_fill, Cond.selects RX1 yX1_fill yX1_fill, Cond.code yX1_fill cX1_fill 5 none]
def wsL_law_r7 : List Cond := [Cond.methodLink RX1 49 arraycopyName, Cond.methodLink RX1 38 yX1_clear, Cond.instanceMethod yX1_clear, Cond.selects RX1 yX1_clear yX1_clear, Cond.code yX1_clear cX1_clear 2 none, Cond.constantLong RX1 74 (-1), Cond.methodLink RX1 68 yJ7_fill_53178, Cond.static yJ7_fill_53178, Cond.initialized RJ7, Cond.code yJ7_fill_53178 cJ7_fill_53178 4 none, Cond.methodLink RX1 76 yJ7_fill_d0a16, Cond.static yJ7_fill_d0a16, Cond.code yJ7_fill_d0a16 cJ7_fill_d0a16 5 none, Cond.methodLink RX1 42 yX1_giveAtFirst, Cond.instanceMethod yX1_giveAtFirst, Cond.selects RX1 yX1_giveAtFirst yX1_giveAtFirst, Cond.code yX1_giveAtFirst cX1_giveAtFirst 3 none, Cond.methodLink RX1 79 yX1_give, Cond.instanceMethod yX1_give, Cond.selects RX1 yX1_give yX1_give, Cond.code yX1_give cX1_give 9 none, Cond.static yX3_isIn, Cond.code yX3_isIn cX3_isIn 2 (some .boolean), Cond.static yX3_codeOf]
def wsL_law_r8 : List Cond := [Cond.code yX3_codeOf cX3_codeOf 2 (some .int), Cond.methodLink RX1 89 yX1_giveOfItself, Cond.instanceMethod yX1_giveOfItself, Cond.selects RX1 yX1_giveOfItself yX1_giveOfItself, Cond.code yX1_giveOfItself cX1_giveOfItself 3 none, Cond.static yX3_linkColumn, Cond.code yX3_linkColumn cX3_linkColumn 2 (some .int), Cond.methodLink RX1 46 yX1_endRound, Cond.instanceMethod yX1_endRound, Cond.selects RX1 yX1_endRound yX1_endRound, Cond.code yX1_endRound cX1_endRound 1 none, Cond.methodLink RX1 119 yX1_listColumns, Cond.instanceMethod yX1_listColumns, Cond.selects RX1 yX1_listColumns yX1_listColumns, Cond.code yX1_listColumns cX1_listColumns 4 none, Cond.methodLink RX1 123 yX1_listFactsOf, Cond.instanceMethod yX1_listFactsOf, Cond.selects RX1 yX1_listFactsOf yX1_listFactsOf, Cond.code yX1_listFactsOf cX1_listFactsOf 5 none, Cond.methodLink RX1 60 yX1_giveByAxiom, Cond.instanceMethod yX1_giveByAxiom, Cond.selects RX1 yX1_giveByAxiom yX1_giveByAxiom, Cond.code yX1_giveByAxiom cX1_giveByAxiom 6 none, Cond.methodLink RX1 102 yX1_giveToBoth]
def wsL_law_r9 : List Cond := [Cond.instanceMethod yX1_giveToBoth, Cond.selects RX1 yX1_giveToBoth yX1_giveToBoth, Cond.code yX1_giveToBoth cX1_giveToBoth 7 none, Cond.methodLink RX1 64 yX1_giveToWhatHas, Cond.instanceMethod yX1_giveToWhatHas, Cond.selects RX1 yX1_giveToWhatHas yX1_giveToWhatHas, Cond.code yX1_giveToWhatHas cX1_giveToWhatHas 8 none, Cond.methodLink RX1 105 yX1_giveRole, Cond.instanceMethod yX1_giveRole, Cond.selects RX1 yX1_giveRole yX1_giveRole, Cond.code yX1_giveRole cX1_giveRole 6 none, Cond.methodLink RX1 109 yX1_giveChain, Cond.instanceMethod yX1_giveChain, Cond.selects RX1 yX1_giveChain yX1_giveChain, Cond.code yX1_giveChain cX1_giveChain 10 none, Cond.instanceMethod yX1_has, Cond.selects RX1 yX1_has yX1_has, Cond.code yX1_has cX1_has 3 (some .boolean), Cond.methodLink RL 37 yX4_sub, Cond.instanceMethod yX4_sub, Cond.selects RX4 yX4_sub yX4_sub, Cond.code yX4_sub cX4_sub 3 (some .int), Cond.methodLink RX4 73 yX4_code, Cond.static yX4_code]
def wsL_law_r10 : List Cond := [Cond.code yX4_code cX4_code 2 (some .int), Cond.methodLink RX4 103 yX4_follows, Cond.instanceMethod yX4_follows, Cond.selects RX4 yX4_follows yX4_follows, Cond.code yX4_follows cX4_follows 2 (some .boolean), Cond.methodLink RX4 100 yX4_reckon, Cond.instanceMethod yX4_reckon, Cond.selects RX4 yX4_reckon yX4_reckon, Cond.code yX4_reckon cX4_reckon 4 none, Cond.fieldLink RX4 64 "ElCompletionModel" "round" "I", Cond.fieldLink RX4 70 "ElCompletionModel" "made" "I", Cond.fieldLink RX4 97 "ElCompletionModel" "found" "I", Cond.methodLink RX4 89 yX4_start, Cond.instanceMethod yX4_start, Cond.selects RX4 yX4_start yX4_start, Cond.code yX4_start cX4_start 2 none, Cond.methodLink RX4 81 yX4_linked, Cond.static yX4_linked, Cond.code yX4_linked cX4_linked 3 (some .int), Cond.methodLink RX4 93 yX4_one, Cond.instanceMethod yX4_one, Cond.selects RX4 yX4_one yX4_one, Cond.code yX4_one cX4_one 7 none, Cond.methodLink RX4 77 yX4_give]
def wsL_law_r11 : List Cond := [Cond.instanceMethod yX4_give, Cond.selects RX4 yX4_give yX4_give, Cond.code yX4_give cX4_give 7 none, Cond.methodLink RX4 67 yX4_has, Cond.instanceMethod yX4_has, Cond.selects RX4 yX4_has yX4_has, Cond.code yX4_has cX4_has 2 (some .boolean), Cond.methodLink RX4 85 yX4_two, Cond.instanceMethod yX4_two, Cond.selects RX4 yX4_two yX4_two, Cond.code yX4_two cX4_two 9 none, Cond.methodLink RL 38 yX3_link, Cond.instanceMethod yX3_link, Cond.selects RX3 yX3_link yX3_link, Cond.code yX3_link cX3_link 4 (some .int), Cond.methodLink RX3 68 yX3_linkColumn, Cond.methodLink RL 42 yX4_link, Cond.instanceMethod yX4_link, Cond.selects RX4 yX4_link yX4_link, Cond.code yX4_link cX4_link 4 (some .int), Cond.methodLink RL 43 yX3_rounds, Cond.instanceMethod yX3_rounds, Cond.selects RX3 yX3_rounds yX3_rounds, Cond.code yX3_rounds cX3_rounds 1 (some .int)]
def wsL_law_r12 : List Cond := [Cond.methodLink RL 46 yX4_rounds, Cond.instanceMethod yX4_rounds, Cond.selects RX4 yX4_rounds yX4_rounds, Cond.code yX4_rounds cX4_rounds 1 (some .int), Cond.methodLink RL 47 yX3_facts, Cond.instanceMethod yX3_facts, Cond.selects RX3 yX3_facts yX3_facts, Cond.code yX3_facts cX3_facts 1 (some .int), Cond.methodLink RL 50 yX4_facts, Cond.instanceMethod yX4_facts, Cond.selects RX4 yX4_facts yX4_facts, Cond.code yX4_facts cX4_facts 1 (some .int), Cond.methodLink RL 51 yL_fact, Cond.static yL_fact, Cond.initialized RL, Cond.codeWith yL_fact cL_fact 4 (some .int) [(0, 9, 12, 13)], Cond.methodLink RL 7 yX3_fact, Cond.instanceMethod yX3_fact, Cond.selects RX3 yX3_fact yX3_fact, Cond.code yX3_fact cX3_fact 3 (some .int), Cond.classLink RX3 78 RJx00060, Cond.instantiable RJx00060 6, Cond.initialized RJx00060, Cond.methodLink RL 56 yX4_fact]
def wsL_law_r13 : List Cond := [Cond.instanceMethod yX4_fact, Cond.selects RX4 yX4_fact yX4_fact, Cond.code yX4_fact cX4_fact 2 (some .int), Cond.methodLink RL 57 yX4_thrown, Cond.instanceMethod yX4_thrown, Cond.selects RX4 yX4_thrown yX4_thrown, Cond.code yX4_thrown cX4_thrown 1 (some .int), Cond.methodLink RL 60 yX3_told, Cond.instanceMethod yX3_told, Cond.selects RX3 yX3_told yX3_told, Cond.code yX3_told cX3_told 4 (some .int), Cond.instanceMethod yX1_follows, Cond.selects RX1 yX1_follows yX1_follows, Cond.code yX1_follows cX1_follows 2 (some .boolean), Cond.instanceMethod yX1_roundOf, Cond.selects RX1 yX1_roundOf yX1_roundOf, Cond.code yX1_roundOf cX1_roundOf 2 (some .int), Cond.instanceMethod yX1_axiomOf, Cond.selects RX1 yX1_axiomOf yX1_axiomOf, Cond.code yX1_axiomOf cX1_axiomOf 3 (some .int), Cond.instanceMethod yX1_firstPremiseOf, Cond.selects RX1 yX1_firstPremiseOf yX1_firstPremiseOf, Cond.code yX1_firstPremiseOf cX1_firstPremiseOf 3 (some .int), Cond.instanceMethod yX1_secondPremiseOf]
def wsL_law_r14 : List Cond := [Cond.selects RX1 yX1_secondPremiseOf yX1_secondPremiseOf, Cond.code yX1_secondPremiseOf cX1_secondPremiseOf 3 (some .int), Cond.methodLink RL 63 yX4_told, Cond.instanceMethod yX4_told, Cond.selects RX4 yX4_told yX4_told, Cond.code yX4_told cX4_told 3 (some .int), Cond.methodLink RL 64 yX3_trace, Cond.instanceMethod yX3_trace, Cond.selects RX3 yX3_trace yX3_trace, Cond.code yX3_trace cX3_trace 2 (some .int), Cond.instanceMethod yX2_take, Cond.selects RX2 yX2_take yX2_take, Cond.code yX2_take cX2_take 4 none, Cond.methodLink RX2 29 yJ7_fill_d0a16, Cond.methodLink RX2 35 yX2_need, Cond.instanceMethod yX2_need, Cond.selects RX2 yX2_need yX2_need, Cond.code yX2_need cX2_need 2 none, Cond.methodLink RX2 45 yX2_isNeeded, Cond.instanceMethod yX2_isNeeded, Cond.selects RX2 yX2_isNeeded yX2_isNeeded, Cond.code yX2_isNeeded cX2_isNeeded 2 (some .boolean), Cond.methodLink RL 67 yX4_trace, Cond.instanceMethod yX4_trace]
def wsL_law_r15 : List Cond := [Cond.selects RX4 yX4_trace yX4_trace, Cond.code yX4_trace cX4_trace 4 (some .int), Cond.fieldLink RX4 106 "ElCompletionModel" "proofSize" "I", Cond.methodLink RX4 109 yX4_want, Cond.instanceMethod yX4_want, Cond.selects RX4 yX4_want yX4_want, Cond.code yX4_want cX4_want 2 (some .boolean), Cond.methodLink RL 68 yX3_row, Cond.instanceMethod yX3_row, Cond.selects RX3 yX3_row yX3_row, Cond.code yX3_row cX3_row 2 (some .int), Cond.methodLink RL 71 yX4_row, Cond.instanceMethod yX4_row, Cond.selects RX4 yX4_row yX4_row, Cond.code yX4_row cX4_row 2 (some .int), Cond.methodLink RL 72 yX3_empty, Cond.instanceMethod yX3_empty, Cond.selects RX3 yX3_empty yX3_empty, Cond.code yX3_empty cX3_empty 2 (some .int), Cond.methodLink RX3 112 yX3_sub, Cond.methodLink RL 75 yX4_empty, Cond.instanceMethod yX4_empty, Cond.selects RX4 yX4_empty yX4_empty, Cond.code yX4_empty cX4_empty 2 (some .int)]
def wsL_law_r16 : List Cond := [Cond.methodLink RX4 112 yX4_sub, Cond.methodLink RL 76 yX3_same, Cond.instanceMethod yX3_same, Cond.selects RX3 yX3_same yX3_same, Cond.code yX3_same cX3_same 2 (some .int), Cond.instanceMethod yX1_leastSame, Cond.selects RX1 yX1_leastSame yX1_leastSame, Cond.code yX1_leastSame cX1_leastSame 3 (some .int), Cond.methodLink RX1 129 yX1_areSame, Cond.instanceMethod yX1_areSame, Cond.selects RX1 yX1_areSame yX1_areSame, Cond.code yX1_areSame cX1_areSame 3 (some .boolean), Cond.methodLink RX1 126 yX1_has, Cond.methodLink RL 79 yX4_same, Cond.instanceMethod yX4_same, Cond.selects RX4 yX4_same yX4_same, Cond.code yX4_same cX4_same 3 (some .int), Cond.methodLink RX4 115 yX4_both, Cond.instanceMethod yX4_both, Cond.selects RX4 yX4_both yX4_both, Cond.code yX4_both cX4_both 3 (some .boolean), Cond.methodLink RL 80 yX3_parent, Cond.instanceMethod yX3_parent, Cond.selects RX3 yX3_parent yX3_parent]
def wsL_law_r17 : List Cond := [Cond.code yX3_parent cX3_parent 3 (some .int), Cond.instanceMethod yX1_parentOf, Cond.selects RX1 yX1_parentOf yX1_parentOf, Cond.code yX1_parentOf cX1_parentOf 5 (some .int), Cond.methodLink RX1 132 yX1_isParent, Cond.instanceMethod yX1_isParent, Cond.selects RX1 yX1_isParent yX1_isParent, Cond.code yX1_isParent cX1_isParent 4 (some .boolean), Cond.methodLink RX1 135 yX1_leastSame, Cond.methodLink RL 83 yX4_parent, Cond.instanceMethod yX4_parent, Cond.selects RX4 yX4_parent yX4_parent, Cond.code yX4_parent cX4_parent 5 (some .int), Cond.methodLink RX4 124 yX4_isParent, Cond.instanceMethod yX4_isParent, Cond.selects RX4 yX4_isParent yX4_isParent, Cond.code yX4_isParent cX4_isParent 4 (some .boolean), Cond.methodLink RX4 118 yX4_isAbove, Cond.instanceMethod yX4_isAbove, Cond.selects RX4 yX4_isAbove yX4_isAbove, Cond.code yX4_isAbove cX4_isAbove 3 (some .boolean), Cond.methodLink RX4 121 yX4_same]
def wsL_law : List Cond := (wsL_law_r1 ++ (wsL_law_r2 ++ (wsL_law_r3 ++ (wsL_law_r4 ++ (wsL_law_r5 ++ (wsL_law_r6 ++ (wsL_law_r7 ++ (wsL_law_r8 ++ (wsL_law_r9 ++ (wsL_law_r10 ++ (wsL_law_r11 ++ (wsL_law_r12 ++ (wsL_law_r13 ++ (wsL_law_r14 ++ (wsL_law_r15 ++ (wsL_law_r16 ++ wsL_law_r17)))))))))))))))) ++ wsX30 ++ wsX40 ++ wsX00 ++ wsX10 ++ wsX20 ++ wsJx000600 ++ ([] : List Cond)
set_option maxRecDepth 20000 in
theorem wsL_law_in : ∀ w ∈ wsL_law, w ∈ lw_tbl := fun w h => (goodIn_p wsL_law [63, 66, 71, 100, 137, 465, 170, 520, 174, 178, 182, 185, 189, 524, 527, 531, 535, 538, 193, 197, 201, 542, 208, 212, 216, 220, 223, 227, 231, 235, 238, 241, 245, 248, 252, 256, 260, 265, 269, 273, 277, 281, 285, 546, 549, 553, 557, 561, 564, 568, 572, 576, 580, 289, 584, 294, 588, 298, 592, 385, 596, 460, 302, 306, 310, 314, 318, 322, 600, 326, 330, 336, 340, 604, 608, 346, 612, 350, 616, 355, 359, 363, 621, 625, 368, 372, 376, 629, 633, 637] (by decide +kernel) (by decide +kernel) w h).1
theorem inlX0 : ∀ w ∈ wsX00, w ∈ wsL_law := fun _ h => List.mem_append_left _ (List.mem_append_left _ (List.mem_append_left _ (List.mem_append_left _ (List.mem_append_right _ h))))
theorem inX0 : ∀ w ∈ wsX00, w ∈ lw_tbl := fun w h => wsL_law_in w (inlX0 w h)
theorem inlX1 : ∀ w ∈ wsX10, w ∈ wsL_law := fun _ h => List.mem_append_left _ (List.mem_append_left _ (List.mem_append_left _ (List.mem_append_right _ h)))
theorem inX1 : ∀ w ∈ wsX10, w ∈ lw_tbl := fun w h => wsL_law_in w (inlX1 w h)
theorem inlX2 : ∀ w ∈ wsX20, w ∈ wsL_law := fun _ h => List.mem_append_left _ (List.mem_append_left _ (List.mem_append_right _ h))
theorem inX2 : ∀ w ∈ wsX20, w ∈ lw_tbl := fun w h => wsL_law_in w (inlX2 w h)
theorem inlX3 : ∀ w ∈ wsX30, w ∈ wsL_law := fun _ h => List.mem_append_left _ (List.mem_append_left _ (List.mem_append_left _ (List.mem_append_left _ (List.mem_append_left _ (List.mem_append_left _ (List.mem_append_right _ h))))))
theorem inX3 : ∀ w ∈ wsX30, w ∈ lw_tbl := fun w h => wsL_law_in w (inlX3 w h)
theorem inlX4 : ∀ w ∈ wsX40, w ∈ wsL_law := fun _ h => List.mem_append_left _ (List.mem_append_left _ (List.mem_append_left _ (List.mem_append_left _ (List.mem_append_left _ (List.mem_append_right _ h)))))
theorem inX4 : ∀ w ∈ wsX40, w ∈ lw_tbl := fun w h => wsL_law_in w (inlX4 w h)
theorem inlJx00060 : ∀ w ∈ wsJx000600, w ∈ wsL_law := fun _ h => List.mem_append_left _ (List.mem_append_right _ h)
theorem inJx00060 : ∀ w ∈ wsJx000600, w ∈ lw_tbl := fun w h => wsL_law_in w (inlJx00060 w h)
theorem inJ0 : ∀ w ∈ wsJ00, w ∈ lw_tbl := by decide +kernel
theorem inJ10 : ∀ w ∈ wsJ100, w ∈ lw_tbl := by decide +kernel
theorem inJ7 : ∀ w ∈ wsJ70, w ∈ lw_tbl := by decide +kernel
abbrev vwCl : List vw_C := [(RJx00060, TJx00060, 6), (RX0, TX0, 5), (RX1, TX1, 8), (RX2, TX2, 3), (RX3, TX3, 5), (RX4, TX4, 16)]
end
section
theorem dX0_init_0 : decode cX0_init 0 = .ok (.aload_n 0, 1) := by decide +kernel
theorem dX0_init_1 : decode cX0_init 1 = .ok (.invokespecial 3, 3) := by decide +kernel
theorem dX0_init_4 : decode cX0_init 4 = .ok (.aload_n 0, 1) := by decide +kernel
theorem dX0_init_5 : decode cX0_init 5 = .ok (.bipush 80, 2) := by decide +kernel
theorem dX0_init_7 : decode cX0_init 7 = .ok (.newarray .int, 2) := by decide +kernel
theorem dX0_init_9 : decode cX0_init 9 = .ok (.putfield 9, 3) := by decide +kernel
theorem dX0_init_12 : decode cX0_init 12 = .ok (.aload_n 0, 1) := by decide +kernel
theorem dX0_init_13 : decode cX0_init 13 = .ok (.bipush 80, 2) := by decide +kernel
theorem dX0_init_15 : decode cX0_init 15 = .ok (.newarray .int, 2) := by decide +kernel
theorem dX0_init_17 : decode cX0_init 17 = .ok (.putfield 15, 3) := by decide +kernel
theorem dX0_init_20 : decode cX0_init 20 = .ok (.aload_n 0, 1) := by decide +kernel
theorem dX0_init_21 : decode cX0_init 21 = .ok (.bipush 80, 2) := by decide +kernel
theorem dX0_init_23 : decode cX0_init 23 = .ok (.newarray .int, 2) := by decide +kernel
theorem dX0_init_25 : decode cX0_init 25 = .ok (.putfield 18, 3) := by decide +kernel
theorem dX0_init_28 : decode cX0_init 28 = .ok (.aload_n 0, 1) := by decide +kernel
theorem dX0_init_29 : decode cX0_init 29 = .ok (.bipush 80, 2) := by decide +kernel
theorem dX0_init_31 : decode cX0_init 31 = .ok (.newarray .int, 2) := by decide +kernel
theorem dX0_init_33 : decode cX0_init 33 = .ok (.putfield 21, 3) := by decide +kernel
theorem dX0_init_36 : decode cX0_init 36 = .ok (.aload_n 0, 1) := by decide +kernel
theorem dX0_init_37 : decode cX0_init 37 = .ok (.iconst 0, 1) := by decide +kernel
theorem dX0_init_38 : decode cX0_init 38 = .ok (.putfield 24, 3) := by decide +kernel
theorem dX0_init_41 : decode cX0_init 41 = .ok (.return_, 1) := by decide +kernel
theorem dX0_append_0 : decode cX0_append 0 = .ok (.aload_n 0, 1) := by decide +kernel
theorem dX0_append_1 : decode cX0_append 1 = .ok (.getfield 24, 3) := by decide +kernel
theorem dX0_append_4 : decode cX0_append 4 = .ok (.bipush 80, 2) := by decide +kernel
theorem dX0_append_6 : decode cX0_append 6 = .ok (.if_icmp .lt 6, 3) := by decide +kernel
theorem dX0_append_9 : decode cX0_append 9 = .ok (.bipush (-2), 2) := by decide +kernel
theorem dX0_append_11 : decode cX0_append 11 = .ok (.ireturn, 1) := by decide +kernel
theorem dX0_append_12 : decode cX0_append 12 = .ok (.aload_n 0, 1) := by decide +kernel
theorem dX0_append_13 : decode cX0_append 13 = .ok (.getfield 9, 3) := by decide +kernel
theorem dX0_append_16 : decode cX0_append 16 = .ok (.aload_n 0, 1) := by decide +kernel
theorem dX0_append_17 : decode cX0_append 17 = .ok (.getfield 24, 3) := by decide +kernel
theorem dX0_append_20 : decode cX0_append 20 = .ok (.iload_n 1, 1) := by decide +kernel
theorem dX0_append_21 : decode cX0_append 21 = .ok (.iastore, 1) := by decide +kernel
theorem dX0_append_22 : decode cX0_append 22 = .ok (.aload_n 0, 1) := by decide +kernel
theorem dX0_append_23 : decode cX0_append 23 = .ok (.getfield 15, 3) := by decide +kernel
theorem dX0_append_26 : decode cX0_append 26 = .ok (.aload_n 0, 1) := by decide +kernel
theorem dX0_append_27 : decode cX0_append 27 = .ok (.getfield 24, 3) := by decide +kernel
theorem dX0_append_30 : decode cX0_append 30 = .ok (.iload_n 2, 1) := by decide +kernel
theorem dX0_append_31 : decode cX0_append 31 = .ok (.iastore, 1) := by decide +kernel
theorem dX0_append_32 : decode cX0_append 32 = .ok (.aload_n 0, 1) := by decide +kernel
theorem dX0_append_33 : decode cX0_append 33 = .ok (.getfield 18, 3) := by decide +kernel
theorem dX0_append_36 : decode cX0_append 36 = .ok (.aload_n 0, 1) := by decide +kernel
theorem dX0_append_37 : decode cX0_append 37 = .ok (.getfield 24, 3) := by decide +kernel
theorem dX0_append_40 : decode cX0_append 40 = .ok (.iload_n 3, 1) := by decide +kernel
theorem dX0_append_41 : decode cX0_append 41 = .ok (.iastore, 1) := by decide +kernel
theorem dX0_append_42 : decode cX0_append 42 = .ok (.aload_n 0, 1) := by decide +kernel
theorem dX0_append_43 : decode cX0_append 43 = .ok (.getfield 21, 3) := by decide +kernel
theorem dX0_append_46 : decode cX0_append 46 = .ok (.aload_n 0, 1) := by decide +kernel
theorem dX0_append_47 : decode cX0_append 47 = .ok (.getfield 24, 3) := by decide +kernel
theorem dX0_append_50 : decode cX0_append 50 = .ok (.iload 4, 2) := by decide +kernel
theorem dX0_append_52 : decode cX0_append 52 = .ok (.iastore, 1) := by decide +kernel
theorem dX0_append_53 : decode cX0_append 53 = .ok (.aload_n 0, 1) := by decide +kernel
theorem dX0_append_54 : decode cX0_append 54 = .ok (.dup, 1) := by decide +kernel
theorem dX0_append_55 : decode cX0_append 55 = .ok (.getfield 24, 3) := by decide +kernel
theorem dX0_append_58 : decode cX0_append 58 = .ok (.iconst 1, 1) := by decide +kernel
theorem dX0_append_59 : decode cX0_append 59 = .ok (.iadd, 1) := by decide +kernel
theorem dX0_append_60 : decode cX0_append 60 = .ok (.putfield 24, 3) := by decide +kernel
theorem dX0_append_63 : decode cX0_append 63 = .ok (.aload_n 0, 1) := by decide +kernel
theorem dX0_append_64 : decode cX0_append 64 = .ok (.getfield 24, 3) := by decide +kernel
theorem dX0_append_67 : decode cX0_append 67 = .ok (.iconst 1, 1) := by decide +kernel
theorem dX0_append_68 : decode cX0_append 68 = .ok (.isub, 1) := by decide +kernel
theorem dX0_append_69 : decode cX0_append 69 = .ok (.ireturn, 1) := by decide +kernel
set_option maxRecDepth 20000 in
theorem ggX0_remove_X0_closeGap : GoodIn wsX0_remove wsX0_closeGap := goodIn_r _ [10, 1, 11, 12, 13, 14, 15, 16, 17, 18, 19] (by decide +kernel) (by decide +kernel)
set_option maxRecDepth 20000 in
theorem gX0_remove_X0_closeGap : GoodIn wsX0_remove (wsV RX0 28 RX0 yX0_closeGap wsX0_closeGap) := goodIn_app (goodIn_of _ (by decide +kernel)) ggX0_remove_X0_closeGap
theorem dX0_remove_0 : decode cX0_remove 0 = .ok (.iload_n 1, 1) := by decide +kernel
theorem dX0_remove_1 : decode cX0_remove 1 = .ok (.ifCond .lt 11, 3) := by decide +kernel
theorem dX0_remove_4 : decode cX0_remove 4 = .ok (.iload_n 1, 1) := by decide +kernel
theorem dX0_remove_5 : decode cX0_remove 5 = .ok (.aload_n 0, 1) := by decide +kernel
theorem dX0_remove_6 : decode cX0_remove 6 = .ok (.getfield 24, 3) := by decide +kernel
theorem dX0_remove_9 : decode cX0_remove 9 = .ok (.if_icmp .lt 5, 3) := by decide +kernel
theorem dX0_remove_12 : decode cX0_remove 12 = .ok (.iconst (-1), 1) := by decide +kernel
theorem dX0_remove_13 : decode cX0_remove 13 = .ok (.ireturn, 1) := by decide +kernel
theorem dX0_remove_14 : decode cX0_remove 14 = .ok (.aload_n 0, 1) := by decide +kernel
theorem dX0_remove_15 : decode cX0_remove 15 = .ok (.dup, 1) := by decide +kernel
theorem dX0_remove_16 : decode cX0_remove 16 = .ok (.getfield 24, 3) := by decide +kernel
theorem dX0_remove_19 : decode cX0_remove 19 = .ok (.iconst 1, 1) := by decide +kernel
theorem dX0_remove_20 : decode cX0_remove 20 = .ok (.isub, 1) := by decide +kernel
theorem dX0_remove_21 : decode cX0_remove 21 = .ok (.putfield 24, 3) := by decide +kernel
theorem dX0_remove_24 : decode cX0_remove 24 = .ok (.aload_n 0, 1) := by decide +kernel
theorem dX0_remove_25 : decode cX0_remove 25 = .ok (.aload_n 0, 1) := by decide +kernel
theorem dX0_remove_26 : decode cX0_remove 26 = .ok (.getfield 9, 3) := by decide +kernel
theorem dX0_remove_29 : decode cX0_remove 29 = .ok (.iload_n 1, 1) := by decide +kernel
theorem dX0_remove_30 : decode cX0_remove 30 = .ok (.invokevirtual 28, 3) := by decide +kernel
theorem dX0_remove_33 : decode cX0_remove 33 = .ok (.aload_n 0, 1) := by decide +kernel
theorem dX0_remove_34 : decode cX0_remove 34 = .ok (.aload_n 0, 1) := by decide +kernel
theorem dX0_remove_35 : decode cX0_remove 35 = .ok (.getfield 15, 3) := by decide +kernel
theorem dX0_remove_38 : decode cX0_remove 38 = .ok (.iload_n 1, 1) := by decide +kernel
theorem dX0_remove_39 : decode cX0_remove 39 = .ok (.invokevirtual 28, 3) := by decide +kernel
theorem dX0_remove_42 : decode cX0_remove 42 = .ok (.aload_n 0, 1) := by decide +kernel
theorem dX0_remove_43 : decode cX0_remove 43 = .ok (.aload_n 0, 1) := by decide +kernel
theorem dX0_remove_44 : decode cX0_remove 44 = .ok (.getfield 18, 3) := by decide +kernel
theorem dX0_remove_47 : decode cX0_remove 47 = .ok (.iload_n 1, 1) := by decide +kernel
theorem dX0_remove_48 : decode cX0_remove 48 = .ok (.invokevirtual 28, 3) := by decide +kernel
theorem dX0_remove_51 : decode cX0_remove 51 = .ok (.aload_n 0, 1) := by decide +kernel
theorem dX0_remove_52 : decode cX0_remove 52 = .ok (.aload_n 0, 1) := by decide +kernel
theorem dX0_remove_53 : decode cX0_remove 53 = .ok (.getfield 21, 3) := by decide +kernel
theorem dX0_remove_56 : decode cX0_remove 56 = .ok (.iload_n 1, 1) := by decide +kernel
theorem dX0_remove_57 : decode cX0_remove 57 = .ok (.invokevirtual 28, 3) := by decide +kernel
theorem dX0_remove_60 : decode cX0_remove 60 = .ok (.aload_n 0, 1) := by decide +kernel
theorem dX0_remove_61 : decode cX0_remove 61 = .ok (.getfield 24, 3) := by decide +kernel
theorem dX0_remove_64 : decode cX0_remove 64 = .ok (.ireturn, 1) := by decide +kernel
theorem dX0_closeGap_0 : decode cX0_closeGap 0 = .ok (.aload_n 1, 1) := by decide +kernel
theorem dX0_closeGap_1 : decode cX0_closeGap 1 = .ok (.iload_n 2, 1) := by decide +kernel
theorem dX0_closeGap_2 : decode cX0_closeGap 2 = .ok (.iconst 1, 1) := by decide +kernel
theorem dX0_closeGap_3 : decode cX0_closeGap 3 = .ok (.iadd, 1) := by decide +kernel
theorem dX0_closeGap_4 : decode cX0_closeGap 4 = .ok (.aload_n 1, 1) := by decide +kernel
theorem dX0_closeGap_5 : decode cX0_closeGap 5 = .ok (.iload_n 2, 1) := by decide +kernel
theorem dX0_closeGap_6 : decode cX0_closeGap 6 = .ok (.aload_n 0, 1) := by decide +kernel
theorem dX0_closeGap_7 : decode cX0_closeGap 7 = .ok (.getfield 24, 3) := by decide +kernel
theorem dX0_closeGap_10 : decode cX0_closeGap 10 = .ok (.iload_n 2, 1) := by decide +kernel
theorem dX0_closeGap_11 : decode cX0_closeGap 11 = .ok (.isub, 1) := by decide +kernel
theorem dX0_closeGap_12 : decode cX0_closeGap 12 = .ok (.invokestatic 32, 3) := by decide +kernel
theorem dX0_closeGap_15 : decode cX0_closeGap 15 = .ok (.return_, 1) := by decide +kernel
theorem dX1_init_0 : decode cX1_init 0 = .ok (.aload_n 0, 1) := by decide +kernel
theorem dX1_init_1 : decode cX1_init 1 = .ok (.invokespecial 3, 3) := by decide +kernel
theorem dX1_init_4 : decode cX1_init 4 = .ok (.aload_n 0, 1) := by decide +kernel
theorem dX1_init_5 : decode cX1_init 5 = .ok (.sipush 168, 3) := by decide +kernel
theorem dX1_init_8 : decode cX1_init 8 = .ok (.newarray .int, 2) := by decide +kernel
theorem dX1_init_10 : decode cX1_init 10 = .ok (.putfield 9, 3) := by decide +kernel
theorem dX1_init_13 : decode cX1_init 13 = .ok (.aload_n 0, 1) := by decide +kernel
theorem dX1_init_14 : decode cX1_init 14 = .ok (.sipush 168, 3) := by decide +kernel
theorem dX1_init_17 : decode cX1_init 17 = .ok (.newarray .int, 2) := by decide +kernel
theorem dX1_init_19 : decode cX1_init 19 = .ok (.putfield 15, 3) := by decide +kernel
theorem dX1_init_22 : decode cX1_init 22 = .ok (.aload_n 0, 1) := by decide +kernel
theorem dX1_init_23 : decode cX1_init 23 = .ok (.sipush 4032, 3) := by decide +kernel
theorem dX1_init_26 : decode cX1_init 26 = .ok (.newarray .long, 2) := by decide +kernel
theorem dX1_init_28 : decode cX1_init 28 = .ok (.putfield 18, 3) := by decide +kernel
theorem dX1_init_31 : decode cX1_init 31 = .ok (.aload_n 0, 1) := by decide +kernel
theorem dX1_init_32 : decode cX1_init 32 = .ok (.sipush 4032, 3) := by decide +kernel
theorem dX1_init_35 : decode cX1_init 35 = .ok (.newarray .int, 2) := by decide +kernel
theorem dX1_init_37 : decode cX1_init 37 = .ok (.putfield 22, 3) := by decide +kernel
theorem dX1_init_40 : decode cX1_init 40 = .ok (.aload_n 0, 1) := by decide +kernel
theorem dX1_init_41 : decode cX1_init 41 = .ok (.iconst 0, 1) := by decide +kernel
theorem dX1_init_42 : decode cX1_init 42 = .ok (.putfield 25, 3) := by decide +kernel
theorem dX1_init_45 : decode cX1_init 45 = .ok (.aload_n 0, 1) := by decide +kernel
theorem dX1_init_46 : decode cX1_init 46 = .ok (.iconst 0, 1) := by decide +kernel
theorem dX1_init_47 : decode cX1_init 47 = .ok (.putfield 29, 3) := by decide +kernel
theorem dX1_init_50 : decode cX1_init 50 = .ok (.aload_n 0, 1) := by decide +kernel
theorem dX1_init_51 : decode cX1_init 51 = .ok (.iconst 0, 1) := by decide +kernel
theorem dX1_init_52 : decode cX1_init 52 = .ok (.putfield 32, 3) := by decide +kernel
theorem dX1_init_55 : decode cX1_init 55 = .ok (.aload_n 0, 1) := by decide +kernel
theorem dX1_init_56 : decode cX1_init 56 = .ok (.iconst 0, 1) := by decide +kernel
theorem dX1_init_57 : decode cX1_init 57 = .ok (.putfield 35, 3) := by decide +kernel
theorem dX1_init_60 : decode cX1_init 60 = .ok (.return_, 1) := by decide +kernel
set_option maxRecDepth 20000 in
theorem ggX1_fill_X1_clear : GoodIn wsX1_fill wsX1_clear := goodIn_r _ [12, 3, 2, 13, 14, 15, 16, 17, 1, 18, 19, 20, 21, 22, 23, 24, 77, 78, 79, 80, 81, 82, 83, 84] (by decide +kernel) (by decide +kernel)
set_option maxRecDepth 20000 in
theorem gX1_fill_X1_clear : GoodIn wsX1_fill (wsV RX1 38 RX1 yX1_clear wsX1_clear) := goodIn_app (goodIn_of _ (by decide +kernel)) ggX1_fill_X1_clear
set_option maxRecDepth 20000 in
theorem ggX1_fill_X1_giveAtFirst : GoodIn wsX1_fill wsX1_giveAtFirst := goodIn_r _ [28, 15, 29, 30, 31, 11, 32, 2, 1, 13, 17, 33, 34, 35, 36, 37, 38, 39, 40, 41, 42, 43, 77, 78, 79, 80, 81, 82, 83, 84, 85, 86, 87, 88, 89] (by decide +kernel) (by decide +kernel)
set_option maxRecDepth 20000 in
theorem gX1_fill_X1_giveAtFirst : GoodIn wsX1_fill (wsV RX1 42 RX1 yX1_giveAtFirst wsX1_giveAtFirst) := goodIn_app (goodIn_of _ (by decide +kernel)) ggX1_fill_X1_giveAtFirst
set_option maxRecDepth 20000 in
theorem ggX1_fill_X1_endRound : GoodIn wsX1_fill wsX1_endRound := goodIn_r _ [47, 1, 17, 48, 49, 50, 11, 51, 15, 33, 34, 35, 52, 53, 54, 55, 2, 3, 16, 56, 36, 37, 77, 78, 79, 80, 81, 82, 83, 84] (by decide +kernel) (by decide +kernel)
set_option maxRecDepth 20000 in
theorem gX1_fill_X1_endRound : GoodIn wsX1_fill (wsV RX1 46 RX1 yX1_endRound wsX1_endRound) := goodIn_app (goodIn_of _ (by decide +kernel)) ggX1_fill_X1_endRound
set_option maxRecDepth 20000 in
theorem ggX1_fill_X1_giveByAxiom : GoodIn wsX1_fill wsX1_giveByAxiom := goodIn_r _ [60, 3, 29, 30, 31, 11, 32, 2, 1, 15, 13, 17, 33, 34, 35, 36, 37, 61, 62, 63, 64, 42, 43, 65, 66, 67, 68, 69, 70, 71, 72, 73, 74, 75, 76, 85, 86, 87, 88, 89, 77, 78, 79, 80, 81, 82, 83, 84] (by decide +kernel) (by decide +kernel)
set_option maxRecDepth 20000 in
theorem gX1_fill_X1_giveByAxiom : GoodIn wsX1_fill (wsV RX1 60 RX1 yX1_giveByAxiom wsX1_giveByAxiom) := goodIn_app (goodIn_of _ (by decide +kernel)) ggX1_fill_X1_giveByAxiom
set_option maxRecDepth 20000 in
theorem ggX1_fill_X1_giveToWhatHas : GoodIn wsX1_fill wsX1_giveToWhatHas := goodIn_r _ [68, 3, 15, 33, 34, 35, 42, 43, 36, 37, 29, 30, 31, 11, 32, 2, 1, 13, 17, 77, 78, 79, 80, 81, 82, 83, 84] (by decide +kernel) (by decide +kernel)
set_option maxRecDepth 20000 in
theorem gX1_fill_X1_giveToWhatHas : GoodIn wsX1_fill (wsV RX1 64 RX1 yX1_giveToWhatHas wsX1_giveToWhatHas) := goodIn_app (goodIn_of _ (by decide +kernel)) ggX1_fill_X1_giveToWhatHas
theorem dX1_fill_0 : decode cX1_fill 0 = .ok (.aload_n 0, 1) := by decide +kernel
theorem dX1_fill_1 : decode cX1_fill 1 = .ok (.iload_n 2, 1) := by decide +kernel
theorem dX1_fill_2 : decode cX1_fill 2 = .ok (.invokevirtual 38, 3) := by decide +kernel
theorem dX1_fill_5 : decode cX1_fill 5 = .ok (.aload_n 0, 1) := by decide +kernel
theorem dX1_fill_6 : decode cX1_fill 6 = .ok (.aload_n 1, 1) := by decide +kernel
theorem dX1_fill_7 : decode cX1_fill 7 = .ok (.invokevirtual 42, 3) := by decide +kernel
theorem dX1_fill_10 : decode cX1_fill 10 = .ok (.aload_n 0, 1) := by decide +kernel
theorem dX1_fill_11 : decode cX1_fill 11 = .ok (.invokevirtual 46, 3) := by decide +kernel
theorem dX1_fill_14 : decode cX1_fill 14 = .ok (.iconst 1, 1) := by decide +kernel
theorem dX1_fill_15 : decode cX1_fill 15 = .ok (.istore_n 3, 1) := by decide +kernel
theorem dX1_fill_16 : decode cX1_fill 16 = .ok (.iload_n 3, 1) := by decide +kernel
theorem dX1_fill_17 : decode cX1_fill 17 = .ok (.sipush 4032, 3) := by decide +kernel
theorem dX1_fill_20 : decode cX1_fill 20 = .ok (.if_icmp .ge 92, 3) := by decide +kernel
theorem dX1_fill_23 : decode cX1_fill 23 = .ok (.aload_n 0, 1) := by decide +kernel
theorem dX1_fill_24 : decode cX1_fill 24 = .ok (.getfield 35, 3) := by decide +kernel
theorem dX1_fill_27 : decode cX1_fill 27 = .ok (.ifCond .eq 85, 3) := by decide +kernel
theorem dX1_fill_30 : decode cX1_fill 30 = .ok (.aload_n 0, 1) := by decide +kernel
theorem dX1_fill_31 : decode cX1_fill 31 = .ok (.getfield 15, 3) := by decide +kernel
theorem dX1_fill_34 : decode cX1_fill 34 = .ok (.iconst 0, 1) := by decide +kernel
theorem dX1_fill_35 : decode cX1_fill 35 = .ok (.aload_n 0, 1) := by decide +kernel
theorem dX1_fill_36 : decode cX1_fill 36 = .ok (.getfield 9, 3) := by decide +kernel
theorem dX1_fill_39 : decode cX1_fill 39 = .ok (.iconst 0, 1) := by decide +kernel
theorem dX1_fill_40 : decode cX1_fill 40 = .ok (.sipush 168, 3) := by decide +kernel
theorem dX1_fill_43 : decode cX1_fill 43 = .ok (.invokestatic 49, 3) := by decide +kernel
theorem dX1_fill_46 : decode cX1_fill 46 = .ok (.aload_n 0, 1) := by decide +kernel
theorem dX1_fill_47 : decode cX1_fill 47 = .ok (.iconst 0, 1) := by decide +kernel
theorem dX1_fill_48 : decode cX1_fill 48 = .ok (.putfield 35, 3) := by decide +kernel
theorem dX1_fill_51 : decode cX1_fill 51 = .ok (.iconst 0, 1) := by decide +kernel
theorem dX1_fill_52 : decode cX1_fill 52 = .ok (.istore 4, 2) := by decide +kernel
theorem dX1_fill_54 : decode cX1_fill 54 = .ok (.iload 4, 2) := by decide +kernel
theorem dX1_fill_56 : decode cX1_fill 56 = .ok (.aload_n 1, 1) := by decide +kernel
theorem dX1_fill_57 : decode cX1_fill 57 = .ok (.getfield 55, 3) := by decide +kernel
theorem dX1_fill_60 : decode cX1_fill 60 = .ok (.if_icmp .ge 16, 3) := by decide +kernel
theorem dX1_fill_63 : decode cX1_fill 63 = .ok (.aload_n 0, 1) := by decide +kernel
theorem dX1_fill_64 : decode cX1_fill 64 = .ok (.aload_n 1, 1) := by decide +kernel
theorem dX1_fill_65 : decode cX1_fill 65 = .ok (.iload 4, 2) := by decide +kernel
theorem dX1_fill_67 : decode cX1_fill 67 = .ok (.invokevirtual 60, 3) := by decide +kernel
theorem dX1_fill_70 : decode cX1_fill 70 = .ok (.iinc 4 1, 3) := by decide +kernel
theorem dX1_fill_73 : decode cX1_fill 73 = .ok (.goto (-19), 3) := by decide +kernel
theorem dX1_fill_76 : decode cX1_fill 76 = .ok (.iconst 0, 1) := by decide +kernel
theorem dX1_fill_77 : decode cX1_fill 77 = .ok (.istore 4, 2) := by decide +kernel
theorem dX1_fill_79 : decode cX1_fill 79 = .ok (.iload 4, 2) := by decide +kernel
theorem dX1_fill_81 : decode cX1_fill 81 = .ok (.bipush 6, 2) := by decide +kernel
theorem dX1_fill_83 : decode cX1_fill 83 = .ok (.if_icmp .ge 19, 3) := by decide +kernel
theorem dX1_fill_86 : decode cX1_fill 86 = .ok (.aload_n 0, 1) := by decide +kernel
theorem dX1_fill_87 : decode cX1_fill 87 = .ok (.bipush 100, 2) := by decide +kernel
theorem dX1_fill_89 : decode cX1_fill 89 = .ok (.iload 4, 2) := by decide +kernel
theorem dX1_fill_91 : decode cX1_fill 91 = .ok (.iconst 1, 1) := by decide +kernel
theorem dX1_fill_92 : decode cX1_fill 92 = .ok (.iconst 1, 1) := by decide +kernel
theorem dX1_fill_93 : decode cX1_fill 93 = .ok (.invokevirtual 64, 3) := by decide +kernel
theorem dX1_fill_96 : decode cX1_fill 96 = .ok (.iinc 4 1, 3) := by decide +kernel
theorem dX1_fill_99 : decode cX1_fill 99 = .ok (.goto (-20), 3) := by decide +kernel
theorem dX1_fill_102 : decode cX1_fill 102 = .ok (.aload_n 0, 1) := by decide +kernel
theorem dX1_fill_103 : decode cX1_fill 103 = .ok (.invokevirtual 46, 3) := by decide +kernel
theorem dX1_fill_106 : decode cX1_fill 106 = .ok (.iinc 3 1, 3) := by decide +kernel
theorem dX1_fill_109 : decode cX1_fill 109 = .ok (.goto (-93), 3) := by decide +kernel
theorem dX1_fill_112 : decode cX1_fill 112 = .ok (.return_, 1) := by decide +kernel
set_option maxRecDepth 20000 in
theorem ggX1_clear_J7_fill_53178 : GoodIn wsX1_clear wsJ7_fill_53178 := goodIn_r _ [12] (by decide +kernel) (by decide +kernel)
set_option maxRecDepth 20000 in
theorem gX1_clear_J7_fill_53178 : GoodIn wsX1_clear (va_wsS RX1 68 yJ7_fill_53178 wsJ7_fill_53178) := goodIn_app (goodIn_of _ (by decide +kernel)) ggX1_clear_J7_fill_53178
set_option maxRecDepth 20000 in
theorem ggX1_clear_J7_fill_d0a16 : GoodIn wsX1_clear wsJ7_fill_d0a16 := goodIn_r _ [15] (by decide +kernel) (by decide +kernel)
set_option maxRecDepth 20000 in
theorem gX1_clear_J7_fill_d0a16 : GoodIn wsX1_clear (va_wsS RX1 76 yJ7_fill_d0a16 wsJ7_fill_d0a16) := goodIn_app (goodIn_of _ (by decide +kernel)) ggX1_clear_J7_fill_d0a16
theorem dX1_clear_0 : decode cX1_clear 0 = .ok (.aload_n 0, 1) := by decide +kernel
theorem dX1_clear_1 : decode cX1_clear 1 = .ok (.getfield 9, 3) := by decide +kernel
theorem dX1_clear_4 : decode cX1_clear 4 = .ok (.iconst 0, 1) := by decide +kernel
theorem dX1_clear_5 : decode cX1_clear 5 = .ok (.invokestatic 68, 3) := by decide +kernel
theorem dX1_clear_8 : decode cX1_clear 8 = .ok (.aload_n 0, 1) := by decide +kernel
theorem dX1_clear_9 : decode cX1_clear 9 = .ok (.getfield 15, 3) := by decide +kernel
theorem dX1_clear_12 : decode cX1_clear 12 = .ok (.iconst 0, 1) := by decide +kernel
theorem dX1_clear_13 : decode cX1_clear 13 = .ok (.invokestatic 68, 3) := by decide +kernel
theorem dX1_clear_16 : decode cX1_clear 16 = .ok (.aload_n 0, 1) := by decide +kernel
theorem dX1_clear_17 : decode cX1_clear 17 = .ok (.getfield 18, 3) := by decide +kernel
theorem dX1_clear_20 : decode cX1_clear 20 = .ok (.ldc2_w 74, 3) := by decide +kernel
theorem dX1_clear_23 : decode cX1_clear 23 = .ok (.invokestatic 76, 3) := by decide +kernel
theorem dX1_clear_26 : decode cX1_clear 26 = .ok (.aload_n 0, 1) := by decide +kernel
theorem dX1_clear_27 : decode cX1_clear 27 = .ok (.iload_n 1, 1) := by decide +kernel
theorem dX1_clear_28 : decode cX1_clear 28 = .ok (.putfield 25, 3) := by decide +kernel
theorem dX1_clear_31 : decode cX1_clear 31 = .ok (.aload_n 0, 1) := by decide +kernel
theorem dX1_clear_32 : decode cX1_clear 32 = .ok (.iconst 0, 1) := by decide +kernel
theorem dX1_clear_33 : decode cX1_clear 33 = .ok (.putfield 29, 3) := by decide +kernel
theorem dX1_clear_36 : decode cX1_clear 36 = .ok (.aload_n 0, 1) := by decide +kernel
theorem dX1_clear_37 : decode cX1_clear 37 = .ok (.iconst 0, 1) := by decide +kernel
theorem dX1_clear_38 : decode cX1_clear 38 = .ok (.putfield 32, 3) := by decide +kernel
theorem dX1_clear_41 : decode cX1_clear 41 = .ok (.aload_n 0, 1) := by decide +kernel
theorem dX1_clear_42 : decode cX1_clear 42 = .ok (.iconst 0, 1) := by decide +kernel
theorem dX1_clear_43 : decode cX1_clear 43 = .ok (.putfield 35, 3) := by decide +kernel
theorem dX1_clear_46 : decode cX1_clear 46 = .ok (.return_, 1) := by decide +kernel
set_option maxRecDepth 20000 in
theorem ggX1_giveAtFirst_X1_give : GoodIn wsX1_giveAtFirst wsX1_give := goodIn_r _ [6, 7, 8, 1, 9, 10, 11, 12, 13, 14, 15, 22, 23, 24, 25, 26, 27, 28, 29] (by decide +kernel) (by decide +kernel)
set_option maxRecDepth 20000 in
theorem gX1_giveAtFirst_X1_give : GoodIn wsX1_giveAtFirst (wsV RX1 79 RX1 yX1_give wsX1_give) := goodIn_app (goodIn_of _ (by decide +kernel)) ggX1_giveAtFirst_X1_give
set_option maxRecDepth 20000 in
theorem ggX1_giveAtFirst_X1_giveOfItself : GoodIn wsX1_giveAtFirst wsX1_giveOfItself := goodIn_r _ [19, 1, 20, 12, 21, 2, 3, 4, 5, 6, 7, 8, 9, 10, 11, 13, 14, 15, 22, 23, 24, 25, 26, 27, 28, 29] (by decide +kernel) (by decide +kernel)
set_option maxRecDepth 20000 in
theorem gX1_giveAtFirst_X1_giveOfItself : GoodIn wsX1_giveAtFirst (wsV RX1 89 RX1 yX1_giveOfItself wsX1_giveOfItself) := goodIn_app (goodIn_of _ (by decide +kernel)) ggX1_giveAtFirst_X1_giveOfItself
theorem dX1_giveAtFirst_0 : decode cX1_giveAtFirst 0 = .ok (.iconst 0, 1) := by decide +kernel
theorem dX1_giveAtFirst_1 : decode cX1_giveAtFirst 1 = .ok (.istore_n 2, 1) := by decide +kernel
theorem dX1_giveAtFirst_2 : decode cX1_giveAtFirst 2 = .ok (.iload_n 2, 1) := by decide +kernel
theorem dX1_giveAtFirst_3 : decode cX1_giveAtFirst 3 = .ok (.aload_n 0, 1) := by decide +kernel
theorem dX1_giveAtFirst_4 : decode cX1_giveAtFirst 4 = .ok (.getfield 25, 3) := by decide +kernel
theorem dX1_giveAtFirst_7 : decode cX1_giveAtFirst 7 = .ok (.if_icmp .ge 43, 3) := by decide +kernel
theorem dX1_giveAtFirst_10 : decode cX1_giveAtFirst 10 = .ok (.aload_n 0, 1) := by decide +kernel
theorem dX1_giveAtFirst_11 : decode cX1_giveAtFirst 11 = .ok (.iconst 1, 1) := by decide +kernel
theorem dX1_giveAtFirst_12 : decode cX1_giveAtFirst 12 = .ok (.iload_n 2, 1) := by decide +kernel
theorem dX1_giveAtFirst_13 : decode cX1_giveAtFirst 13 = .ok (.ishl, 1) := by decide +kernel
theorem dX1_giveAtFirst_14 : decode cX1_giveAtFirst 14 = .ok (.iload_n 2, 1) := by decide +kernel
theorem dX1_giveAtFirst_15 : decode cX1_giveAtFirst 15 = .ok (.sipush 255, 3) := by decide +kernel
theorem dX1_giveAtFirst_18 : decode cX1_giveAtFirst 18 = .ok (.sipush 4095, 3) := by decide +kernel
theorem dX1_giveAtFirst_21 : decode cX1_giveAtFirst 21 = .ok (.sipush 4095, 3) := by decide +kernel
theorem dX1_giveAtFirst_24 : decode cX1_giveAtFirst 24 = .ok (.invokevirtual 79, 3) := by decide +kernel
theorem dX1_giveAtFirst_27 : decode cX1_giveAtFirst 27 = .ok (.aload_n 0, 1) := by decide +kernel
theorem dX1_giveAtFirst_28 : decode cX1_giveAtFirst 28 = .ok (.iconst 1, 1) := by decide +kernel
theorem dX1_giveAtFirst_29 : decode cX1_giveAtFirst 29 = .ok (.iload_n 2, 1) := by decide +kernel
theorem dX1_giveAtFirst_30 : decode cX1_giveAtFirst 30 = .ok (.ishl, 1) := by decide +kernel
theorem dX1_giveAtFirst_31 : decode cX1_giveAtFirst 31 = .ok (.iconst 0, 1) := by decide +kernel
theorem dX1_giveAtFirst_32 : decode cX1_giveAtFirst 32 = .ok (.sipush 255, 3) := by decide +kernel
theorem dX1_giveAtFirst_35 : decode cX1_giveAtFirst 35 = .ok (.sipush 4095, 3) := by decide +kernel
theorem dX1_giveAtFirst_38 : decode cX1_giveAtFirst 38 = .ok (.sipush 4095, 3) := by decide +kernel
theorem dX1_giveAtFirst_41 : decode cX1_giveAtFirst 41 = .ok (.invokevirtual 79, 3) := by decide +kernel
theorem dX1_giveAtFirst_44 : decode cX1_giveAtFirst 44 = .ok (.iinc 2 1, 3) := by decide +kernel
theorem dX1_giveAtFirst_47 : decode cX1_giveAtFirst 47 = .ok (.goto (-45), 3) := by decide +kernel
theorem dX1_giveAtFirst_50 : decode cX1_giveAtFirst 50 = .ok (.iconst 0, 1) := by decide +kernel
theorem dX1_giveAtFirst_51 : decode cX1_giveAtFirst 51 = .ok (.istore_n 2, 1) := by decide +kernel
theorem dX1_giveAtFirst_52 : decode cX1_giveAtFirst 52 = .ok (.iload_n 2, 1) := by decide +kernel
theorem dX1_giveAtFirst_53 : decode cX1_giveAtFirst 53 = .ok (.aload_n 1, 1) := by decide +kernel
theorem dX1_giveAtFirst_54 : decode cX1_giveAtFirst 54 = .ok (.getfield 55, 3) := by decide +kernel
theorem dX1_giveAtFirst_57 : decode cX1_giveAtFirst 57 = .ok (.if_icmp .ge 30, 3) := by decide +kernel
theorem dX1_giveAtFirst_60 : decode cX1_giveAtFirst 60 = .ok (.aload_n 1, 1) := by decide +kernel
theorem dX1_giveAtFirst_61 : decode cX1_giveAtFirst 61 = .ok (.getfield 83, 3) := by decide +kernel
theorem dX1_giveAtFirst_64 : decode cX1_giveAtFirst 64 = .ok (.iload_n 2, 1) := by decide +kernel
theorem dX1_giveAtFirst_65 : decode cX1_giveAtFirst 65 = .ok (.iaload, 1) := by decide +kernel
theorem dX1_giveAtFirst_66 : decode cX1_giveAtFirst 66 = .ok (.bipush 7, 2) := by decide +kernel
theorem dX1_giveAtFirst_68 : decode cX1_giveAtFirst 68 = .ok (.if_icmp .ne 13, 3) := by decide +kernel
theorem dX1_giveAtFirst_71 : decode cX1_giveAtFirst 71 = .ok (.aload_n 0, 1) := by decide +kernel
theorem dX1_giveAtFirst_72 : decode cX1_giveAtFirst 72 = .ok (.aload_n 1, 1) := by decide +kernel
theorem dX1_giveAtFirst_73 : decode cX1_giveAtFirst 73 = .ok (.getfield 86, 3) := by decide +kernel
theorem dX1_giveAtFirst_76 : decode cX1_giveAtFirst 76 = .ok (.iload_n 2, 1) := by decide +kernel
theorem dX1_giveAtFirst_77 : decode cX1_giveAtFirst 77 = .ok (.iaload, 1) := by decide +kernel
theorem dX1_giveAtFirst_78 : decode cX1_giveAtFirst 78 = .ok (.invokevirtual 89, 3) := by decide +kernel
theorem dX1_giveAtFirst_81 : decode cX1_giveAtFirst 81 = .ok (.iinc 2 1, 3) := by decide +kernel
theorem dX1_giveAtFirst_84 : decode cX1_giveAtFirst 84 = .ok (.goto (-32), 3) := by decide +kernel
theorem dX1_giveAtFirst_87 : decode cX1_giveAtFirst 87 = .ok (.return_, 1) := by decide +kernel
set_option maxRecDepth 20000 in
theorem ggX1_giveOfItself_X3_linkColumn : GoodIn wsX1_giveOfItself wsX3_linkColumn := goodIn_r _ [4] (by decide +kernel) (by decide +kernel)
set_option maxRecDepth 20000 in
theorem gX1_giveOfItself_X3_linkColumn_n92 : GoodIn wsX1_giveOfItself (wsX3_linkColumn) := ggX1_giveOfItself_X3_linkColumn
set_option maxRecDepth 20000 in
theorem ggX1_giveOfItself_X1_give : GoodIn wsX1_giveOfItself wsX1_give := goodIn_r _ [9, 10, 11, 1, 12, 13, 14, 3, 15, 16, 17, 18, 19, 20, 21, 22, 23, 24, 25] (by decide +kernel) (by decide +kernel)
set_option maxRecDepth 20000 in
theorem gX1_giveOfItself_X1_give : GoodIn wsX1_giveOfItself (wsV RX1 79 RX1 yX1_give wsX1_give) := goodIn_app (goodIn_of _ (by decide +kernel)) ggX1_giveOfItself_X1_give
theorem dX1_giveOfItself_0 : decode cX1_giveOfItself 0 = .ok (.iconst 0, 1) := by decide +kernel
theorem dX1_giveOfItself_1 : decode cX1_giveOfItself 1 = .ok (.istore_n 2, 1) := by decide +kernel
theorem dX1_giveOfItself_2 : decode cX1_giveOfItself 2 = .ok (.iload_n 2, 1) := by decide +kernel
theorem dX1_giveOfItself_3 : decode cX1_giveOfItself 3 = .ok (.aload_n 0, 1) := by decide +kernel
theorem dX1_giveOfItself_4 : decode cX1_giveOfItself 4 = .ok (.getfield 25, 3) := by decide +kernel
theorem dX1_giveOfItself_7 : decode cX1_giveOfItself 7 = .ok (.if_icmp .ge 30, 3) := by decide +kernel
theorem dX1_giveOfItself_10 : decode cX1_giveOfItself 10 = .ok (.aload_n 0, 1) := by decide +kernel
theorem dX1_giveOfItself_11 : decode cX1_giveOfItself 11 = .ok (.iconst 1, 1) := by decide +kernel
theorem dX1_giveOfItself_12 : decode cX1_giveOfItself 12 = .ok (.iload_n 2, 1) := by decide +kernel
theorem dX1_giveOfItself_13 : decode cX1_giveOfItself 13 = .ok (.ishl, 1) := by decide +kernel
theorem dX1_giveOfItself_14 : decode cX1_giveOfItself 14 = .ok (.iload_n 1, 1) := by decide +kernel
theorem dX1_giveOfItself_15 : decode cX1_giveOfItself 15 = .ok (.iload_n 2, 1) := by decide +kernel
theorem dX1_giveOfItself_16 : decode cX1_giveOfItself 16 = .ok (.invokestatic 92, 3) := by decide +kernel
theorem dX1_giveOfItself_19 : decode cX1_giveOfItself 19 = .ok (.sipush 255, 3) := by decide +kernel
theorem dX1_giveOfItself_22 : decode cX1_giveOfItself 22 = .ok (.sipush 4095, 3) := by decide +kernel
theorem dX1_giveOfItself_25 : decode cX1_giveOfItself 25 = .ok (.sipush 4095, 3) := by decide +kernel
theorem dX1_giveOfItself_28 : decode cX1_giveOfItself 28 = .ok (.invokevirtual 79, 3) := by decide +kernel
theorem dX1_giveOfItself_31 : decode cX1_giveOfItself 31 = .ok (.iinc 2 1, 3) := by decide +kernel
theorem dX1_giveOfItself_34 : decode cX1_giveOfItself 34 = .ok (.goto (-32), 3) := by decide +kernel
theorem dX1_giveOfItself_37 : decode cX1_giveOfItself 37 = .ok (.return_, 1) := by decide +kernel
set_option maxRecDepth 20000 in
theorem ggX1_giveByAxiom_X1_give : GoodIn wsX1_giveByAxiom wsX1_give := goodIn_r _ [6, 7, 8, 9, 10, 11, 12, 13, 14, 15, 16, 40, 41, 42, 43, 44, 45, 46, 47] (by decide +kernel) (by decide +kernel)
set_option maxRecDepth 20000 in
theorem gX1_giveByAxiom_X1_give : GoodIn wsX1_giveByAxiom (wsV RX1 79 RX1 yX1_give wsX1_give) := goodIn_app (goodIn_of _ (by decide +kernel)) ggX1_giveByAxiom_X1_give
set_option maxRecDepth 20000 in
theorem ggX1_giveByAxiom_X1_giveToBoth : GoodIn wsX1_giveByAxiom wsX1_giveToBoth := goodIn_r _ [20, 1, 7, 9, 12, 13, 14, 15, 16, 2, 3, 4, 5, 6, 8, 10, 11, 40, 41, 42, 43, 44, 45, 46, 47] (by decide +kernel) (by decide +kernel)
set_option maxRecDepth 20000 in
theorem gX1_giveByAxiom_X1_giveToBoth : GoodIn wsX1_giveByAxiom (wsV RX1 102 RX1 yX1_giveToBoth wsX1_giveToBoth) := goodIn_app (goodIn_of _ (by decide +kernel)) ggX1_giveByAxiom_X1_giveToBoth
set_option maxRecDepth 20000 in
theorem ggX1_giveByAxiom_X3_linkColumn : GoodIn wsX1_giveByAxiom wsX3_linkColumn := goodIn_r _ [22] (by decide +kernel) (by decide +kernel)
set_option maxRecDepth 20000 in
theorem gX1_giveByAxiom_X3_linkColumn_n92 : GoodIn wsX1_giveByAxiom (wsX3_linkColumn) := ggX1_giveByAxiom_X3_linkColumn
set_option maxRecDepth 20000 in
theorem ggX1_giveByAxiom_X1_giveToWhatHas : GoodIn wsX1_giveByAxiom wsX1_giveToWhatHas := goodIn_r _ [26, 1, 9, 12, 13, 14, 21, 22, 15, 16, 2, 3, 4, 5, 6, 7, 8, 10, 11, 40, 41, 42, 43, 44, 45, 46, 47] (by decide +kernel) (by decide +kernel)
set_option maxRecDepth 20000 in
theorem gX1_giveByAxiom_X1_giveToWhatHas : GoodIn wsX1_giveByAxiom (wsV RX1 64 RX1 yX1_giveToWhatHas wsX1_giveToWhatHas) := goodIn_app (goodIn_of _ (by decide +kernel)) ggX1_giveByAxiom_X1_giveToWhatHas
set_option maxRecDepth 20000 in
theorem ggX1_giveByAxiom_X1_giveRole : GoodIn wsX1_giveByAxiom wsX1_giveRole := goodIn_r _ [30, 9, 1, 21, 13, 22, 2, 3, 4, 5, 6, 7, 8, 10, 11, 12, 14, 15, 16, 40, 41, 42, 43, 44, 45, 46, 47] (by decide +kernel) (by decide +kernel)
set_option maxRecDepth 20000 in
theorem gX1_giveByAxiom_X1_giveRole : GoodIn wsX1_giveByAxiom (wsV RX1 105 RX1 yX1_giveRole wsX1_giveRole) := goodIn_app (goodIn_of _ (by decide +kernel)) ggX1_giveByAxiom_X1_giveRole
set_option maxRecDepth 20000 in
theorem ggX1_giveByAxiom_X1_giveChain : GoodIn wsX1_giveByAxiom wsX1_giveChain := goodIn_r _ [34, 9, 1, 21, 13, 22, 12, 14, 15, 16, 2, 3, 4, 5, 6, 7, 8, 10, 11, 40, 41, 42, 43, 44, 45, 46, 47] (by decide +kernel) (by decide +kernel)
set_option maxRecDepth 20000 in
theorem gX1_giveByAxiom_X1_giveChain : GoodIn wsX1_giveByAxiom (wsV RX1 109 RX1 yX1_giveChain wsX1_giveChain) := goodIn_app (goodIn_of _ (by decide +kernel)) ggX1_giveByAxiom_X1_giveChain
theorem dX1_giveByAxiom_0 : decode cX1_giveByAxiom 0 = .ok (.aload_n 1, 1) := by decide +kernel
theorem dX1_giveByAxiom_1 : decode cX1_giveByAxiom 1 = .ok (.getfield 86, 3) := by decide +kernel
theorem dX1_giveByAxiom_4 : decode cX1_giveByAxiom 4 = .ok (.iload_n 2, 1) := by decide +kernel
theorem dX1_giveByAxiom_5 : decode cX1_giveByAxiom 5 = .ok (.iaload, 1) := by decide +kernel
theorem dX1_giveByAxiom_6 : decode cX1_giveByAxiom 6 = .ok (.istore_n 3, 1) := by decide +kernel
theorem dX1_giveByAxiom_7 : decode cX1_giveByAxiom 7 = .ok (.aload_n 1, 1) := by decide +kernel
theorem dX1_giveByAxiom_8 : decode cX1_giveByAxiom 8 = .ok (.getfield 96, 3) := by decide +kernel
theorem dX1_giveByAxiom_11 : decode cX1_giveByAxiom 11 = .ok (.iload_n 2, 1) := by decide +kernel
theorem dX1_giveByAxiom_12 : decode cX1_giveByAxiom 12 = .ok (.iaload, 1) := by decide +kernel
theorem dX1_giveByAxiom_13 : decode cX1_giveByAxiom 13 = .ok (.istore 4, 2) := by decide +kernel
theorem dX1_giveByAxiom_15 : decode cX1_giveByAxiom 15 = .ok (.aload_n 1, 1) := by decide +kernel
theorem dX1_giveByAxiom_16 : decode cX1_giveByAxiom 16 = .ok (.getfield 99, 3) := by decide +kernel
theorem dX1_giveByAxiom_19 : decode cX1_giveByAxiom 19 = .ok (.iload_n 2, 1) := by decide +kernel
theorem dX1_giveByAxiom_20 : decode cX1_giveByAxiom 20 = .ok (.iaload, 1) := by decide +kernel
theorem dX1_giveByAxiom_21 : decode cX1_giveByAxiom 21 = .ok (.istore 5, 2) := by decide +kernel
theorem dX1_giveByAxiom_23 : decode cX1_giveByAxiom 23 = .ok (.aload_n 1, 1) := by decide +kernel
theorem dX1_giveByAxiom_24 : decode cX1_giveByAxiom 24 = .ok (.getfield 83, 3) := by decide +kernel
theorem dX1_giveByAxiom_27 : decode cX1_giveByAxiom 27 = .ok (.iload_n 2, 1) := by decide +kernel
theorem dX1_giveByAxiom_28 : decode cX1_giveByAxiom 28 = .ok (.iaload, 1) := by decide +kernel
theorem dX1_giveByAxiom_29 : decode cX1_giveByAxiom 29 = .ok (.tableswitch 134 1 6 #[39, 59, 72, 97, 110, 121], 39) := by decide +kernel
theorem dX1_giveByAxiom_68 : decode cX1_giveByAxiom 68 = .ok (.aload_n 0, 1) := by decide +kernel
theorem dX1_giveByAxiom_69 : decode cX1_giveByAxiom 69 = .ok (.aload_n 0, 1) := by decide +kernel
theorem dX1_giveByAxiom_70 : decode cX1_giveByAxiom 70 = .ok (.getfield 9, 3) := by decide +kernel
theorem dX1_giveByAxiom_73 : decode cX1_giveByAxiom 73 = .ok (.iload_n 3, 1) := by decide +kernel
theorem dX1_giveByAxiom_74 : decode cX1_giveByAxiom 74 = .ok (.iaload, 1) := by decide +kernel
theorem dX1_giveByAxiom_75 : decode cX1_giveByAxiom 75 = .ok (.iload 4, 2) := by decide +kernel
theorem dX1_giveByAxiom_77 : decode cX1_giveByAxiom 77 = .ok (.iload_n 2, 1) := by decide +kernel
theorem dX1_giveByAxiom_78 : decode cX1_giveByAxiom 78 = .ok (.iload_n 3, 1) := by decide +kernel
theorem dX1_giveByAxiom_79 : decode cX1_giveByAxiom 79 = .ok (.sipush 4095, 3) := by decide +kernel
theorem dX1_giveByAxiom_82 : decode cX1_giveByAxiom 82 = .ok (.invokevirtual 79, 3) := by decide +kernel
theorem dX1_giveByAxiom_85 : decode cX1_giveByAxiom 85 = .ok (.goto 78, 3) := by decide +kernel
theorem dX1_giveByAxiom_88 : decode cX1_giveByAxiom 88 = .ok (.aload_n 0, 1) := by decide +kernel
theorem dX1_giveByAxiom_89 : decode cX1_giveByAxiom 89 = .ok (.iload_n 2, 1) := by decide +kernel
theorem dX1_giveByAxiom_90 : decode cX1_giveByAxiom 90 = .ok (.iload_n 3, 1) := by decide +kernel
theorem dX1_giveByAxiom_91 : decode cX1_giveByAxiom 91 = .ok (.iload 4, 2) := by decide +kernel
theorem dX1_giveByAxiom_93 : decode cX1_giveByAxiom 93 = .ok (.iload 5, 2) := by decide +kernel
theorem dX1_giveByAxiom_95 : decode cX1_giveByAxiom 95 = .ok (.invokevirtual 102, 3) := by decide +kernel
theorem dX1_giveByAxiom_98 : decode cX1_giveByAxiom 98 = .ok (.goto 65, 3) := by decide +kernel
theorem dX1_giveByAxiom_101 : decode cX1_giveByAxiom 101 = .ok (.aload_n 0, 1) := by decide +kernel
theorem dX1_giveByAxiom_102 : decode cX1_giveByAxiom 102 = .ok (.aload_n 0, 1) := by decide +kernel
theorem dX1_giveByAxiom_103 : decode cX1_giveByAxiom 103 = .ok (.getfield 9, 3) := by decide +kernel
theorem dX1_giveByAxiom_106 : decode cX1_giveByAxiom 106 = .ok (.iload_n 3, 1) := by decide +kernel
theorem dX1_giveByAxiom_107 : decode cX1_giveByAxiom 107 = .ok (.iaload, 1) := by decide +kernel
theorem dX1_giveByAxiom_108 : decode cX1_giveByAxiom 108 = .ok (.iload 4, 2) := by decide +kernel
theorem dX1_giveByAxiom_110 : decode cX1_giveByAxiom 110 = .ok (.iload 5, 2) := by decide +kernel
theorem dX1_giveByAxiom_112 : decode cX1_giveByAxiom 112 = .ok (.invokestatic 92, 3) := by decide +kernel
theorem dX1_giveByAxiom_115 : decode cX1_giveByAxiom 115 = .ok (.iload_n 2, 1) := by decide +kernel
theorem dX1_giveByAxiom_116 : decode cX1_giveByAxiom 116 = .ok (.iload_n 3, 1) := by decide +kernel
theorem dX1_giveByAxiom_117 : decode cX1_giveByAxiom 117 = .ok (.sipush 4095, 3) := by decide +kernel
theorem dX1_giveByAxiom_120 : decode cX1_giveByAxiom 120 = .ok (.invokevirtual 79, 3) := by decide +kernel
theorem dX1_giveByAxiom_123 : decode cX1_giveByAxiom 123 = .ok (.goto 40, 3) := by decide +kernel
theorem dX1_giveByAxiom_126 : decode cX1_giveByAxiom 126 = .ok (.aload_n 0, 1) := by decide +kernel
theorem dX1_giveByAxiom_127 : decode cX1_giveByAxiom 127 = .ok (.iload_n 2, 1) := by decide +kernel
theorem dX1_giveByAxiom_128 : decode cX1_giveByAxiom 128 = .ok (.iload_n 3, 1) := by decide +kernel
theorem dX1_giveByAxiom_129 : decode cX1_giveByAxiom 129 = .ok (.iload 4, 2) := by decide +kernel
theorem dX1_giveByAxiom_131 : decode cX1_giveByAxiom 131 = .ok (.iload 5, 2) := by decide +kernel
theorem dX1_giveByAxiom_133 : decode cX1_giveByAxiom 133 = .ok (.invokevirtual 64, 3) := by decide +kernel
theorem dX1_giveByAxiom_136 : decode cX1_giveByAxiom 136 = .ok (.goto 27, 3) := by decide +kernel
theorem dX1_giveByAxiom_139 : decode cX1_giveByAxiom 139 = .ok (.aload_n 0, 1) := by decide +kernel
theorem dX1_giveByAxiom_140 : decode cX1_giveByAxiom 140 = .ok (.iload_n 2, 1) := by decide +kernel
theorem dX1_giveByAxiom_141 : decode cX1_giveByAxiom 141 = .ok (.iload_n 3, 1) := by decide +kernel
theorem dX1_giveByAxiom_142 : decode cX1_giveByAxiom 142 = .ok (.iload 4, 2) := by decide +kernel
theorem dX1_giveByAxiom_144 : decode cX1_giveByAxiom 144 = .ok (.invokevirtual 105, 3) := by decide +kernel
theorem dX1_giveByAxiom_147 : decode cX1_giveByAxiom 147 = .ok (.goto 16, 3) := by decide +kernel
theorem dX1_giveByAxiom_150 : decode cX1_giveByAxiom 150 = .ok (.aload_n 0, 1) := by decide +kernel
theorem dX1_giveByAxiom_151 : decode cX1_giveByAxiom 151 = .ok (.iload_n 2, 1) := by decide +kernel
theorem dX1_giveByAxiom_152 : decode cX1_giveByAxiom 152 = .ok (.iload_n 3, 1) := by decide +kernel
theorem dX1_giveByAxiom_153 : decode cX1_giveByAxiom 153 = .ok (.iload 4, 2) := by decide +kernel
theorem dX1_giveByAxiom_155 : decode cX1_giveByAxiom 155 = .ok (.iload 5, 2) := by decide +kernel
theorem dX1_giveByAxiom_157 : decode cX1_giveByAxiom 157 = .ok (.invokevirtual 109, 3) := by decide +kernel
theorem dX1_giveByAxiom_160 : decode cX1_giveByAxiom 160 = .ok (.goto 3, 3) := by decide +kernel
theorem dX1_giveByAxiom_163 : decode cX1_giveByAxiom 163 = .ok (.return_, 1) := by decide +kernel
set_option maxRecDepth 20000 in
theorem ggX1_giveToBoth_X3_isIn : GoodIn wsX1_giveToBoth wsX3_isIn := goodIn_r _ [6] (by decide +kernel) (by decide +kernel)
set_option maxRecDepth 20000 in
theorem gX1_giveToBoth_X3_isIn_n112 : GoodIn wsX1_giveToBoth (wsX3_isIn) := ggX1_giveToBoth_X3_isIn
set_option maxRecDepth 20000 in
theorem ggX1_giveToBoth_X3_codeOf : GoodIn wsX1_giveToBoth wsX3_codeOf := goodIn_r _ [8] (by decide +kernel) (by decide +kernel)
set_option maxRecDepth 20000 in
theorem gX1_giveToBoth_X3_codeOf_n116 : GoodIn wsX1_giveToBoth (wsX3_codeOf) := ggX1_giveToBoth_X3_codeOf
set_option maxRecDepth 20000 in
theorem ggX1_giveToBoth_X1_give : GoodIn wsX1_giveToBoth wsX1_give := goodIn_r _ [13, 2, 14, 3, 15, 16, 4, 5, 6, 7, 8, 17, 18, 19, 20, 21, 22, 23, 24] (by decide +kernel) (by decide +kernel)
set_option maxRecDepth 20000 in
theorem gX1_giveToBoth_X1_give : GoodIn wsX1_giveToBoth (wsV RX1 79 RX1 yX1_give wsX1_give) := goodIn_app (goodIn_of _ (by decide +kernel)) ggX1_giveToBoth_X1_give
theorem dX1_giveToBoth_0 : decode cX1_giveToBoth 0 = .ok (.aload_n 0, 1) := by decide +kernel
theorem dX1_giveToBoth_1 : decode cX1_giveToBoth 1 = .ok (.getfield 9, 3) := by decide +kernel
theorem dX1_giveToBoth_4 : decode cX1_giveToBoth 4 = .ok (.iload_n 2, 1) := by decide +kernel
theorem dX1_giveToBoth_5 : decode cX1_giveToBoth 5 = .ok (.iaload, 1) := by decide +kernel
theorem dX1_giveToBoth_6 : decode cX1_giveToBoth 6 = .ok (.aload_n 0, 1) := by decide +kernel
theorem dX1_giveToBoth_7 : decode cX1_giveToBoth 7 = .ok (.getfield 9, 3) := by decide +kernel
theorem dX1_giveToBoth_10 : decode cX1_giveToBoth 10 = .ok (.iload_n 3, 1) := by decide +kernel
theorem dX1_giveToBoth_11 : decode cX1_giveToBoth 11 = .ok (.iaload, 1) := by decide +kernel
theorem dX1_giveToBoth_12 : decode cX1_giveToBoth 12 = .ok (.iand, 1) := by decide +kernel
theorem dX1_giveToBoth_13 : decode cX1_giveToBoth 13 = .ok (.aload_n 0, 1) := by decide +kernel
theorem dX1_giveToBoth_14 : decode cX1_giveToBoth 14 = .ok (.getfield 15, 3) := by decide +kernel
theorem dX1_giveToBoth_17 : decode cX1_giveToBoth 17 = .ok (.iload 4, 2) := by decide +kernel
theorem dX1_giveToBoth_19 : decode cX1_giveToBoth 19 = .ok (.iaload, 1) := by decide +kernel
theorem dX1_giveToBoth_20 : decode cX1_giveToBoth 20 = .ok (.iconst (-1), 1) := by decide +kernel
theorem dX1_giveToBoth_21 : decode cX1_giveToBoth 21 = .ok (.ixor, 1) := by decide +kernel
theorem dX1_giveToBoth_22 : decode cX1_giveToBoth 22 = .ok (.iand, 1) := by decide +kernel
theorem dX1_giveToBoth_23 : decode cX1_giveToBoth 23 = .ok (.istore 5, 2) := by decide +kernel
theorem dX1_giveToBoth_25 : decode cX1_giveToBoth 25 = .ok (.iconst 0, 1) := by decide +kernel
theorem dX1_giveToBoth_26 : decode cX1_giveToBoth 26 = .ok (.istore 6, 2) := by decide +kernel
theorem dX1_giveToBoth_28 : decode cX1_giveToBoth 28 = .ok (.iload 6, 2) := by decide +kernel
theorem dX1_giveToBoth_30 : decode cX1_giveToBoth 30 = .ok (.aload_n 0, 1) := by decide +kernel
theorem dX1_giveToBoth_31 : decode cX1_giveToBoth 31 = .ok (.getfield 25, 3) := by decide +kernel
theorem dX1_giveToBoth_34 : decode cX1_giveToBoth 34 = .ok (.if_icmp .ge 42, 3) := by decide +kernel
theorem dX1_giveToBoth_37 : decode cX1_giveToBoth 37 = .ok (.iload 5, 2) := by decide +kernel
theorem dX1_giveToBoth_39 : decode cX1_giveToBoth 39 = .ok (.ifCond .eq 37, 3) := by decide +kernel
theorem dX1_giveToBoth_42 : decode cX1_giveToBoth 42 = .ok (.iload 6, 2) := by decide +kernel
theorem dX1_giveToBoth_44 : decode cX1_giveToBoth 44 = .ok (.iload 5, 2) := by decide +kernel
theorem dX1_giveToBoth_46 : decode cX1_giveToBoth 46 = .ok (.invokestatic 112, 3) := by decide +kernel
theorem dX1_giveToBoth_49 : decode cX1_giveToBoth 49 = .ok (.ifCond .eq 21, 3) := by decide +kernel
theorem dX1_giveToBoth_52 : decode cX1_giveToBoth 52 = .ok (.aload_n 0, 1) := by decide +kernel
theorem dX1_giveToBoth_53 : decode cX1_giveToBoth 53 = .ok (.iconst 1, 1) := by decide +kernel
theorem dX1_giveToBoth_54 : decode cX1_giveToBoth 54 = .ok (.iload 6, 2) := by decide +kernel
theorem dX1_giveToBoth_56 : decode cX1_giveToBoth 56 = .ok (.ishl, 1) := by decide +kernel
theorem dX1_giveToBoth_57 : decode cX1_giveToBoth 57 = .ok (.iload 4, 2) := by decide +kernel
theorem dX1_giveToBoth_59 : decode cX1_giveToBoth 59 = .ok (.iload_n 1, 1) := by decide +kernel
theorem dX1_giveToBoth_60 : decode cX1_giveToBoth 60 = .ok (.iload_n 2, 1) := by decide +kernel
theorem dX1_giveToBoth_61 : decode cX1_giveToBoth 61 = .ok (.iload 6, 2) := by decide +kernel
theorem dX1_giveToBoth_63 : decode cX1_giveToBoth 63 = .ok (.iload_n 3, 1) := by decide +kernel
theorem dX1_giveToBoth_64 : decode cX1_giveToBoth 64 = .ok (.invokestatic 116, 3) := by decide +kernel
theorem dX1_giveToBoth_67 : decode cX1_giveToBoth 67 = .ok (.invokevirtual 79, 3) := by decide +kernel
theorem dX1_giveToBoth_70 : decode cX1_giveToBoth 70 = .ok (.iinc 6 1, 3) := by decide +kernel
theorem dX1_giveToBoth_73 : decode cX1_giveToBoth 73 = .ok (.goto (-45), 3) := by decide +kernel
theorem dX1_giveToBoth_76 : decode cX1_giveToBoth 76 = .ok (.return_, 1) := by decide +kernel
set_option maxRecDepth 20000 in
theorem ggX1_giveToWhatHas_X3_isIn : GoodIn wsX1_giveToWhatHas wsX3_isIn := goodIn_r _ [5] (by decide +kernel) (by decide +kernel)
set_option maxRecDepth 20000 in
theorem gX1_giveToWhatHas_X3_isIn_n112 : GoodIn wsX1_giveToWhatHas (wsX3_isIn) := ggX1_giveToWhatHas_X3_isIn
set_option maxRecDepth 20000 in
theorem ggX1_giveToWhatHas_X3_linkColumn : GoodIn wsX1_giveToWhatHas wsX3_linkColumn := goodIn_r _ [7] (by decide +kernel) (by decide +kernel)
set_option maxRecDepth 20000 in
theorem gX1_giveToWhatHas_X3_linkColumn_n92 : GoodIn wsX1_giveToWhatHas (wsX3_linkColumn) := ggX1_giveToWhatHas_X3_linkColumn
set_option maxRecDepth 20000 in
theorem ggX1_giveToWhatHas_X3_codeOf : GoodIn wsX1_giveToWhatHas wsX3_codeOf := goodIn_r _ [9] (by decide +kernel) (by decide +kernel)
set_option maxRecDepth 20000 in
theorem gX1_giveToWhatHas_X3_codeOf_n116 : GoodIn wsX1_giveToWhatHas (wsX3_codeOf) := ggX1_giveToWhatHas_X3_codeOf
set_option maxRecDepth 20000 in
theorem ggX1_giveToWhatHas_X1_give : GoodIn wsX1_giveToWhatHas wsX1_give := goodIn_r _ [14, 15, 16, 2, 17, 18, 3, 4, 5, 8, 9, 19, 20, 21, 22, 23, 24, 25, 26] (by decide +kernel) (by decide +kernel)
set_option maxRecDepth 20000 in
theorem gX1_giveToWhatHas_X1_give : GoodIn wsX1_giveToWhatHas (wsV RX1 79 RX1 yX1_give wsX1_give) := goodIn_app (goodIn_of _ (by decide +kernel)) ggX1_giveToWhatHas_X1_give
theorem dX1_giveToWhatHas_0 : decode cX1_giveToWhatHas 0 = .ok (.aload_n 0, 1) := by decide +kernel
theorem dX1_giveToWhatHas_1 : decode cX1_giveToWhatHas 1 = .ok (.getfield 9, 3) := by decide +kernel
theorem dX1_giveToWhatHas_4 : decode cX1_giveToWhatHas 4 = .ok (.iload_n 3, 1) := by decide +kernel
theorem dX1_giveToWhatHas_5 : decode cX1_giveToWhatHas 5 = .ok (.iaload, 1) := by decide +kernel
theorem dX1_giveToWhatHas_6 : decode cX1_giveToWhatHas 6 = .ok (.istore 5, 2) := by decide +kernel
theorem dX1_giveToWhatHas_8 : decode cX1_giveToWhatHas 8 = .ok (.iconst 0, 1) := by decide +kernel
theorem dX1_giveToWhatHas_9 : decode cX1_giveToWhatHas 9 = .ok (.istore 6, 2) := by decide +kernel
theorem dX1_giveToWhatHas_11 : decode cX1_giveToWhatHas 11 = .ok (.iload 6, 2) := by decide +kernel
theorem dX1_giveToWhatHas_13 : decode cX1_giveToWhatHas 13 = .ok (.aload_n 0, 1) := by decide +kernel
theorem dX1_giveToWhatHas_14 : decode cX1_giveToWhatHas 14 = .ok (.getfield 25, 3) := by decide +kernel
theorem dX1_giveToWhatHas_17 : decode cX1_giveToWhatHas 17 = .ok (.if_icmp .ge 49, 3) := by decide +kernel
theorem dX1_giveToWhatHas_20 : decode cX1_giveToWhatHas 20 = .ok (.iload 6, 2) := by decide +kernel
theorem dX1_giveToWhatHas_22 : decode cX1_giveToWhatHas 22 = .ok (.iload 5, 2) := by decide +kernel
theorem dX1_giveToWhatHas_24 : decode cX1_giveToWhatHas 24 = .ok (.invokestatic 112, 3) := by decide +kernel
theorem dX1_giveToWhatHas_27 : decode cX1_giveToWhatHas 27 = .ok (.ifCond .eq 33, 3) := by decide +kernel
theorem dX1_giveToWhatHas_30 : decode cX1_giveToWhatHas 30 = .ok (.iload_n 2, 1) := by decide +kernel
theorem dX1_giveToWhatHas_31 : decode cX1_giveToWhatHas 31 = .ok (.iload 6, 2) := by decide +kernel
theorem dX1_giveToWhatHas_33 : decode cX1_giveToWhatHas 33 = .ok (.invokestatic 92, 3) := by decide +kernel
theorem dX1_giveToWhatHas_36 : decode cX1_giveToWhatHas 36 = .ok (.istore 7, 2) := by decide +kernel
theorem dX1_giveToWhatHas_38 : decode cX1_giveToWhatHas 38 = .ok (.aload_n 0, 1) := by decide +kernel
theorem dX1_giveToWhatHas_39 : decode cX1_giveToWhatHas 39 = .ok (.aload_n 0, 1) := by decide +kernel
theorem dX1_giveToWhatHas_40 : decode cX1_giveToWhatHas 40 = .ok (.getfield 9, 3) := by decide +kernel
theorem dX1_giveToWhatHas_43 : decode cX1_giveToWhatHas 43 = .ok (.iload 7, 2) := by decide +kernel
theorem dX1_giveToWhatHas_45 : decode cX1_giveToWhatHas 45 = .ok (.iaload, 1) := by decide +kernel
theorem dX1_giveToWhatHas_46 : decode cX1_giveToWhatHas 46 = .ok (.iload 4, 2) := by decide +kernel
theorem dX1_giveToWhatHas_48 : decode cX1_giveToWhatHas 48 = .ok (.iload_n 1, 1) := by decide +kernel
theorem dX1_giveToWhatHas_49 : decode cX1_giveToWhatHas 49 = .ok (.iload 7, 2) := by decide +kernel
theorem dX1_giveToWhatHas_51 : decode cX1_giveToWhatHas 51 = .ok (.iload 6, 2) := by decide +kernel
theorem dX1_giveToWhatHas_53 : decode cX1_giveToWhatHas 53 = .ok (.iload_n 3, 1) := by decide +kernel
theorem dX1_giveToWhatHas_54 : decode cX1_giveToWhatHas 54 = .ok (.invokestatic 116, 3) := by decide +kernel
theorem dX1_giveToWhatHas_57 : decode cX1_giveToWhatHas 57 = .ok (.invokevirtual 79, 3) := by decide +kernel
theorem dX1_giveToWhatHas_60 : decode cX1_giveToWhatHas 60 = .ok (.iinc 6 1, 3) := by decide +kernel
theorem dX1_giveToWhatHas_63 : decode cX1_giveToWhatHas 63 = .ok (.goto (-52), 3) := by decide +kernel
theorem dX1_giveToWhatHas_66 : decode cX1_giveToWhatHas 66 = .ok (.return_, 1) := by decide +kernel
set_option maxRecDepth 20000 in
theorem ggX1_giveRole_X3_linkColumn : GoodIn wsX1_giveRole wsX3_linkColumn := goodIn_r _ [5] (by decide +kernel) (by decide +kernel)
set_option maxRecDepth 20000 in
theorem gX1_giveRole_X3_linkColumn_n92 : GoodIn wsX1_giveRole (wsX3_linkColumn) := ggX1_giveRole_X3_linkColumn
set_option maxRecDepth 20000 in
theorem ggX1_giveRole_X1_give : GoodIn wsX1_giveRole wsX1_give := goodIn_r _ [10, 11, 12, 1, 13, 14, 15, 4, 16, 17, 18, 19, 20, 21, 22, 23, 24, 25, 26] (by decide +kernel) (by decide +kernel)
set_option maxRecDepth 20000 in
theorem gX1_giveRole_X1_give : GoodIn wsX1_giveRole (wsV RX1 79 RX1 yX1_give wsX1_give) := goodIn_app (goodIn_of _ (by decide +kernel)) ggX1_giveRole_X1_give
theorem dX1_giveRole_0 : decode cX1_giveRole 0 = .ok (.iconst 0, 1) := by decide +kernel
theorem dX1_giveRole_1 : decode cX1_giveRole 1 = .ok (.istore 4, 2) := by decide +kernel
theorem dX1_giveRole_3 : decode cX1_giveRole 3 = .ok (.iload 4, 2) := by decide +kernel
theorem dX1_giveRole_5 : decode cX1_giveRole 5 = .ok (.aload_n 0, 1) := by decide +kernel
theorem dX1_giveRole_6 : decode cX1_giveRole 6 = .ok (.getfield 25, 3) := by decide +kernel
theorem dX1_giveRole_9 : decode cX1_giveRole 9 = .ok (.if_icmp .ge 40, 3) := by decide +kernel
theorem dX1_giveRole_12 : decode cX1_giveRole 12 = .ok (.iload_n 2, 1) := by decide +kernel
theorem dX1_giveRole_13 : decode cX1_giveRole 13 = .ok (.iload 4, 2) := by decide +kernel
theorem dX1_giveRole_15 : decode cX1_giveRole 15 = .ok (.invokestatic 92, 3) := by decide +kernel
theorem dX1_giveRole_18 : decode cX1_giveRole 18 = .ok (.istore 5, 2) := by decide +kernel
theorem dX1_giveRole_20 : decode cX1_giveRole 20 = .ok (.aload_n 0, 1) := by decide +kernel
theorem dX1_giveRole_21 : decode cX1_giveRole 21 = .ok (.aload_n 0, 1) := by decide +kernel
theorem dX1_giveRole_22 : decode cX1_giveRole 22 = .ok (.getfield 9, 3) := by decide +kernel
theorem dX1_giveRole_25 : decode cX1_giveRole 25 = .ok (.iload 5, 2) := by decide +kernel
theorem dX1_giveRole_27 : decode cX1_giveRole 27 = .ok (.iaload, 1) := by decide +kernel
theorem dX1_giveRole_28 : decode cX1_giveRole 28 = .ok (.iload_n 3, 1) := by decide +kernel
theorem dX1_giveRole_29 : decode cX1_giveRole 29 = .ok (.iload 4, 2) := by decide +kernel
theorem dX1_giveRole_31 : decode cX1_giveRole 31 = .ok (.invokestatic 92, 3) := by decide +kernel
theorem dX1_giveRole_34 : decode cX1_giveRole 34 = .ok (.iload_n 1, 1) := by decide +kernel
theorem dX1_giveRole_35 : decode cX1_giveRole 35 = .ok (.iload 5, 2) := by decide +kernel
theorem dX1_giveRole_37 : decode cX1_giveRole 37 = .ok (.sipush 4095, 3) := by decide +kernel
theorem dX1_giveRole_40 : decode cX1_giveRole 40 = .ok (.invokevirtual 79, 3) := by decide +kernel
theorem dX1_giveRole_43 : decode cX1_giveRole 43 = .ok (.iinc 4 1, 3) := by decide +kernel
theorem dX1_giveRole_46 : decode cX1_giveRole 46 = .ok (.goto (-43), 3) := by decide +kernel
theorem dX1_giveRole_49 : decode cX1_giveRole 49 = .ok (.return_, 1) := by decide +kernel
set_option maxRecDepth 20000 in
theorem ggX1_giveChain_X3_linkColumn : GoodIn wsX1_giveChain wsX3_linkColumn := goodIn_r _ [5] (by decide +kernel) (by decide +kernel)
set_option maxRecDepth 20000 in
theorem gX1_giveChain_X3_linkColumn_n92 : GoodIn wsX1_giveChain (wsX3_linkColumn) := ggX1_giveChain_X3_linkColumn
set_option maxRecDepth 20000 in
theorem ggX1_giveChain_X3_isIn : GoodIn wsX1_giveChain wsX3_isIn := goodIn_r _ [7] (by decide +kernel) (by decide +kernel)
set_option maxRecDepth 20000 in
theorem gX1_giveChain_X3_isIn_n112 : GoodIn wsX1_giveChain (wsX3_isIn) := ggX1_giveChain_X3_isIn
set_option maxRecDepth 20000 in
theorem ggX1_giveChain_X3_codeOf : GoodIn wsX1_giveChain wsX3_codeOf := goodIn_r _ [9] (by decide +kernel) (by decide +kernel)
set_option maxRecDepth 20000 in
theorem gX1_giveChain_X3_codeOf_n116 : GoodIn wsX1_giveChain (wsX3_codeOf) := ggX1_giveChain_X3_codeOf
set_option maxRecDepth 20000 in
theorem ggX1_giveChain_X1_give : GoodIn wsX1_giveChain wsX1_give := goodIn_r _ [14, 15, 16, 1, 17, 18, 6, 4, 7, 8, 9, 19, 20, 21, 22, 23, 24, 25, 26] (by decide +kernel) (by decide +kernel)
set_option maxRecDepth 20000 in
theorem gX1_giveChain_X1_give : GoodIn wsX1_giveChain (wsV RX1 79 RX1 yX1_give wsX1_give) := goodIn_app (goodIn_of _ (by decide +kernel)) ggX1_giveChain_X1_give
theorem dX1_giveChain_0 : decode cX1_giveChain 0 = .ok (.iconst 0, 1) := by decide +kernel
theorem dX1_giveChain_1 : decode cX1_giveChain 1 = .ok (.istore 5, 2) := by decide +kernel
theorem dX1_giveChain_3 : decode cX1_giveChain 3 = .ok (.iload 5, 2) := by decide +kernel
theorem dX1_giveChain_5 : decode cX1_giveChain 5 = .ok (.aload_n 0, 1) := by decide +kernel
theorem dX1_giveChain_6 : decode cX1_giveChain 6 = .ok (.getfield 25, 3) := by decide +kernel
theorem dX1_giveChain_9 : decode cX1_giveChain 9 = .ok (.if_icmp .ge 95, 3) := by decide +kernel
theorem dX1_giveChain_12 : decode cX1_giveChain 12 = .ok (.iload_n 3, 1) := by decide +kernel
theorem dX1_giveChain_13 : decode cX1_giveChain 13 = .ok (.iload 5, 2) := by decide +kernel
theorem dX1_giveChain_15 : decode cX1_giveChain 15 = .ok (.invokestatic 92, 3) := by decide +kernel
theorem dX1_giveChain_18 : decode cX1_giveChain 18 = .ok (.istore 6, 2) := by decide +kernel
theorem dX1_giveChain_20 : decode cX1_giveChain 20 = .ok (.aload_n 0, 1) := by decide +kernel
theorem dX1_giveChain_21 : decode cX1_giveChain 21 = .ok (.getfield 9, 3) := by decide +kernel
theorem dX1_giveChain_24 : decode cX1_giveChain 24 = .ok (.iload 6, 2) := by decide +kernel
theorem dX1_giveChain_26 : decode cX1_giveChain 26 = .ok (.iaload, 1) := by decide +kernel
theorem dX1_giveChain_27 : decode cX1_giveChain 27 = .ok (.istore 7, 2) := by decide +kernel
theorem dX1_giveChain_29 : decode cX1_giveChain 29 = .ok (.iconst 0, 1) := by decide +kernel
theorem dX1_giveChain_30 : decode cX1_giveChain 30 = .ok (.istore 8, 2) := by decide +kernel
theorem dX1_giveChain_32 : decode cX1_giveChain 32 = .ok (.iload 8, 2) := by decide +kernel
theorem dX1_giveChain_34 : decode cX1_giveChain 34 = .ok (.aload_n 0, 1) := by decide +kernel
theorem dX1_giveChain_35 : decode cX1_giveChain 35 = .ok (.getfield 25, 3) := by decide +kernel
theorem dX1_giveChain_38 : decode cX1_giveChain 38 = .ok (.if_icmp .ge 60, 3) := by decide +kernel
theorem dX1_giveChain_41 : decode cX1_giveChain 41 = .ok (.iload 7, 2) := by decide +kernel
theorem dX1_giveChain_43 : decode cX1_giveChain 43 = .ok (.ifCond .eq 55, 3) := by decide +kernel
theorem dX1_giveChain_46 : decode cX1_giveChain 46 = .ok (.iload 8, 2) := by decide +kernel
theorem dX1_giveChain_48 : decode cX1_giveChain 48 = .ok (.iload 7, 2) := by decide +kernel
theorem dX1_giveChain_50 : decode cX1_giveChain 50 = .ok (.invokestatic 112, 3) := by decide +kernel
theorem dX1_giveChain_53 : decode cX1_giveChain 53 = .ok (.ifCond .eq 39, 3) := by decide +kernel
theorem dX1_giveChain_56 : decode cX1_giveChain 56 = .ok (.iload_n 2, 1) := by decide +kernel
theorem dX1_giveChain_57 : decode cX1_giveChain 57 = .ok (.iload 8, 2) := by decide +kernel
theorem dX1_giveChain_59 : decode cX1_giveChain 59 = .ok (.invokestatic 92, 3) := by decide +kernel
theorem dX1_giveChain_62 : decode cX1_giveChain 62 = .ok (.istore 9, 2) := by decide +kernel
theorem dX1_giveChain_64 : decode cX1_giveChain 64 = .ok (.aload_n 0, 1) := by decide +kernel
theorem dX1_giveChain_65 : decode cX1_giveChain 65 = .ok (.aload_n 0, 1) := by decide +kernel
theorem dX1_giveChain_66 : decode cX1_giveChain 66 = .ok (.getfield 9, 3) := by decide +kernel
theorem dX1_giveChain_69 : decode cX1_giveChain 69 = .ok (.iload 9, 2) := by decide +kernel
theorem dX1_giveChain_71 : decode cX1_giveChain 71 = .ok (.iaload, 1) := by decide +kernel
theorem dX1_giveChain_72 : decode cX1_giveChain 72 = .ok (.iload 4, 2) := by decide +kernel
theorem dX1_giveChain_74 : decode cX1_giveChain 74 = .ok (.iload 5, 2) := by decide +kernel
theorem dX1_giveChain_76 : decode cX1_giveChain 76 = .ok (.invokestatic 92, 3) := by decide +kernel
theorem dX1_giveChain_79 : decode cX1_giveChain 79 = .ok (.iload_n 1, 1) := by decide +kernel
theorem dX1_giveChain_80 : decode cX1_giveChain 80 = .ok (.iload 9, 2) := by decide +kernel
theorem dX1_giveChain_82 : decode cX1_giveChain 82 = .ok (.iload 8, 2) := by decide +kernel
theorem dX1_giveChain_84 : decode cX1_giveChain 84 = .ok (.iload 6, 2) := by decide +kernel
theorem dX1_giveChain_86 : decode cX1_giveChain 86 = .ok (.invokestatic 116, 3) := by decide +kernel
theorem dX1_giveChain_89 : decode cX1_giveChain 89 = .ok (.invokevirtual 79, 3) := by decide +kernel
theorem dX1_giveChain_92 : decode cX1_giveChain 92 = .ok (.iinc 8 1, 3) := by decide +kernel
theorem dX1_giveChain_95 : decode cX1_giveChain 95 = .ok (.goto (-63), 3) := by decide +kernel
theorem dX1_giveChain_98 : decode cX1_giveChain 98 = .ok (.iinc 5 1, 3) := by decide +kernel
theorem dX1_giveChain_101 : decode cX1_giveChain 101 = .ok (.goto (-98), 3) := by decide +kernel
theorem dX1_giveChain_104 : decode cX1_giveChain 104 = .ok (.return_, 1) := by decide +kernel
set_option maxRecDepth 20000 in
theorem ggX1_give_X3_isIn : GoodIn wsX1_give wsX3_isIn := goodIn_r _ [8] (by decide +kernel) (by decide +kernel)
set_option maxRecDepth 20000 in
theorem gX1_give_X3_isIn_n112 : GoodIn wsX1_give (wsX3_isIn) := ggX1_give_X3_isIn
set_option maxRecDepth 20000 in
theorem ggX1_give_X3_codeOf : GoodIn wsX1_give wsX3_codeOf := goodIn_r _ [10] (by decide +kernel) (by decide +kernel)
set_option maxRecDepth 20000 in
theorem gX1_give_X3_codeOf_n116 : GoodIn wsX1_give (wsX3_codeOf) := ggX1_give_X3_codeOf
theorem dX1_give_0 : decode cX1_give 0 = .ok (.iload_n 1, 1) := by decide +kernel
theorem dX1_give_1 : decode cX1_give 1 = .ok (.aload_n 0, 1) := by decide +kernel
theorem dX1_give_2 : decode cX1_give 2 = .ok (.getfield 15, 3) := by decide +kernel
theorem dX1_give_5 : decode cX1_give 5 = .ok (.iload_n 2, 1) := by decide +kernel
theorem dX1_give_6 : decode cX1_give 6 = .ok (.iaload, 1) := by decide +kernel
theorem dX1_give_7 : decode cX1_give 7 = .ok (.iconst (-1), 1) := by decide +kernel
theorem dX1_give_8 : decode cX1_give 8 = .ok (.ixor, 1) := by decide +kernel
theorem dX1_give_9 : decode cX1_give 9 = .ok (.iand, 1) := by decide +kernel
theorem dX1_give_10 : decode cX1_give 10 = .ok (.istore 6, 2) := by decide +kernel
theorem dX1_give_12 : decode cX1_give 12 = .ok (.iload 6, 2) := by decide +kernel
theorem dX1_give_14 : decode cX1_give 14 = .ok (.ifCond .ne 4, 3) := by decide +kernel
theorem dX1_give_17 : decode cX1_give 17 = .ok (.return_, 1) := by decide +kernel
theorem dX1_give_18 : decode cX1_give 18 = .ok (.aload_n 0, 1) := by decide +kernel
theorem dX1_give_19 : decode cX1_give 19 = .ok (.getfield 15, 3) := by decide +kernel
theorem dX1_give_22 : decode cX1_give 22 = .ok (.iload_n 2, 1) := by decide +kernel
theorem dX1_give_23 : decode cX1_give 23 = .ok (.dup2, 1) := by decide +kernel
theorem dX1_give_24 : decode cX1_give 24 = .ok (.iaload, 1) := by decide +kernel
theorem dX1_give_25 : decode cX1_give 25 = .ok (.iload 6, 2) := by decide +kernel
theorem dX1_give_27 : decode cX1_give 27 = .ok (.ior, 1) := by decide +kernel
theorem dX1_give_28 : decode cX1_give 28 = .ok (.iastore, 1) := by decide +kernel
theorem dX1_give_29 : decode cX1_give 29 = .ok (.aload_n 0, 1) := by decide +kernel
theorem dX1_give_30 : decode cX1_give 30 = .ok (.dup, 1) := by decide +kernel
theorem dX1_give_31 : decode cX1_give 31 = .ok (.getfield 35, 3) := by decide +kernel
theorem dX1_give_34 : decode cX1_give 34 = .ok (.iload 6, 2) := by decide +kernel
theorem dX1_give_36 : decode cX1_give 36 = .ok (.ior, 1) := by decide +kernel
theorem dX1_give_37 : decode cX1_give 37 = .ok (.putfield 35, 3) := by decide +kernel
theorem dX1_give_40 : decode cX1_give 40 = .ok (.iconst 0, 1) := by decide +kernel
theorem dX1_give_41 : decode cX1_give 41 = .ok (.istore 7, 2) := by decide +kernel
theorem dX1_give_43 : decode cX1_give 43 = .ok (.iload 7, 2) := by decide +kernel
theorem dX1_give_45 : decode cX1_give 45 = .ok (.aload_n 0, 1) := by decide +kernel
theorem dX1_give_46 : decode cX1_give 46 = .ok (.getfield 25, 3) := by decide +kernel
theorem dX1_give_49 : decode cX1_give 49 = .ok (.if_icmp .ge 78, 3) := by decide +kernel
theorem dX1_give_52 : decode cX1_give 52 = .ok (.iload 7, 2) := by decide +kernel
theorem dX1_give_54 : decode cX1_give 54 = .ok (.iload 6, 2) := by decide +kernel
theorem dX1_give_56 : decode cX1_give 56 = .ok (.invokestatic 112, 3) := by decide +kernel
theorem dX1_give_59 : decode cX1_give 59 = .ok (.ifCond .eq 62, 3) := by decide +kernel
theorem dX1_give_62 : decode cX1_give 62 = .ok (.iload 4, 2) := by decide +kernel
theorem dX1_give_64 : decode cX1_give 64 = .ok (.sipush 4095, 3) := by decide +kernel
theorem dX1_give_67 : decode cX1_give 67 = .ok (.if_icmp .ne 9, 3) := by decide +kernel
theorem dX1_give_70 : decode cX1_give 70 = .ok (.sipush 4095, 3) := by decide +kernel
theorem dX1_give_73 : decode cX1_give 73 = .ok (.goto 10, 3) := by decide +kernel
theorem dX1_give_76 : decode cX1_give 76 = .ok (.iload 7, 2) := by decide +kernel
theorem dX1_give_78 : decode cX1_give 78 = .ok (.iload 4, 2) := by decide +kernel
theorem dX1_give_80 : decode cX1_give 80 = .ok (.invokestatic 116, 3) := by decide +kernel
theorem dX1_give_83 : decode cX1_give 83 = .ok (.istore 8, 2) := by decide +kernel
theorem dX1_give_85 : decode cX1_give 85 = .ok (.aload_n 0, 1) := by decide +kernel
theorem dX1_give_86 : decode cX1_give 86 = .ok (.getfield 18, 3) := by decide +kernel
theorem dX1_give_89 : decode cX1_give 89 = .ok (.iload 7, 2) := by decide +kernel
theorem dX1_give_91 : decode cX1_give 91 = .ok (.iload_n 2, 1) := by decide +kernel
theorem dX1_give_92 : decode cX1_give 92 = .ok (.invokestatic 116, 3) := by decide +kernel
theorem dX1_give_95 : decode cX1_give 95 = .ok (.aload_n 0, 1) := by decide +kernel
theorem dX1_give_96 : decode cX1_give 96 = .ok (.getfield 32, 3) := by decide +kernel
theorem dX1_give_99 : decode cX1_give 99 = .ok (.i2l, 1) := by decide +kernel
theorem dX1_give_100 : decode cX1_give 100 = .ok (.bipush 32, 2) := by decide +kernel
theorem dX1_give_102 : decode cX1_give 102 = .ok (.lshl, 1) := by decide +kernel
theorem dX1_give_103 : decode cX1_give 103 = .ok (.iload_n 3, 1) := by decide +kernel
theorem dX1_give_104 : decode cX1_give 104 = .ok (.i2l, 1) := by decide +kernel
theorem dX1_give_105 : decode cX1_give 105 = .ok (.bipush 24, 2) := by decide +kernel
theorem dX1_give_107 : decode cX1_give 107 = .ok (.lshl, 1) := by decide +kernel
theorem dX1_give_108 : decode cX1_give 108 = .ok (.lor, 1) := by decide +kernel
theorem dX1_give_109 : decode cX1_give 109 = .ok (.iload 8, 2) := by decide +kernel
theorem dX1_give_111 : decode cX1_give 111 = .ok (.i2l, 1) := by decide +kernel
theorem dX1_give_112 : decode cX1_give 112 = .ok (.bipush 12, 2) := by decide +kernel
theorem dX1_give_114 : decode cX1_give 114 = .ok (.lshl, 1) := by decide +kernel
theorem dX1_give_115 : decode cX1_give 115 = .ok (.lor, 1) := by decide +kernel
theorem dX1_give_116 : decode cX1_give 116 = .ok (.iload 5, 2) := by decide +kernel
theorem dX1_give_118 : decode cX1_give 118 = .ok (.i2l, 1) := by decide +kernel
theorem dX1_give_119 : decode cX1_give 119 = .ok (.lor, 1) := by decide +kernel
theorem dX1_give_120 : decode cX1_give 120 = .ok (.lastore, 1) := by decide +kernel
theorem dX1_give_121 : decode cX1_give 121 = .ok (.iinc 7 1, 3) := by decide +kernel
theorem dX1_give_124 : decode cX1_give 124 = .ok (.goto (-81), 3) := by decide +kernel
theorem dX1_give_127 : decode cX1_give 127 = .ok (.return_, 1) := by decide +kernel
set_option maxRecDepth 20000 in
theorem ggX1_endRound_X1_listColumns : GoodIn wsX1_endRound wsX1_listColumns := goodIn_r _ [7, 8, 1, 9, 10, 11, 12, 13, 14, 6, 15, 16, 17, 18, 19, 20, 21, 22, 23, 24, 25, 26, 27, 28, 29] (by decide +kernel) (by decide +kernel)
set_option maxRecDepth 20000 in
theorem gX1_endRound_X1_listColumns : GoodIn wsX1_endRound (wsV RX1 119 RX1 yX1_listColumns wsX1_listColumns) := goodIn_app (goodIn_of _ (by decide +kernel)) ggX1_endRound_X1_listColumns
theorem dX1_endRound_0 : decode cX1_endRound 0 = .ok (.aload_n 0, 1) := by decide +kernel
theorem dX1_endRound_1 : decode cX1_endRound 1 = .ok (.getfield 35, 3) := by decide +kernel
theorem dX1_endRound_4 : decode cX1_endRound 4 = .ok (.ifCond .ne 4, 3) := by decide +kernel
theorem dX1_endRound_7 : decode cX1_endRound 7 = .ok (.return_, 1) := by decide +kernel
theorem dX1_endRound_8 : decode cX1_endRound 8 = .ok (.aload_n 0, 1) := by decide +kernel
theorem dX1_endRound_9 : decode cX1_endRound 9 = .ok (.iconst 0, 1) := by decide +kernel
theorem dX1_endRound_10 : decode cX1_endRound 10 = .ok (.bipush 24, 2) := by decide +kernel
theorem dX1_endRound_12 : decode cX1_endRound 12 = .ok (.invokevirtual 119, 3) := by decide +kernel
theorem dX1_endRound_15 : decode cX1_endRound 15 = .ok (.aload_n 0, 1) := by decide +kernel
theorem dX1_endRound_16 : decode cX1_endRound 16 = .ok (.bipush 24, 2) := by decide +kernel
theorem dX1_endRound_18 : decode cX1_endRound 18 = .ok (.sipush 168, 3) := by decide +kernel
theorem dX1_endRound_21 : decode cX1_endRound 21 = .ok (.invokevirtual 119, 3) := by decide +kernel
theorem dX1_endRound_24 : decode cX1_endRound 24 = .ok (.aload_n 0, 1) := by decide +kernel
theorem dX1_endRound_25 : decode cX1_endRound 25 = .ok (.dup, 1) := by decide +kernel
theorem dX1_endRound_26 : decode cX1_endRound 26 = .ok (.getfield 32, 3) := by decide +kernel
theorem dX1_endRound_29 : decode cX1_endRound 29 = .ok (.iconst 1, 1) := by decide +kernel
theorem dX1_endRound_30 : decode cX1_endRound 30 = .ok (.iadd, 1) := by decide +kernel
theorem dX1_endRound_31 : decode cX1_endRound 31 = .ok (.putfield 32, 3) := by decide +kernel
theorem dX1_endRound_34 : decode cX1_endRound 34 = .ok (.return_, 1) := by decide +kernel
set_option maxRecDepth 20000 in
theorem ggX1_listColumns_X3_isIn : GoodIn wsX1_listColumns wsX3_isIn := goodIn_r _ [5] (by decide +kernel) (by decide +kernel)
set_option maxRecDepth 20000 in
theorem gX1_listColumns_X3_isIn_n112 : GoodIn wsX1_listColumns (wsX3_isIn) := ggX1_listColumns_X3_isIn
set_option maxRecDepth 20000 in
theorem ggX1_listColumns_X1_listFactsOf : GoodIn wsX1_listColumns wsX1_listFactsOf := goodIn_r _ [10, 11, 12, 13, 14, 3, 4, 5, 15, 16, 17, 18, 19, 20, 21, 22, 23, 24] (by decide +kernel) (by decide +kernel)
set_option maxRecDepth 20000 in
theorem gX1_listColumns_X1_listFactsOf : GoodIn wsX1_listColumns (wsV RX1 123 RX1 yX1_listFactsOf wsX1_listFactsOf) := goodIn_app (goodIn_of _ (by decide +kernel)) ggX1_listColumns_X1_listFactsOf
theorem dX1_listColumns_0 : decode cX1_listColumns 0 = .ok (.iconst 0, 1) := by decide +kernel
theorem dX1_listColumns_1 : decode cX1_listColumns 1 = .ok (.istore_n 3, 1) := by decide +kernel
theorem dX1_listColumns_2 : decode cX1_listColumns 2 = .ok (.iload_n 3, 1) := by decide +kernel
theorem dX1_listColumns_3 : decode cX1_listColumns 3 = .ok (.aload_n 0, 1) := by decide +kernel
theorem dX1_listColumns_4 : decode cX1_listColumns 4 = .ok (.getfield 25, 3) := by decide +kernel
theorem dX1_listColumns_7 : decode cX1_listColumns 7 = .ok (.if_icmp .ge 27, 3) := by decide +kernel
theorem dX1_listColumns_10 : decode cX1_listColumns 10 = .ok (.iload_n 3, 1) := by decide +kernel
theorem dX1_listColumns_11 : decode cX1_listColumns 11 = .ok (.aload_n 0, 1) := by decide +kernel
theorem dX1_listColumns_12 : decode cX1_listColumns 12 = .ok (.getfield 35, 3) := by decide +kernel
theorem dX1_listColumns_15 : decode cX1_listColumns 15 = .ok (.invokestatic 112, 3) := by decide +kernel
theorem dX1_listColumns_18 : decode cX1_listColumns 18 = .ok (.ifCond .eq 10, 3) := by decide +kernel
theorem dX1_listColumns_21 : decode cX1_listColumns 21 = .ok (.aload_n 0, 1) := by decide +kernel
theorem dX1_listColumns_22 : decode cX1_listColumns 22 = .ok (.iload_n 3, 1) := by decide +kernel
theorem dX1_listColumns_23 : decode cX1_listColumns 23 = .ok (.iload_n 1, 1) := by decide +kernel
theorem dX1_listColumns_24 : decode cX1_listColumns 24 = .ok (.iload_n 2, 1) := by decide +kernel
theorem dX1_listColumns_25 : decode cX1_listColumns 25 = .ok (.invokevirtual 123, 3) := by decide +kernel
theorem dX1_listColumns_28 : decode cX1_listColumns 28 = .ok (.iinc 3 1, 3) := by decide +kernel
theorem dX1_listColumns_31 : decode cX1_listColumns 31 = .ok (.goto (-29), 3) := by decide +kernel
theorem dX1_listColumns_34 : decode cX1_listColumns 34 = .ok (.return_, 1) := by decide +kernel
set_option maxRecDepth 20000 in
theorem ggX1_listFactsOf_X3_isIn : GoodIn wsX1_listFactsOf wsX3_isIn := goodIn_r _ [7] (by decide +kernel) (by decide +kernel)
set_option maxRecDepth 20000 in
theorem gX1_listFactsOf_X3_isIn_n112 : GoodIn wsX1_listFactsOf (wsX3_isIn) := ggX1_listFactsOf_X3_isIn
set_option maxRecDepth 20000 in
theorem ggX1_listFactsOf_X3_codeOf : GoodIn wsX1_listFactsOf wsX3_codeOf := goodIn_r _ [9] (by decide +kernel) (by decide +kernel)
set_option maxRecDepth 20000 in
theorem gX1_listFactsOf_X3_codeOf_n116 : GoodIn wsX1_listFactsOf (wsX3_codeOf) := ggX1_listFactsOf_X3_codeOf
theorem dX1_listFactsOf_0 : decode cX1_listFactsOf 0 = .ok (.iload_n 2, 1) := by decide +kernel
theorem dX1_listFactsOf_1 : decode cX1_listFactsOf 1 = .ok (.istore 4, 2) := by decide +kernel
theorem dX1_listFactsOf_3 : decode cX1_listFactsOf 3 = .ok (.iload 4, 2) := by decide +kernel
theorem dX1_listFactsOf_5 : decode cX1_listFactsOf 5 = .ok (.iload_n 3, 1) := by decide +kernel
theorem dX1_listFactsOf_6 : decode cX1_listFactsOf 6 = .ok (.if_icmp .ge 68, 3) := by decide +kernel
theorem dX1_listFactsOf_9 : decode cX1_listFactsOf 9 = .ok (.iload_n 1, 1) := by decide +kernel
theorem dX1_listFactsOf_10 : decode cX1_listFactsOf 10 = .ok (.aload_n 0, 1) := by decide +kernel
theorem dX1_listFactsOf_11 : decode cX1_listFactsOf 11 = .ok (.getfield 15, 3) := by decide +kernel
theorem dX1_listFactsOf_14 : decode cX1_listFactsOf 14 = .ok (.iload 4, 2) := by decide +kernel
theorem dX1_listFactsOf_16 : decode cX1_listFactsOf 16 = .ok (.iaload, 1) := by decide +kernel
theorem dX1_listFactsOf_17 : decode cX1_listFactsOf 17 = .ok (.aload_n 0, 1) := by decide +kernel
theorem dX1_listFactsOf_18 : decode cX1_listFactsOf 18 = .ok (.getfield 9, 3) := by decide +kernel
theorem dX1_listFactsOf_21 : decode cX1_listFactsOf 21 = .ok (.iload 4, 2) := by decide +kernel
theorem dX1_listFactsOf_23 : decode cX1_listFactsOf 23 = .ok (.iaload, 1) := by decide +kernel
theorem dX1_listFactsOf_24 : decode cX1_listFactsOf 24 = .ok (.iconst (-1), 1) := by decide +kernel
theorem dX1_listFactsOf_25 : decode cX1_listFactsOf 25 = .ok (.ixor, 1) := by decide +kernel
theorem dX1_listFactsOf_26 : decode cX1_listFactsOf 26 = .ok (.iand, 1) := by decide +kernel
theorem dX1_listFactsOf_27 : decode cX1_listFactsOf 27 = .ok (.invokestatic 112, 3) := by decide +kernel
theorem dX1_listFactsOf_30 : decode cX1_listFactsOf 30 = .ok (.ifCond .eq 38, 3) := by decide +kernel
theorem dX1_listFactsOf_33 : decode cX1_listFactsOf 33 = .ok (.aload_n 0, 1) := by decide +kernel
theorem dX1_listFactsOf_34 : decode cX1_listFactsOf 34 = .ok (.getfield 29, 3) := by decide +kernel
theorem dX1_listFactsOf_37 : decode cX1_listFactsOf 37 = .ok (.sipush 4032, 3) := by decide +kernel
theorem dX1_listFactsOf_40 : decode cX1_listFactsOf 40 = .ok (.if_icmp .ge 28, 3) := by decide +kernel
theorem dX1_listFactsOf_43 : decode cX1_listFactsOf 43 = .ok (.aload_n 0, 1) := by decide +kernel
theorem dX1_listFactsOf_44 : decode cX1_listFactsOf 44 = .ok (.getfield 22, 3) := by decide +kernel
theorem dX1_listFactsOf_47 : decode cX1_listFactsOf 47 = .ok (.aload_n 0, 1) := by decide +kernel
theorem dX1_listFactsOf_48 : decode cX1_listFactsOf 48 = .ok (.getfield 29, 3) := by decide +kernel
theorem dX1_listFactsOf_51 : decode cX1_listFactsOf 51 = .ok (.iload_n 1, 1) := by decide +kernel
theorem dX1_listFactsOf_52 : decode cX1_listFactsOf 52 = .ok (.iload 4, 2) := by decide +kernel
theorem dX1_listFactsOf_54 : decode cX1_listFactsOf 54 = .ok (.invokestatic 116, 3) := by decide +kernel
theorem dX1_listFactsOf_57 : decode cX1_listFactsOf 57 = .ok (.iastore, 1) := by decide +kernel
theorem dX1_listFactsOf_58 : decode cX1_listFactsOf 58 = .ok (.aload_n 0, 1) := by decide +kernel
theorem dX1_listFactsOf_59 : decode cX1_listFactsOf 59 = .ok (.dup, 1) := by decide +kernel
theorem dX1_listFactsOf_60 : decode cX1_listFactsOf 60 = .ok (.getfield 29, 3) := by decide +kernel
theorem dX1_listFactsOf_63 : decode cX1_listFactsOf 63 = .ok (.iconst 1, 1) := by decide +kernel
theorem dX1_listFactsOf_64 : decode cX1_listFactsOf 64 = .ok (.iadd, 1) := by decide +kernel
theorem dX1_listFactsOf_65 : decode cX1_listFactsOf 65 = .ok (.putfield 29, 3) := by decide +kernel
theorem dX1_listFactsOf_68 : decode cX1_listFactsOf 68 = .ok (.iinc 4 1, 3) := by decide +kernel
theorem dX1_listFactsOf_71 : decode cX1_listFactsOf 71 = .ok (.goto (-68), 3) := by decide +kernel
theorem dX1_listFactsOf_74 : decode cX1_listFactsOf 74 = .ok (.return_, 1) := by decide +kernel
set_option maxRecDepth 20000 in
theorem ggX1_has_X3_isIn : GoodIn wsX1_has wsX3_isIn := goodIn_r _ [4] (by decide +kernel) (by decide +kernel)
set_option maxRecDepth 20000 in
theorem gX1_has_X3_isIn_n112 : GoodIn wsX1_has (wsX3_isIn) := ggX1_has_X3_isIn
theorem dX1_has_0 : decode cX1_has 0 = .ok (.iload_n 1, 1) := by decide +kernel
theorem dX1_has_1 : decode cX1_has 1 = .ok (.aload_n 0, 1) := by decide +kernel
theorem dX1_has_2 : decode cX1_has 2 = .ok (.getfield 15, 3) := by decide +kernel
theorem dX1_has_5 : decode cX1_has 5 = .ok (.iload_n 2, 1) := by decide +kernel
theorem dX1_has_6 : decode cX1_has 6 = .ok (.iaload, 1) := by decide +kernel
theorem dX1_has_7 : decode cX1_has 7 = .ok (.invokestatic 112, 3) := by decide +kernel
theorem dX1_has_10 : decode cX1_has 10 = .ok (.ireturn, 1) := by decide +kernel
theorem dX1_follows_0 : decode cX1_follows 0 = .ok (.iload_n 1, 1) := by decide +kernel
theorem dX1_follows_1 : decode cX1_follows 1 = .ok (.ifCond .lt 25, 3) := by decide +kernel
theorem dX1_follows_4 : decode cX1_follows 4 = .ok (.iload_n 1, 1) := by decide +kernel
theorem dX1_follows_5 : decode cX1_follows 5 = .ok (.sipush 4032, 3) := by decide +kernel
theorem dX1_follows_8 : decode cX1_follows 8 = .ok (.if_icmp .ge 18, 3) := by decide +kernel
theorem dX1_follows_11 : decode cX1_follows 11 = .ok (.aload_n 0, 1) := by decide +kernel
theorem dX1_follows_12 : decode cX1_follows 12 = .ok (.getfield 18, 3) := by decide +kernel
theorem dX1_follows_15 : decode cX1_follows 15 = .ok (.iload_n 1, 1) := by decide +kernel
theorem dX1_follows_16 : decode cX1_follows 16 = .ok (.laload, 1) := by decide +kernel
theorem dX1_follows_17 : decode cX1_follows 17 = .ok (.lconst 0, 1) := by decide +kernel
theorem dX1_follows_18 : decode cX1_follows 18 = .ok (.lcmp, 1) := by decide +kernel
theorem dX1_follows_19 : decode cX1_follows 19 = .ok (.ifCond .lt 7, 3) := by decide +kernel
theorem dX1_follows_22 : decode cX1_follows 22 = .ok (.iconst 1, 1) := by decide +kernel
theorem dX1_follows_23 : decode cX1_follows 23 = .ok (.goto 4, 3) := by decide +kernel
theorem dX1_follows_26 : decode cX1_follows 26 = .ok (.iconst 0, 1) := by decide +kernel
theorem dX1_follows_27 : decode cX1_follows 27 = .ok (.ireturn, 1) := by decide +kernel
theorem dX1_roundOf_0 : decode cX1_roundOf 0 = .ok (.aload_n 0, 1) := by decide +kernel
theorem dX1_roundOf_1 : decode cX1_roundOf 1 = .ok (.getfield 18, 3) := by decide +kernel
theorem dX1_roundOf_4 : decode cX1_roundOf 4 = .ok (.iload_n 1, 1) := by decide +kernel
theorem dX1_roundOf_5 : decode cX1_roundOf 5 = .ok (.laload, 1) := by decide +kernel
theorem dX1_roundOf_6 : decode cX1_roundOf 6 = .ok (.bipush 32, 2) := by decide +kernel
theorem dX1_roundOf_8 : decode cX1_roundOf 8 = .ok (.lshr, 1) := by decide +kernel
theorem dX1_roundOf_9 : decode cX1_roundOf 9 = .ok (.l2i, 1) := by decide +kernel
theorem dX1_roundOf_10 : decode cX1_roundOf 10 = .ok (.ireturn, 1) := by decide +kernel
theorem dX1_axiomOf_0 : decode cX1_axiomOf 0 = .ok (.aload_n 0, 1) := by decide +kernel
theorem dX1_axiomOf_1 : decode cX1_axiomOf 1 = .ok (.getfield 18, 3) := by decide +kernel
theorem dX1_axiomOf_4 : decode cX1_axiomOf 4 = .ok (.iload_n 1, 1) := by decide +kernel
theorem dX1_axiomOf_5 : decode cX1_axiomOf 5 = .ok (.laload, 1) := by decide +kernel
theorem dX1_axiomOf_6 : decode cX1_axiomOf 6 = .ok (.bipush 24, 2) := by decide +kernel
theorem dX1_axiomOf_8 : decode cX1_axiomOf 8 = .ok (.lshr, 1) := by decide +kernel
theorem dX1_axiomOf_9 : decode cX1_axiomOf 9 = .ok (.l2i, 1) := by decide +kernel
theorem dX1_axiomOf_10 : decode cX1_axiomOf 10 = .ok (.sipush 255, 3) := by decide +kernel
theorem dX1_axiomOf_13 : decode cX1_axiomOf 13 = .ok (.iand, 1) := by decide +kernel
theorem dX1_axiomOf_14 : decode cX1_axiomOf 14 = .ok (.istore_n 2, 1) := by decide +kernel
theorem dX1_axiomOf_15 : decode cX1_axiomOf 15 = .ok (.iload_n 2, 1) := by decide +kernel
theorem dX1_axiomOf_16 : decode cX1_axiomOf 16 = .ok (.sipush 255, 3) := by decide +kernel
theorem dX1_axiomOf_19 : decode cX1_axiomOf 19 = .ok (.if_icmp .ne 7, 3) := by decide +kernel
theorem dX1_axiomOf_22 : decode cX1_axiomOf 22 = .ok (.iconst (-1), 1) := by decide +kernel
theorem dX1_axiomOf_23 : decode cX1_axiomOf 23 = .ok (.goto 4, 3) := by decide +kernel
theorem dX1_axiomOf_26 : decode cX1_axiomOf 26 = .ok (.iload_n 2, 1) := by decide +kernel
theorem dX1_axiomOf_27 : decode cX1_axiomOf 27 = .ok (.ireturn, 1) := by decide +kernel
theorem dX1_firstPremiseOf_0 : decode cX1_firstPremiseOf 0 = .ok (.aload_n 0, 1) := by decide +kernel
theorem dX1_firstPremiseOf_1 : decode cX1_firstPremiseOf 1 = .ok (.getfield 18, 3) := by decide +kernel
theorem dX1_firstPremiseOf_4 : decode cX1_firstPremiseOf 4 = .ok (.iload_n 1, 1) := by decide +kernel
theorem dX1_firstPremiseOf_5 : decode cX1_firstPremiseOf 5 = .ok (.laload, 1) := by decide +kernel
theorem dX1_firstPremiseOf_6 : decode cX1_firstPremiseOf 6 = .ok (.bipush 12, 2) := by decide +kernel
theorem dX1_firstPremiseOf_8 : decode cX1_firstPremiseOf 8 = .ok (.lshr, 1) := by decide +kernel
theorem dX1_firstPremiseOf_9 : decode cX1_firstPremiseOf 9 = .ok (.l2i, 1) := by decide +kernel
theorem dX1_firstPremiseOf_10 : decode cX1_firstPremiseOf 10 = .ok (.sipush 4095, 3) := by decide +kernel
theorem dX1_firstPremiseOf_13 : decode cX1_firstPremiseOf 13 = .ok (.iand, 1) := by decide +kernel
theorem dX1_firstPremiseOf_14 : decode cX1_firstPremiseOf 14 = .ok (.istore_n 2, 1) := by decide +kernel
theorem dX1_firstPremiseOf_15 : decode cX1_firstPremiseOf 15 = .ok (.iload_n 2, 1) := by decide +kernel
theorem dX1_firstPremiseOf_16 : decode cX1_firstPremiseOf 16 = .ok (.sipush 4095, 3) := by decide +kernel
theorem dX1_firstPremiseOf_19 : decode cX1_firstPremiseOf 19 = .ok (.if_icmp .ne 7, 3) := by decide +kernel
theorem dX1_firstPremiseOf_22 : decode cX1_firstPremiseOf 22 = .ok (.iconst (-1), 1) := by decide +kernel
theorem dX1_firstPremiseOf_23 : decode cX1_firstPremiseOf 23 = .ok (.goto 4, 3) := by decide +kernel
theorem dX1_firstPremiseOf_26 : decode cX1_firstPremiseOf 26 = .ok (.iload_n 2, 1) := by decide +kernel
theorem dX1_firstPremiseOf_27 : decode cX1_firstPremiseOf 27 = .ok (.ireturn, 1) := by decide +kernel
theorem dX1_secondPremiseOf_0 : decode cX1_secondPremiseOf 0 = .ok (.aload_n 0, 1) := by decide +kernel
theorem dX1_secondPremiseOf_1 : decode cX1_secondPremiseOf 1 = .ok (.getfield 18, 3) := by decide +kernel
theorem dX1_secondPremiseOf_4 : decode cX1_secondPremiseOf 4 = .ok (.iload_n 1, 1) := by decide +kernel
theorem dX1_secondPremiseOf_5 : decode cX1_secondPremiseOf 5 = .ok (.laload, 1) := by decide +kernel
theorem dX1_secondPremiseOf_6 : decode cX1_secondPremiseOf 6 = .ok (.l2i, 1) := by decide +kernel
theorem dX1_secondPremiseOf_7 : decode cX1_secondPremiseOf 7 = .ok (.sipush 4095, 3) := by decide +kernel
theorem dX1_secondPremiseOf_10 : decode cX1_secondPremiseOf 10 = .ok (.iand, 1) := by decide +kernel
theorem dX1_secondPremiseOf_11 : decode cX1_secondPremiseOf 11 = .ok (.istore_n 2, 1) := by decide +kernel
theorem dX1_secondPremiseOf_12 : decode cX1_secondPremiseOf 12 = .ok (.iload_n 2, 1) := by decide +kernel
theorem dX1_secondPremiseOf_13 : decode cX1_secondPremiseOf 13 = .ok (.sipush 4095, 3) := by decide +kernel
theorem dX1_secondPremiseOf_16 : decode cX1_secondPremiseOf 16 = .ok (.if_icmp .ne 7, 3) := by decide +kernel
theorem dX1_secondPremiseOf_19 : decode cX1_secondPremiseOf 19 = .ok (.iconst (-1), 1) := by decide +kernel
theorem dX1_secondPremiseOf_20 : decode cX1_secondPremiseOf 20 = .ok (.goto 4, 3) := by decide +kernel
theorem dX1_secondPremiseOf_23 : decode cX1_secondPremiseOf 23 = .ok (.iload_n 2, 1) := by decide +kernel
theorem dX1_secondPremiseOf_24 : decode cX1_secondPremiseOf 24 = .ok (.ireturn, 1) := by decide +kernel
set_option maxRecDepth 20000 in
theorem ggX1_areSame_X1_has : GoodIn wsX1_areSame wsX1_has := goodIn_r _ [5, 6, 7, 8, 9, 10, 11, 12, 13, 14, 15, 16, 17] (by decide +kernel) (by decide +kernel)
set_option maxRecDepth 20000 in
theorem gX1_areSame_X1_has : GoodIn wsX1_areSame (wsV RX1 126 RX1 yX1_has wsX1_has) := goodIn_app (goodIn_of _ (by decide +kernel)) ggX1_areSame_X1_has
theorem dX1_areSame_0 : decode cX1_areSame 0 = .ok (.aload_n 0, 1) := by decide +kernel
theorem dX1_areSame_1 : decode cX1_areSame 1 = .ok (.iload_n 1, 1) := by decide +kernel
theorem dX1_areSame_2 : decode cX1_areSame 2 = .ok (.iload_n 2, 1) := by decide +kernel
theorem dX1_areSame_3 : decode cX1_areSame 3 = .ok (.invokevirtual 126, 3) := by decide +kernel
theorem dX1_areSame_6 : decode cX1_areSame 6 = .ok (.ifCond .eq 16, 3) := by decide +kernel
theorem dX1_areSame_9 : decode cX1_areSame 9 = .ok (.aload_n 0, 1) := by decide +kernel
theorem dX1_areSame_10 : decode cX1_areSame 10 = .ok (.iload_n 2, 1) := by decide +kernel
theorem dX1_areSame_11 : decode cX1_areSame 11 = .ok (.iload_n 1, 1) := by decide +kernel
theorem dX1_areSame_12 : decode cX1_areSame 12 = .ok (.invokevirtual 126, 3) := by decide +kernel
theorem dX1_areSame_15 : decode cX1_areSame 15 = .ok (.ifCond .eq 7, 3) := by decide +kernel
theorem dX1_areSame_18 : decode cX1_areSame 18 = .ok (.iconst 1, 1) := by decide +kernel
theorem dX1_areSame_19 : decode cX1_areSame 19 = .ok (.goto 4, 3) := by decide +kernel
theorem dX1_areSame_22 : decode cX1_areSame 22 = .ok (.iconst 0, 1) := by decide +kernel
theorem dX1_areSame_23 : decode cX1_areSame 23 = .ok (.ireturn, 1) := by decide +kernel
set_option maxRecDepth 20000 in
theorem ggX1_leastSame_X1_areSame : GoodIn wsX1_leastSame wsX1_areSame := goodIn_r _ [5, 6, 7, 8, 4, 9, 10, 11, 12, 13, 14, 15, 16, 17, 18, 19, 20, 21] (by decide +kernel) (by decide +kernel)
set_option maxRecDepth 20000 in
theorem gX1_leastSame_X1_areSame : GoodIn wsX1_leastSame (wsV RX1 129 RX1 yX1_areSame wsX1_areSame) := goodIn_app (goodIn_of _ (by decide +kernel)) ggX1_leastSame_X1_areSame
theorem dX1_leastSame_0 : decode cX1_leastSame 0 = .ok (.iconst 0, 1) := by decide +kernel
theorem dX1_leastSame_1 : decode cX1_leastSame 1 = .ok (.istore_n 2, 1) := by decide +kernel
theorem dX1_leastSame_2 : decode cX1_leastSame 2 = .ok (.iload_n 2, 1) := by decide +kernel
theorem dX1_leastSame_3 : decode cX1_leastSame 3 = .ok (.iload_n 1, 1) := by decide +kernel
theorem dX1_leastSame_4 : decode cX1_leastSame 4 = .ok (.if_icmp .ge 20, 3) := by decide +kernel
theorem dX1_leastSame_7 : decode cX1_leastSame 7 = .ok (.aload_n 0, 1) := by decide +kernel
theorem dX1_leastSame_8 : decode cX1_leastSame 8 = .ok (.iload_n 1, 1) := by decide +kernel
theorem dX1_leastSame_9 : decode cX1_leastSame 9 = .ok (.iload_n 2, 1) := by decide +kernel
theorem dX1_leastSame_10 : decode cX1_leastSame 10 = .ok (.invokevirtual 129, 3) := by decide +kernel
theorem dX1_leastSame_13 : decode cX1_leastSame 13 = .ok (.ifCond .eq 5, 3) := by decide +kernel
theorem dX1_leastSame_16 : decode cX1_leastSame 16 = .ok (.iload_n 2, 1) := by decide +kernel
theorem dX1_leastSame_17 : decode cX1_leastSame 17 = .ok (.ireturn, 1) := by decide +kernel
theorem dX1_leastSame_18 : decode cX1_leastSame 18 = .ok (.iinc 2 1, 3) := by decide +kernel
theorem dX1_leastSame_21 : decode cX1_leastSame 21 = .ok (.goto (-19), 3) := by decide +kernel
theorem dX1_leastSame_24 : decode cX1_leastSame 24 = .ok (.iload_n 1, 1) := by decide +kernel
theorem dX1_leastSame_25 : decode cX1_leastSame 25 = .ok (.ireturn, 1) := by decide +kernel
set_option maxRecDepth 20000 in
theorem ggX1_parentOf_X1_has : GoodIn wsX1_parentOf wsX1_has := goodIn_r _ [6, 7, 8, 9, 10, 23, 24, 25, 26, 27, 28, 29, 30] (by decide +kernel) (by decide +kernel)
set_option maxRecDepth 20000 in
theorem gX1_parentOf_X1_has : GoodIn wsX1_parentOf (wsV RX1 126 RX1 yX1_has wsX1_has) := goodIn_app (goodIn_of _ (by decide +kernel)) ggX1_parentOf_X1_has
set_option maxRecDepth 20000 in
theorem ggX1_parentOf_X1_isParent : GoodIn wsX1_parentOf wsX1_isParent := goodIn_r _ [14, 1, 2, 3, 4, 5, 6, 7, 8, 9, 10, 15, 16, 17, 18, 19, 20, 21, 22, 23, 24, 25, 26, 27, 28, 29, 30] (by decide +kernel) (by decide +kernel)
set_option maxRecDepth 20000 in
theorem gX1_parentOf_X1_isParent : GoodIn wsX1_parentOf (wsV RX1 132 RX1 yX1_isParent wsX1_isParent) := goodIn_app (goodIn_of _ (by decide +kernel)) ggX1_parentOf_X1_isParent
theorem dX1_parentOf_0 : decode cX1_parentOf 0 = .ok (.aload_n 0, 1) := by decide +kernel
theorem dX1_parentOf_1 : decode cX1_parentOf 1 = .ok (.iload_n 1, 1) := by decide +kernel
theorem dX1_parentOf_2 : decode cX1_parentOf 2 = .ok (.iconst 1, 1) := by decide +kernel
theorem dX1_parentOf_3 : decode cX1_parentOf 3 = .ok (.invokevirtual 126, 3) := by decide +kernel
theorem dX1_parentOf_6 : decode cX1_parentOf 6 = .ok (.ifCond .eq 5, 3) := by decide +kernel
theorem dX1_parentOf_9 : decode cX1_parentOf 9 = .ok (.iconst (-1), 1) := by decide +kernel
theorem dX1_parentOf_10 : decode cX1_parentOf 10 = .ok (.ireturn, 1) := by decide +kernel
theorem dX1_parentOf_11 : decode cX1_parentOf 11 = .ok (.iconst 0, 1) := by decide +kernel
theorem dX1_parentOf_12 : decode cX1_parentOf 12 = .ok (.istore_n 3, 1) := by decide +kernel
theorem dX1_parentOf_13 : decode cX1_parentOf 13 = .ok (.iconst 0, 1) := by decide +kernel
theorem dX1_parentOf_14 : decode cX1_parentOf 14 = .ok (.istore 4, 2) := by decide +kernel
theorem dX1_parentOf_16 : decode cX1_parentOf 16 = .ok (.iload 4, 2) := by decide +kernel
theorem dX1_parentOf_18 : decode cX1_parentOf 18 = .ok (.aload_n 0, 1) := by decide +kernel
theorem dX1_parentOf_19 : decode cX1_parentOf 19 = .ok (.getfield 25, 3) := by decide +kernel
theorem dX1_parentOf_22 : decode cX1_parentOf 22 = .ok (.if_icmp .ge 30, 3) := by decide +kernel
theorem dX1_parentOf_25 : decode cX1_parentOf 25 = .ok (.aload_n 0, 1) := by decide +kernel
theorem dX1_parentOf_26 : decode cX1_parentOf 26 = .ok (.iload_n 1, 1) := by decide +kernel
theorem dX1_parentOf_27 : decode cX1_parentOf 27 = .ok (.iload 4, 2) := by decide +kernel
theorem dX1_parentOf_29 : decode cX1_parentOf 29 = .ok (.invokevirtual 132, 3) := by decide +kernel
theorem dX1_parentOf_32 : decode cX1_parentOf 32 = .ok (.ifCond .eq 14, 3) := by decide +kernel
theorem dX1_parentOf_35 : decode cX1_parentOf 35 = .ok (.iload_n 3, 1) := by decide +kernel
theorem dX1_parentOf_36 : decode cX1_parentOf 36 = .ok (.iload_n 2, 1) := by decide +kernel
theorem dX1_parentOf_37 : decode cX1_parentOf 37 = .ok (.if_icmp .ne 6, 3) := by decide +kernel
theorem dX1_parentOf_40 : decode cX1_parentOf 40 = .ok (.iload 4, 2) := by decide +kernel
theorem dX1_parentOf_42 : decode cX1_parentOf 42 = .ok (.ireturn, 1) := by decide +kernel
theorem dX1_parentOf_43 : decode cX1_parentOf 43 = .ok (.iinc 3 1, 3) := by decide +kernel
theorem dX1_parentOf_46 : decode cX1_parentOf 46 = .ok (.iinc 4 1, 3) := by decide +kernel
theorem dX1_parentOf_49 : decode cX1_parentOf 49 = .ok (.goto (-33), 3) := by decide +kernel
theorem dX1_parentOf_52 : decode cX1_parentOf 52 = .ok (.iconst (-1), 1) := by decide +kernel
theorem dX1_parentOf_53 : decode cX1_parentOf 53 = .ok (.ireturn, 1) := by decide +kernel
set_option maxRecDepth 20000 in
theorem ggX1_isParent_X1_has : GoodIn wsX1_isParent wsX1_has := goodIn_r _ [6, 7, 8, 9, 10, 19, 20, 21, 22, 23, 24, 25, 26] (by decide +kernel) (by decide +kernel)
set_option maxRecDepth 20000 in
theorem gX1_isParent_X1_has : GoodIn wsX1_isParent (wsV RX1 126 RX1 yX1_has wsX1_has) := goodIn_app (goodIn_of _ (by decide +kernel)) ggX1_isParent_X1_has
set_option maxRecDepth 20000 in
theorem ggX1_isParent_X1_leastSame : GoodIn wsX1_isParent wsX1_leastSame := goodIn_r _ [14, 15, 16, 17, 5, 18, 2, 3, 4, 6, 7, 8, 9, 10, 19, 20, 21, 22, 23, 24, 25, 26] (by decide +kernel) (by decide +kernel)
set_option maxRecDepth 20000 in
theorem gX1_isParent_X1_leastSame : GoodIn wsX1_isParent (wsV RX1 135 RX1 yX1_leastSame wsX1_leastSame) := goodIn_app (goodIn_of _ (by decide +kernel)) ggX1_isParent_X1_leastSame
set_option maxRecDepth 20000 in
theorem ggX1_isParent_X1_areSame : GoodIn wsX1_isParent wsX1_areSame := goodIn_r _ [18, 2, 3, 4, 5, 6, 7, 8, 9, 10, 19, 20, 21, 22, 23, 24, 25, 26] (by decide +kernel) (by decide +kernel)
set_option maxRecDepth 20000 in
theorem gX1_isParent_X1_areSame : GoodIn wsX1_isParent (wsV RX1 129 RX1 yX1_areSame wsX1_areSame) := goodIn_app (goodIn_of _ (by decide +kernel)) ggX1_isParent_X1_areSame
theorem dX1_isParent_0 : decode cX1_isParent 0 = .ok (.aload_n 0, 1) := by decide +kernel
theorem dX1_isParent_1 : decode cX1_isParent 1 = .ok (.iload_n 1, 1) := by decide +kernel
theorem dX1_isParent_2 : decode cX1_isParent 2 = .ok (.iload_n 2, 1) := by decide +kernel
theorem dX1_isParent_3 : decode cX1_isParent 3 = .ok (.invokevirtual 126, 3) := by decide +kernel
theorem dX1_isParent_6 : decode cX1_isParent 6 = .ok (.ifCond .eq 21, 3) := by decide +kernel
theorem dX1_isParent_9 : decode cX1_isParent 9 = .ok (.aload_n 0, 1) := by decide +kernel
theorem dX1_isParent_10 : decode cX1_isParent 10 = .ok (.iload_n 2, 1) := by decide +kernel
theorem dX1_isParent_11 : decode cX1_isParent 11 = .ok (.iload_n 1, 1) := by decide +kernel
theorem dX1_isParent_12 : decode cX1_isParent 12 = .ok (.invokevirtual 126, 3) := by decide +kernel
theorem dX1_isParent_15 : decode cX1_isParent 15 = .ok (.ifCond .ne 12, 3) := by decide +kernel
theorem dX1_isParent_18 : decode cX1_isParent 18 = .ok (.aload_n 0, 1) := by decide +kernel
theorem dX1_isParent_19 : decode cX1_isParent 19 = .ok (.iload_n 2, 1) := by decide +kernel
theorem dX1_isParent_20 : decode cX1_isParent 20 = .ok (.invokevirtual 135, 3) := by decide +kernel
theorem dX1_isParent_23 : decode cX1_isParent 23 = .ok (.iload_n 2, 1) := by decide +kernel
theorem dX1_isParent_24 : decode cX1_isParent 24 = .ok (.if_icmp .eq 5, 3) := by decide +kernel
theorem dX1_isParent_27 : decode cX1_isParent 27 = .ok (.iconst 0, 1) := by decide +kernel
theorem dX1_isParent_28 : decode cX1_isParent 28 = .ok (.ireturn, 1) := by decide +kernel
theorem dX1_isParent_29 : decode cX1_isParent 29 = .ok (.iconst 0, 1) := by decide +kernel
theorem dX1_isParent_30 : decode cX1_isParent 30 = .ok (.istore_n 3, 1) := by decide +kernel
theorem dX1_isParent_31 : decode cX1_isParent 31 = .ok (.iload_n 3, 1) := by decide +kernel
theorem dX1_isParent_32 : decode cX1_isParent 32 = .ok (.aload_n 0, 1) := by decide +kernel
theorem dX1_isParent_33 : decode cX1_isParent 33 = .ok (.getfield 25, 3) := by decide +kernel
theorem dX1_isParent_36 : decode cX1_isParent 36 = .ok (.if_icmp .ge 47, 3) := by decide +kernel
theorem dX1_isParent_39 : decode cX1_isParent 39 = .ok (.aload_n 0, 1) := by decide +kernel
theorem dX1_isParent_40 : decode cX1_isParent 40 = .ok (.iload_n 1, 1) := by decide +kernel
theorem dX1_isParent_41 : decode cX1_isParent 41 = .ok (.iload_n 3, 1) := by decide +kernel
theorem dX1_isParent_42 : decode cX1_isParent 42 = .ok (.invokevirtual 126, 3) := by decide +kernel
theorem dX1_isParent_45 : decode cX1_isParent 45 = .ok (.ifCond .eq 32, 3) := by decide +kernel
theorem dX1_isParent_48 : decode cX1_isParent 48 = .ok (.aload_n 0, 1) := by decide +kernel
theorem dX1_isParent_49 : decode cX1_isParent 49 = .ok (.iload_n 3, 1) := by decide +kernel
theorem dX1_isParent_50 : decode cX1_isParent 50 = .ok (.iload_n 2, 1) := by decide +kernel
theorem dX1_isParent_51 : decode cX1_isParent 51 = .ok (.invokevirtual 126, 3) := by decide +kernel
theorem dX1_isParent_54 : decode cX1_isParent 54 = .ok (.ifCond .eq 23, 3) := by decide +kernel
theorem dX1_isParent_57 : decode cX1_isParent 57 = .ok (.aload_n 0, 1) := by decide +kernel
theorem dX1_isParent_58 : decode cX1_isParent 58 = .ok (.iload_n 3, 1) := by decide +kernel
theorem dX1_isParent_59 : decode cX1_isParent 59 = .ok (.iload_n 1, 1) := by decide +kernel
theorem dX1_isParent_60 : decode cX1_isParent 60 = .ok (.invokevirtual 129, 3) := by decide +kernel
theorem dX1_isParent_63 : decode cX1_isParent 63 = .ok (.ifCond .ne 14, 3) := by decide +kernel
theorem dX1_isParent_66 : decode cX1_isParent 66 = .ok (.aload_n 0, 1) := by decide +kernel
theorem dX1_isParent_67 : decode cX1_isParent 67 = .ok (.iload_n 3, 1) := by decide +kernel
theorem dX1_isParent_68 : decode cX1_isParent 68 = .ok (.iload_n 2, 1) := by decide +kernel
theorem dX1_isParent_69 : decode cX1_isParent 69 = .ok (.invokevirtual 129, 3) := by decide +kernel
theorem dX1_isParent_72 : decode cX1_isParent 72 = .ok (.ifCond .ne 5, 3) := by decide +kernel
theorem dX1_isParent_75 : decode cX1_isParent 75 = .ok (.iconst 0, 1) := by decide +kernel
theorem dX1_isParent_76 : decode cX1_isParent 76 = .ok (.ireturn, 1) := by decide +kernel
theorem dX1_isParent_77 : decode cX1_isParent 77 = .ok (.iinc 3 1, 3) := by decide +kernel
theorem dX1_isParent_80 : decode cX1_isParent 80 = .ok (.goto (-49), 3) := by decide +kernel
theorem dX1_isParent_83 : decode cX1_isParent 83 = .ok (.iconst 1, 1) := by decide +kernel
theorem dX1_isParent_84 : decode cX1_isParent 84 = .ok (.ireturn, 1) := by decide +kernel
theorem dX2_init_0 : decode cX2_init 0 = .ok (.aload_n 0, 1) := by decide +kernel
theorem dX2_init_1 : decode cX2_init 1 = .ok (.invokespecial 3, 3) := by decide +kernel
theorem dX2_init_4 : decode cX2_init 4 = .ok (.aload_n 0, 1) := by decide +kernel
theorem dX2_init_5 : decode cX2_init 5 = .ok (.sipush 4032, 3) := by decide +kernel
theorem dX2_init_8 : decode cX2_init 8 = .ok (.newarray .int, 2) := by decide +kernel
theorem dX2_init_10 : decode cX2_init 10 = .ok (.putfield 9, 3) := by decide +kernel
theorem dX2_init_13 : decode cX2_init 13 = .ok (.aload_n 0, 1) := by decide +kernel
theorem dX2_init_14 : decode cX2_init 14 = .ok (.bipush 63, 2) := by decide +kernel
theorem dX2_init_16 : decode cX2_init 16 = .ok (.newarray .long, 2) := by decide +kernel
theorem dX2_init_18 : decode cX2_init 18 = .ok (.putfield 15, 3) := by decide +kernel
theorem dX2_init_21 : decode cX2_init 21 = .ok (.aload_n 0, 1) := by decide +kernel
theorem dX2_init_22 : decode cX2_init 22 = .ok (.iconst 0, 1) := by decide +kernel
theorem dX2_init_23 : decode cX2_init 23 = .ok (.putfield 19, 3) := by decide +kernel
theorem dX2_init_26 : decode cX2_init 26 = .ok (.return_, 1) := by decide +kernel
set_option maxRecDepth 20000 in
theorem ggX2_take_X1_follows : GoodIn wsX2_take wsX1_follows := goodIn_r _ [7, 8, 31, 32, 33, 34, 35, 36, 37, 38] (by decide +kernel) (by decide +kernel)
set_option maxRecDepth 20000 in
theorem gX2_take_X1_follows_n23 : GoodIn wsX2_take (wsX1_follows) := ggX2_take_X1_follows
set_option maxRecDepth 20000 in
theorem ggX2_take_J7_fill_d0a16 : GoodIn wsX2_take wsJ7_fill_d0a16 := goodIn_r _ [12] (by decide +kernel) (by decide +kernel)
set_option maxRecDepth 20000 in
theorem gX2_take_J7_fill_d0a16 : GoodIn wsX2_take (va_wsS RX2 29 yJ7_fill_d0a16 wsJ7_fill_d0a16) := goodIn_app (goodIn_of _ (by decide +kernel)) ggX2_take_J7_fill_d0a16
set_option maxRecDepth 20000 in
theorem ggX2_take_X2_need : GoodIn wsX2_take wsX2_need := goodIn_r _ [17, 2, 28, 29, 30] (by decide +kernel) (by decide +kernel)
set_option maxRecDepth 20000 in
theorem gX2_take_X2_need : GoodIn wsX2_take (wsV RX2 35 RX2 yX2_need wsX2_need) := goodIn_app (goodIn_of _ (by decide +kernel)) ggX2_take_X2_need
set_option maxRecDepth 20000 in
theorem ggX2_take_X2_isNeeded : GoodIn wsX2_take wsX2_isNeeded := goodIn_r _ [21, 2, 28, 29, 30] (by decide +kernel) (by decide +kernel)
set_option maxRecDepth 20000 in
theorem gX2_take_X2_isNeeded : GoodIn wsX2_take (wsV RX2 45 RX2 yX2_isNeeded wsX2_isNeeded) := goodIn_app (goodIn_of _ (by decide +kernel)) ggX2_take_X2_isNeeded
set_option maxRecDepth 20000 in
theorem ggX2_take_X1_firstPremiseOf : GoodIn wsX2_take wsX1_firstPremiseOf := goodIn_r _ [24, 8, 31, 32, 33, 34, 35, 36, 37, 38] (by decide +kernel) (by decide +kernel)
set_option maxRecDepth 20000 in
theorem gX2_take_X1_firstPremiseOf_n48 : GoodIn wsX2_take (wsX1_firstPremiseOf) := ggX2_take_X1_firstPremiseOf
set_option maxRecDepth 20000 in
theorem ggX2_take_X1_secondPremiseOf : GoodIn wsX2_take wsX1_secondPremiseOf := goodIn_r _ [27, 8, 31, 32, 33, 34, 35, 36, 37, 38] (by decide +kernel) (by decide +kernel)
set_option maxRecDepth 20000 in
theorem gX2_take_X1_secondPremiseOf_n52 : GoodIn wsX2_take (wsX1_secondPremiseOf) := ggX2_take_X1_secondPremiseOf
theorem dX2_take_0 : decode cX2_take 0 = .ok (.aload_n 0, 1) := by decide +kernel
theorem dX2_take_1 : decode cX2_take 1 = .ok (.iconst 0, 1) := by decide +kernel
theorem dX2_take_2 : decode cX2_take 2 = .ok (.putfield 19, 3) := by decide +kernel
theorem dX2_take_5 : decode cX2_take 5 = .ok (.aload_n 1, 1) := by decide +kernel
theorem dX2_take_6 : decode cX2_take 6 = .ok (.iload_n 2, 1) := by decide +kernel
theorem dX2_take_7 : decode cX2_take 7 = .ok (.invokevirtual 23, 3) := by decide +kernel
theorem dX2_take_10 : decode cX2_take 10 = .ok (.ifCond .ne 4, 3) := by decide +kernel
theorem dX2_take_13 : decode cX2_take 13 = .ok (.return_, 1) := by decide +kernel
theorem dX2_take_14 : decode cX2_take 14 = .ok (.aload_n 0, 1) := by decide +kernel
theorem dX2_take_15 : decode cX2_take 15 = .ok (.getfield 15, 3) := by decide +kernel
theorem dX2_take_18 : decode cX2_take 18 = .ok (.lconst 0, 1) := by decide +kernel
theorem dX2_take_19 : decode cX2_take 19 = .ok (.invokestatic 29, 3) := by decide +kernel
theorem dX2_take_22 : decode cX2_take 22 = .ok (.aload_n 0, 1) := by decide +kernel
theorem dX2_take_23 : decode cX2_take 23 = .ok (.iload_n 2, 1) := by decide +kernel
theorem dX2_take_24 : decode cX2_take 24 = .ok (.invokevirtual 35, 3) := by decide +kernel
theorem dX2_take_27 : decode cX2_take 27 = .ok (.aload_n 1, 1) := by decide +kernel
theorem dX2_take_28 : decode cX2_take 28 = .ok (.getfield 39, 3) := by decide +kernel
theorem dX2_take_31 : decode cX2_take 31 = .ok (.iconst 1, 1) := by decide +kernel
theorem dX2_take_32 : decode cX2_take 32 = .ok (.isub, 1) := by decide +kernel
theorem dX2_take_33 : decode cX2_take 33 = .ok (.istore_n 3, 1) := by decide +kernel
theorem dX2_take_34 : decode cX2_take 34 = .ok (.iload_n 3, 1) := by decide +kernel
theorem dX2_take_35 : decode cX2_take 35 = .ok (.ifCond .lt 50, 3) := by decide +kernel
theorem dX2_take_38 : decode cX2_take 38 = .ok (.aload_n 0, 1) := by decide +kernel
theorem dX2_take_39 : decode cX2_take 39 = .ok (.aload_n 1, 1) := by decide +kernel
theorem dX2_take_40 : decode cX2_take 40 = .ok (.getfield 42, 3) := by decide +kernel
theorem dX2_take_43 : decode cX2_take 43 = .ok (.iload_n 3, 1) := by decide +kernel
theorem dX2_take_44 : decode cX2_take 44 = .ok (.iaload, 1) := by decide +kernel
theorem dX2_take_45 : decode cX2_take 45 = .ok (.invokevirtual 45, 3) := by decide +kernel
theorem dX2_take_48 : decode cX2_take 48 = .ok (.ifCond .eq 31, 3) := by decide +kernel
theorem dX2_take_51 : decode cX2_take 51 = .ok (.aload_n 0, 1) := by decide +kernel
theorem dX2_take_52 : decode cX2_take 52 = .ok (.aload_n 1, 1) := by decide +kernel
theorem dX2_take_53 : decode cX2_take 53 = .ok (.aload_n 1, 1) := by decide +kernel
theorem dX2_take_54 : decode cX2_take 54 = .ok (.getfield 42, 3) := by decide +kernel
theorem dX2_take_57 : decode cX2_take 57 = .ok (.iload_n 3, 1) := by decide +kernel
theorem dX2_take_58 : decode cX2_take 58 = .ok (.iaload, 1) := by decide +kernel
theorem dX2_take_59 : decode cX2_take 59 = .ok (.invokevirtual 48, 3) := by decide +kernel
theorem dX2_take_62 : decode cX2_take 62 = .ok (.invokevirtual 35, 3) := by decide +kernel
theorem dX2_take_65 : decode cX2_take 65 = .ok (.aload_n 0, 1) := by decide +kernel
theorem dX2_take_66 : decode cX2_take 66 = .ok (.aload_n 1, 1) := by decide +kernel
theorem dX2_take_67 : decode cX2_take 67 = .ok (.aload_n 1, 1) := by decide +kernel
theorem dX2_take_68 : decode cX2_take 68 = .ok (.getfield 42, 3) := by decide +kernel
theorem dX2_take_71 : decode cX2_take 71 = .ok (.iload_n 3, 1) := by decide +kernel
theorem dX2_take_72 : decode cX2_take 72 = .ok (.iaload, 1) := by decide +kernel
theorem dX2_take_73 : decode cX2_take 73 = .ok (.invokevirtual 52, 3) := by decide +kernel
theorem dX2_take_76 : decode cX2_take 76 = .ok (.invokevirtual 35, 3) := by decide +kernel
theorem dX2_take_79 : decode cX2_take 79 = .ok (.iinc 3 (-1), 3) := by decide +kernel
theorem dX2_take_82 : decode cX2_take 82 = .ok (.goto (-48), 3) := by decide +kernel
theorem dX2_take_85 : decode cX2_take 85 = .ok (.iconst 0, 1) := by decide +kernel
theorem dX2_take_86 : decode cX2_take 86 = .ok (.istore_n 3, 1) := by decide +kernel
theorem dX2_take_87 : decode cX2_take 87 = .ok (.iload_n 3, 1) := by decide +kernel
theorem dX2_take_88 : decode cX2_take 88 = .ok (.aload_n 1, 1) := by decide +kernel
theorem dX2_take_89 : decode cX2_take 89 = .ok (.getfield 39, 3) := by decide +kernel
theorem dX2_take_92 : decode cX2_take 92 = .ok (.if_icmp .ge 47, 3) := by decide +kernel
theorem dX2_take_95 : decode cX2_take 95 = .ok (.aload_n 0, 1) := by decide +kernel
theorem dX2_take_96 : decode cX2_take 96 = .ok (.aload_n 1, 1) := by decide +kernel
theorem dX2_take_97 : decode cX2_take 97 = .ok (.getfield 42, 3) := by decide +kernel
theorem dX2_take_100 : decode cX2_take 100 = .ok (.iload_n 3, 1) := by decide +kernel
theorem dX2_take_101 : decode cX2_take 101 = .ok (.iaload, 1) := by decide +kernel
theorem dX2_take_102 : decode cX2_take 102 = .ok (.invokevirtual 45, 3) := by decide +kernel
theorem dX2_take_105 : decode cX2_take 105 = .ok (.ifCond .eq 28, 3) := by decide +kernel
theorem dX2_take_108 : decode cX2_take 108 = .ok (.aload_n 0, 1) := by decide +kernel
theorem dX2_take_109 : decode cX2_take 109 = .ok (.getfield 9, 3) := by decide +kernel
theorem dX2_take_112 : decode cX2_take 112 = .ok (.aload_n 0, 1) := by decide +kernel
theorem dX2_take_113 : decode cX2_take 113 = .ok (.getfield 19, 3) := by decide +kernel
theorem dX2_take_116 : decode cX2_take 116 = .ok (.aload_n 1, 1) := by decide +kernel
theorem dX2_take_117 : decode cX2_take 117 = .ok (.getfield 42, 3) := by decide +kernel
theorem dX2_take_120 : decode cX2_take 120 = .ok (.iload_n 3, 1) := by decide +kernel
theorem dX2_take_121 : decode cX2_take 121 = .ok (.iaload, 1) := by decide +kernel
theorem dX2_take_122 : decode cX2_take 122 = .ok (.iastore, 1) := by decide +kernel
theorem dX2_take_123 : decode cX2_take 123 = .ok (.aload_n 0, 1) := by decide +kernel
theorem dX2_take_124 : decode cX2_take 124 = .ok (.dup, 1) := by decide +kernel
theorem dX2_take_125 : decode cX2_take 125 = .ok (.getfield 19, 3) := by decide +kernel
theorem dX2_take_128 : decode cX2_take 128 = .ok (.iconst 1, 1) := by decide +kernel
theorem dX2_take_129 : decode cX2_take 129 = .ok (.iadd, 1) := by decide +kernel
theorem dX2_take_130 : decode cX2_take 130 = .ok (.putfield 19, 3) := by decide +kernel
theorem dX2_take_133 : decode cX2_take 133 = .ok (.iinc 3 1, 3) := by decide +kernel
theorem dX2_take_136 : decode cX2_take 136 = .ok (.goto (-49), 3) := by decide +kernel
theorem dX2_take_139 : decode cX2_take 139 = .ok (.return_, 1) := by decide +kernel
theorem dX2_need_0 : decode cX2_need 0 = .ok (.iload_n 1, 1) := by decide +kernel
theorem dX2_need_1 : decode cX2_need 1 = .ok (.ifCond .lt 28, 3) := by decide +kernel
theorem dX2_need_4 : decode cX2_need 4 = .ok (.iload_n 1, 1) := by decide +kernel
theorem dX2_need_5 : decode cX2_need 5 = .ok (.sipush 4032, 3) := by decide +kernel
theorem dX2_need_8 : decode cX2_need 8 = .ok (.if_icmp .ge 21, 3) := by decide +kernel
theorem dX2_need_11 : decode cX2_need 11 = .ok (.aload_n 0, 1) := by decide +kernel
theorem dX2_need_12 : decode cX2_need 12 = .ok (.getfield 15, 3) := by decide +kernel
theorem dX2_need_15 : decode cX2_need 15 = .ok (.iload_n 1, 1) := by decide +kernel
theorem dX2_need_16 : decode cX2_need 16 = .ok (.bipush 6, 2) := by decide +kernel
theorem dX2_need_18 : decode cX2_need 18 = .ok (.ishr, 1) := by decide +kernel
theorem dX2_need_19 : decode cX2_need 19 = .ok (.dup2, 1) := by decide +kernel
theorem dX2_need_20 : decode cX2_need 20 = .ok (.laload, 1) := by decide +kernel
theorem dX2_need_21 : decode cX2_need 21 = .ok (.lconst 1, 1) := by decide +kernel
theorem dX2_need_22 : decode cX2_need 22 = .ok (.iload_n 1, 1) := by decide +kernel
theorem dX2_need_23 : decode cX2_need 23 = .ok (.bipush 63, 2) := by decide +kernel
theorem dX2_need_25 : decode cX2_need 25 = .ok (.iand, 1) := by decide +kernel
theorem dX2_need_26 : decode cX2_need 26 = .ok (.lshl, 1) := by decide +kernel
theorem dX2_need_27 : decode cX2_need 27 = .ok (.lor, 1) := by decide +kernel
theorem dX2_need_28 : decode cX2_need 28 = .ok (.lastore, 1) := by decide +kernel
theorem dX2_need_29 : decode cX2_need 29 = .ok (.return_, 1) := by decide +kernel
theorem dX2_isNeeded_0 : decode cX2_isNeeded 0 = .ok (.aload_n 0, 1) := by decide +kernel
theorem dX2_isNeeded_1 : decode cX2_isNeeded 1 = .ok (.getfield 15, 3) := by decide +kernel
theorem dX2_isNeeded_4 : decode cX2_isNeeded 4 = .ok (.iload_n 1, 1) := by decide +kernel
theorem dX2_isNeeded_5 : decode cX2_isNeeded 5 = .ok (.bipush 6, 2) := by decide +kernel
theorem dX2_isNeeded_7 : decode cX2_isNeeded 7 = .ok (.ishr, 1) := by decide +kernel
theorem dX2_isNeeded_8 : decode cX2_isNeeded 8 = .ok (.laload, 1) := by decide +kernel
theorem dX2_isNeeded_9 : decode cX2_isNeeded 9 = .ok (.iload_n 1, 1) := by decide +kernel
theorem dX2_isNeeded_10 : decode cX2_isNeeded 10 = .ok (.bipush 63, 2) := by decide +kernel
theorem dX2_isNeeded_12 : decode cX2_isNeeded 12 = .ok (.iand, 1) := by decide +kernel
theorem dX2_isNeeded_13 : decode cX2_isNeeded 13 = .ok (.lshr, 1) := by decide +kernel
theorem dX2_isNeeded_14 : decode cX2_isNeeded 14 = .ok (.lconst 1, 1) := by decide +kernel
theorem dX2_isNeeded_15 : decode cX2_isNeeded 15 = .ok (.land, 1) := by decide +kernel
theorem dX2_isNeeded_16 : decode cX2_isNeeded 16 = .ok (.lconst 0, 1) := by decide +kernel
theorem dX2_isNeeded_17 : decode cX2_isNeeded 17 = .ok (.lcmp, 1) := by decide +kernel
theorem dX2_isNeeded_18 : decode cX2_isNeeded 18 = .ok (.ifCond .eq 7, 3) := by decide +kernel
theorem dX2_isNeeded_21 : decode cX2_isNeeded 21 = .ok (.iconst 1, 1) := by decide +kernel
theorem dX2_isNeeded_22 : decode cX2_isNeeded 22 = .ok (.goto 4, 3) := by decide +kernel
theorem dX2_isNeeded_25 : decode cX2_isNeeded 25 = .ok (.iconst 0, 1) := by decide +kernel
theorem dX2_isNeeded_26 : decode cX2_isNeeded 26 = .ok (.ireturn, 1) := by decide +kernel
set_option maxRecDepth 20000 in
theorem ggX3_init_X0_init : GoodIn wsX3_init wsX0_init := goodIn_r _ [19, 20, 2, 3, 21, 22, 23, 24, 25, 26, 45, 46, 47, 48, 49] (by decide +kernel) (by decide +kernel)
set_option maxRecDepth 20000 in
theorem gX3_init_X0_init_n11 : GoodIn wsX3_init (wsX0_init) := ggX3_init_X0_init
set_option maxRecDepth 20000 in
theorem ggX3_init_X1_init : GoodIn wsX3_init wsX1_init := goodIn_r _ [28, 29, 2, 3, 21, 30, 31, 32, 33, 34, 35, 36, 37, 38, 55, 56, 57, 58, 59, 60, 61, 62] (by decide +kernel) (by decide +kernel)
set_option maxRecDepth 20000 in
theorem gX3_init_X1_init_n18 : GoodIn wsX3_init (wsX1_init) := ggX3_init_X1_init
set_option maxRecDepth 20000 in
theorem ggX3_init_X2_init : GoodIn wsX3_init wsX2_init := goodIn_r _ [40, 41, 2, 3, 21, 42, 32, 43, 44, 63, 64, 65] (by decide +kernel) (by decide +kernel)
set_option maxRecDepth 20000 in
theorem gX3_init_X2_init_n25 : GoodIn wsX3_init (wsX2_init) := ggX3_init_X2_init
theorem dX3_init_0 : decode cX3_init 0 = .ok (.aload_n 0, 1) := by decide +kernel
theorem dX3_init_1 : decode cX3_init 1 = .ok (.invokespecial 3, 3) := by decide +kernel
theorem dX3_init_4 : decode cX3_init 4 = .ok (.aload_n 0, 1) := by decide +kernel
theorem dX3_init_5 : decode cX3_init 5 = .ok (.new 9, 3) := by decide +kernel
theorem dX3_init_8 : decode cX3_init 8 = .ok (.dup, 1) := by decide +kernel
theorem dX3_init_9 : decode cX3_init 9 = .ok (.invokespecial 11, 3) := by decide +kernel
theorem dX3_init_12 : decode cX3_init 12 = .ok (.putfield 12, 3) := by decide +kernel
theorem dX3_init_15 : decode cX3_init 15 = .ok (.aload_n 0, 1) := by decide +kernel
theorem dX3_init_16 : decode cX3_init 16 = .ok (.new 16, 3) := by decide +kernel
theorem dX3_init_19 : decode cX3_init 19 = .ok (.dup, 1) := by decide +kernel
theorem dX3_init_20 : decode cX3_init 20 = .ok (.invokespecial 18, 3) := by decide +kernel
theorem dX3_init_23 : decode cX3_init 23 = .ok (.putfield 19, 3) := by decide +kernel
theorem dX3_init_26 : decode cX3_init 26 = .ok (.aload_n 0, 1) := by decide +kernel
theorem dX3_init_27 : decode cX3_init 27 = .ok (.new 23, 3) := by decide +kernel
theorem dX3_init_30 : decode cX3_init 30 = .ok (.dup, 1) := by decide +kernel
theorem dX3_init_31 : decode cX3_init 31 = .ok (.invokespecial 25, 3) := by decide +kernel
theorem dX3_init_34 : decode cX3_init 34 = .ok (.putfield 26, 3) := by decide +kernel
theorem dX3_init_37 : decode cX3_init 37 = .ok (.aload_n 0, 1) := by decide +kernel
theorem dX3_init_38 : decode cX3_init 38 = .ok (.iconst 2, 1) := by decide +kernel
theorem dX3_init_39 : decode cX3_init 39 = .ok (.putfield 30, 3) := by decide +kernel
theorem dX3_init_42 : decode cX3_init 42 = .ok (.aload_n 0, 1) := by decide +kernel
theorem dX3_init_43 : decode cX3_init 43 = .ok (.iconst 1, 1) := by decide +kernel
theorem dX3_init_44 : decode cX3_init 44 = .ok (.putfield 34, 3) := by decide +kernel
theorem dX3_init_47 : decode cX3_init 47 = .ok (.return_, 1) := by decide +kernel
theorem dX3_grow_0 : decode cX3_grow 0 = .ok (.aload_n 0, 1) := by decide +kernel
theorem dX3_grow_1 : decode cX3_grow 1 = .ok (.getfield 30, 3) := by decide +kernel
theorem dX3_grow_4 : decode cX3_grow 4 = .ok (.bipush 24, 2) := by decide +kernel
theorem dX3_grow_6 : decode cX3_grow 6 = .ok (.if_icmp .lt 6, 3) := by decide +kernel
theorem dX3_grow_9 : decode cX3_grow 9 = .ok (.bipush (-2), 2) := by decide +kernel
theorem dX3_grow_11 : decode cX3_grow 11 = .ok (.ireturn, 1) := by decide +kernel
theorem dX3_grow_12 : decode cX3_grow 12 = .ok (.aload_n 0, 1) := by decide +kernel
theorem dX3_grow_13 : decode cX3_grow 13 = .ok (.iconst 1, 1) := by decide +kernel
theorem dX3_grow_14 : decode cX3_grow 14 = .ok (.putfield 34, 3) := by decide +kernel
theorem dX3_grow_17 : decode cX3_grow 17 = .ok (.aload_n 0, 1) := by decide +kernel
theorem dX3_grow_18 : decode cX3_grow 18 = .ok (.dup, 1) := by decide +kernel
theorem dX3_grow_19 : decode cX3_grow 19 = .ok (.getfield 30, 3) := by decide +kernel
theorem dX3_grow_22 : decode cX3_grow 22 = .ok (.iconst 1, 1) := by decide +kernel
theorem dX3_grow_23 : decode cX3_grow 23 = .ok (.iadd, 1) := by decide +kernel
theorem dX3_grow_24 : decode cX3_grow 24 = .ok (.putfield 30, 3) := by decide +kernel
theorem dX3_grow_27 : decode cX3_grow 27 = .ok (.aload_n 0, 1) := by decide +kernel
theorem dX3_grow_28 : decode cX3_grow 28 = .ok (.getfield 30, 3) := by decide +kernel
theorem dX3_grow_31 : decode cX3_grow 31 = .ok (.iconst 1, 1) := by decide +kernel
theorem dX3_grow_32 : decode cX3_grow 32 = .ok (.isub, 1) := by decide +kernel
theorem dX3_grow_33 : decode cX3_grow 33 = .ok (.ireturn, 1) := by decide +kernel
set_option maxRecDepth 20000 in
theorem ggX3_axiom_X3_isAxiom : GoodIn wsX3_axiom wsX3_isAxiom := goodIn_r _ [7, 8, 9, 10, 6, 11, 12, 13, 14, 15, 25, 26, 27, 28, 29] (by decide +kernel) (by decide +kernel)
set_option maxRecDepth 20000 in
theorem gX3_axiom_X3_isAxiom : GoodIn wsX3_axiom (wsV RX3 38 RX3 yX3_isAxiom wsX3_isAxiom) := goodIn_app (goodIn_of _ (by decide +kernel)) ggX3_axiom_X3_isAxiom
set_option maxRecDepth 20000 in
theorem ggX3_axiom_X0_append : GoodIn wsX3_axiom wsX0_append := goodIn_r _ [19, 20, 21, 22, 23, 24, 30, 31, 32, 33, 34] (by decide +kernel) (by decide +kernel)
set_option maxRecDepth 20000 in
theorem gX3_axiom_X0_append_n45 : GoodIn wsX3_axiom (wsX0_append) := ggX3_axiom_X0_append
theorem dX3_axiom_0 : decode cX3_axiom 0 = .ok (.aload_n 0, 1) := by decide +kernel
theorem dX3_axiom_1 : decode cX3_axiom 1 = .ok (.iload_n 1, 1) := by decide +kernel
theorem dX3_axiom_2 : decode cX3_axiom 2 = .ok (.iload_n 2, 1) := by decide +kernel
theorem dX3_axiom_3 : decode cX3_axiom 3 = .ok (.iload_n 3, 1) := by decide +kernel
theorem dX3_axiom_4 : decode cX3_axiom 4 = .ok (.iload 4, 2) := by decide +kernel
theorem dX3_axiom_6 : decode cX3_axiom 6 = .ok (.invokevirtual 38, 3) := by decide +kernel
theorem dX3_axiom_9 : decode cX3_axiom 9 = .ok (.ifCond .ne 5, 3) := by decide +kernel
theorem dX3_axiom_12 : decode cX3_axiom 12 = .ok (.iconst (-1), 1) := by decide +kernel
theorem dX3_axiom_13 : decode cX3_axiom 13 = .ok (.ireturn, 1) := by decide +kernel
theorem dX3_axiom_14 : decode cX3_axiom 14 = .ok (.aload_n 0, 1) := by decide +kernel
theorem dX3_axiom_15 : decode cX3_axiom 15 = .ok (.getfield 12, 3) := by decide +kernel
theorem dX3_axiom_18 : decode cX3_axiom 18 = .ok (.getfield 42, 3) := by decide +kernel
theorem dX3_axiom_21 : decode cX3_axiom 21 = .ok (.bipush 80, 2) := by decide +kernel
theorem dX3_axiom_23 : decode cX3_axiom 23 = .ok (.if_icmp .lt 6, 3) := by decide +kernel
theorem dX3_axiom_26 : decode cX3_axiom 26 = .ok (.bipush (-2), 2) := by decide +kernel
theorem dX3_axiom_28 : decode cX3_axiom 28 = .ok (.ireturn, 1) := by decide +kernel
theorem dX3_axiom_29 : decode cX3_axiom 29 = .ok (.aload_n 0, 1) := by decide +kernel
theorem dX3_axiom_30 : decode cX3_axiom 30 = .ok (.iconst 1, 1) := by decide +kernel
theorem dX3_axiom_31 : decode cX3_axiom 31 = .ok (.putfield 34, 3) := by decide +kernel
theorem dX3_axiom_34 : decode cX3_axiom 34 = .ok (.aload_n 0, 1) := by decide +kernel
theorem dX3_axiom_35 : decode cX3_axiom 35 = .ok (.getfield 12, 3) := by decide +kernel
theorem dX3_axiom_38 : decode cX3_axiom 38 = .ok (.iload_n 1, 1) := by decide +kernel
theorem dX3_axiom_39 : decode cX3_axiom 39 = .ok (.iload_n 2, 1) := by decide +kernel
theorem dX3_axiom_40 : decode cX3_axiom 40 = .ok (.iload_n 3, 1) := by decide +kernel
theorem dX3_axiom_41 : decode cX3_axiom 41 = .ok (.iload 4, 2) := by decide +kernel
theorem dX3_axiom_43 : decode cX3_axiom 43 = .ok (.invokevirtual 45, 3) := by decide +kernel
theorem dX3_axiom_46 : decode cX3_axiom 46 = .ok (.ireturn, 1) := by decide +kernel
set_option maxRecDepth 20000 in
theorem ggX3_drop_X0_remove : GoodIn wsX3_drop wsX0_remove := goodIn_r _ [6, 7, 8, 9, 10, 11, 12, 13, 14, 4, 15, 16, 17, 18, 19, 25, 26, 27, 28, 29] (by decide +kernel) (by decide +kernel)
set_option maxRecDepth 20000 in
theorem gX3_drop_X0_remove_n49 : GoodIn wsX3_drop (wsX0_remove) := ggX3_drop_X0_remove
theorem dX3_drop_0 : decode cX3_drop 0 = .ok (.iload_n 1, 1) := by decide +kernel
theorem dX3_drop_1 : decode cX3_drop 1 = .ok (.ifCond .lt 14, 3) := by decide +kernel
theorem dX3_drop_4 : decode cX3_drop 4 = .ok (.iload_n 1, 1) := by decide +kernel
theorem dX3_drop_5 : decode cX3_drop 5 = .ok (.aload_n 0, 1) := by decide +kernel
theorem dX3_drop_6 : decode cX3_drop 6 = .ok (.getfield 12, 3) := by decide +kernel
theorem dX3_drop_9 : decode cX3_drop 9 = .ok (.getfield 42, 3) := by decide +kernel
theorem dX3_drop_12 : decode cX3_drop 12 = .ok (.if_icmp .lt 5, 3) := by decide +kernel
theorem dX3_drop_15 : decode cX3_drop 15 = .ok (.iconst (-1), 1) := by decide +kernel
theorem dX3_drop_16 : decode cX3_drop 16 = .ok (.ireturn, 1) := by decide +kernel
theorem dX3_drop_17 : decode cX3_drop 17 = .ok (.aload_n 0, 1) := by decide +kernel
theorem dX3_drop_18 : decode cX3_drop 18 = .ok (.iconst 1, 1) := by decide +kernel
theorem dX3_drop_19 : decode cX3_drop 19 = .ok (.putfield 34, 3) := by decide +kernel
theorem dX3_drop_22 : decode cX3_drop 22 = .ok (.aload_n 0, 1) := by decide +kernel
theorem dX3_drop_23 : decode cX3_drop 23 = .ok (.getfield 12, 3) := by decide +kernel
theorem dX3_drop_26 : decode cX3_drop 26 = .ok (.iload_n 1, 1) := by decide +kernel
theorem dX3_drop_27 : decode cX3_drop 27 = .ok (.invokevirtual 49, 3) := by decide +kernel
theorem dX3_drop_30 : decode cX3_drop 30 = .ok (.ireturn, 1) := by decide +kernel
set_option maxRecDepth 20000 in
theorem ggX3_sub_X3_isClass : GoodIn wsX3_sub wsX3_isClass := goodIn_r _ [5, 6, 95, 96, 97, 98, 99] (by decide +kernel) (by decide +kernel)
set_option maxRecDepth 20000 in
theorem gX3_sub_X3_isClass : GoodIn wsX3_sub (wsV RX3 53 RX3 yX3_isClass wsX3_isClass) := goodIn_app (goodIn_of _ (by decide +kernel)) ggX3_sub_X3_isClass
set_option maxRecDepth 20000 in
theorem ggX3_sub_X3_closed : GoodIn wsX3_sub wsX3_closed := goodIn_r _ [10, 11, 12, 13, 6, 14, 15, 16, 17, 18, 19, 20, 21, 22, 23, 24, 25, 26, 27, 28, 29, 30, 31, 32, 33, 34, 35, 36, 37, 38, 39, 40, 41, 42, 43, 44, 45, 46, 47, 48, 49, 4, 50, 51, 52, 53, 54, 55, 56, 57, 58, 59, 60, 61, 62, 63, 64, 65, 66, 67, 68, 69, 70, 71, 72, 73, 74, 75, 76, 77, 78, 79, 80, 81, 82, 83, 84, 85, 86, 87, 88, 89, 90, 91, 95, 96, 97, 98, 99, 100, 101, 102, 103, 104, 105, 106, 107, 108, 109, 110, 111, 112] (by decide +kernel) (by decide +kernel)
set_option maxRecDepth 20000 in
theorem gX3_sub_X3_closed : GoodIn wsX3_sub (wsV RX3 57 RX3 yX3_closed wsX3_closed) := goodIn_app (goodIn_of _ (by decide +kernel)) ggX3_sub_X3_closed
set_option maxRecDepth 20000 in
theorem ggX3_sub_X1_has : GoodIn wsX3_sub wsX1_has := goodIn_r _ [94, 19, 49, 4, 50, 100, 101, 102, 103, 104, 105, 106, 107] (by decide +kernel) (by decide +kernel)
set_option maxRecDepth 20000 in
theorem gX3_sub_X1_has_n61 : GoodIn wsX3_sub (wsX1_has) := ggX3_sub_X1_has
theorem dX3_sub_0 : decode cX3_sub 0 = .ok (.aload_n 0, 1) := by decide +kernel
theorem dX3_sub_1 : decode cX3_sub 1 = .ok (.iload_n 1, 1) := by decide +kernel
theorem dX3_sub_2 : decode cX3_sub 2 = .ok (.invokevirtual 53, 3) := by decide +kernel
theorem dX3_sub_5 : decode cX3_sub 5 = .ok (.ifCond .eq 11, 3) := by decide +kernel
theorem dX3_sub_8 : decode cX3_sub 8 = .ok (.aload_n 0, 1) := by decide +kernel
theorem dX3_sub_9 : decode cX3_sub 9 = .ok (.iload_n 2, 1) := by decide +kernel
theorem dX3_sub_10 : decode cX3_sub 10 = .ok (.invokevirtual 53, 3) := by decide +kernel
theorem dX3_sub_13 : decode cX3_sub 13 = .ok (.ifCond .ne 5, 3) := by decide +kernel
theorem dX3_sub_16 : decode cX3_sub 16 = .ok (.iconst (-1), 1) := by decide +kernel
theorem dX3_sub_17 : decode cX3_sub 17 = .ok (.ireturn, 1) := by decide +kernel
theorem dX3_sub_18 : decode cX3_sub 18 = .ok (.aload_n 0, 1) := by decide +kernel
theorem dX3_sub_19 : decode cX3_sub 19 = .ok (.invokevirtual 57, 3) := by decide +kernel
theorem dX3_sub_22 : decode cX3_sub 22 = .ok (.iload_n 1, 1) := by decide +kernel
theorem dX3_sub_23 : decode cX3_sub 23 = .ok (.iload_n 2, 1) := by decide +kernel
theorem dX3_sub_24 : decode cX3_sub 24 = .ok (.invokevirtual 61, 3) := by decide +kernel
theorem dX3_sub_27 : decode cX3_sub 27 = .ok (.ifCond .eq 7, 3) := by decide +kernel
theorem dX3_sub_30 : decode cX3_sub 30 = .ok (.iconst 1, 1) := by decide +kernel
theorem dX3_sub_31 : decode cX3_sub 31 = .ok (.goto 4, 3) := by decide +kernel
theorem dX3_sub_34 : decode cX3_sub 34 = .ok (.iconst 0, 1) := by decide +kernel
theorem dX3_sub_35 : decode cX3_sub 35 = .ok (.ireturn, 1) := by decide +kernel
set_option maxRecDepth 20000 in
theorem ggX3_link_X3_isClass : GoodIn wsX3_link wsX3_isClass := goodIn_r _ [5, 6, 99, 100, 101, 102, 103] (by decide +kernel) (by decide +kernel)
set_option maxRecDepth 20000 in
theorem gX3_link_X3_isClass : GoodIn wsX3_link (wsV RX3 53 RX3 yX3_isClass wsX3_isClass) := goodIn_app (goodIn_of _ (by decide +kernel)) ggX3_link_X3_isClass
set_option maxRecDepth 20000 in
theorem ggX3_link_X3_isRole : GoodIn wsX3_link wsX3_isRole := goodIn_r _ [9] (by decide +kernel) (by decide +kernel)
set_option maxRecDepth 20000 in
theorem gX3_link_X3_isRole : GoodIn wsX3_link (va_wsS RX3 65 yX3_isRole wsX3_isRole) := goodIn_app (goodIn_of _ (by decide +kernel)) ggX3_link_X3_isRole
set_option maxRecDepth 20000 in
theorem ggX3_link_X3_closed : GoodIn wsX3_link wsX3_closed := goodIn_r _ [13, 14, 15, 16, 6, 17, 18, 19, 20, 21, 22, 23, 24, 25, 26, 27, 28, 29, 30, 31, 32, 33, 34, 35, 36, 37, 38, 39, 40, 41, 42, 43, 44, 45, 46, 47, 48, 49, 50, 51, 52, 4, 53, 54, 55, 56, 57, 58, 59, 60, 61, 62, 63, 64, 65, 66, 67, 68, 69, 70, 71, 72, 73, 74, 75, 76, 77, 78, 79, 80, 81, 82, 83, 84, 85, 86, 87, 88, 89, 90, 91, 92, 93, 94, 99, 100, 101, 102, 103, 104, 105, 106, 107, 108, 109, 110, 111, 112, 113, 114, 115, 116] (by decide +kernel) (by decide +kernel)
set_option maxRecDepth 20000 in
theorem gX3_link_X3_closed : GoodIn wsX3_link (wsV RX3 57 RX3 yX3_closed wsX3_closed) := goodIn_app (goodIn_of _ (by decide +kernel)) ggX3_link_X3_closed
set_option maxRecDepth 20000 in
theorem ggX3_link_X3_linkColumn : GoodIn wsX3_link wsX3_linkColumn := goodIn_r _ [61] (by decide +kernel) (by decide +kernel)
set_option maxRecDepth 20000 in
theorem gX3_link_X3_linkColumn : GoodIn wsX3_link (va_wsS RX3 68 yX3_linkColumn wsX3_linkColumn) := goodIn_app (goodIn_of _ (by decide +kernel)) ggX3_link_X3_linkColumn
set_option maxRecDepth 20000 in
theorem ggX3_link_X1_has : GoodIn wsX3_link wsX1_has := goodIn_r _ [98, 22, 52, 4, 53, 104, 105, 106, 107, 108, 109, 110, 111] (by decide +kernel) (by decide +kernel)
set_option maxRecDepth 20000 in
theorem gX3_link_X1_has_n61 : GoodIn wsX3_link (wsX1_has) := ggX3_link_X1_has
theorem dX3_link_0 : decode cX3_link 0 = .ok (.aload_n 0, 1) := by decide +kernel
theorem dX3_link_1 : decode cX3_link 1 = .ok (.iload_n 1, 1) := by decide +kernel
theorem dX3_link_2 : decode cX3_link 2 = .ok (.invokevirtual 53, 3) := by decide +kernel
theorem dX3_link_5 : decode cX3_link 5 = .ok (.ifCond .eq 18, 3) := by decide +kernel
theorem dX3_link_8 : decode cX3_link 8 = .ok (.iload_n 2, 1) := by decide +kernel
theorem dX3_link_9 : decode cX3_link 9 = .ok (.invokestatic 65, 3) := by decide +kernel
theorem dX3_link_12 : decode cX3_link 12 = .ok (.ifCond .eq 11, 3) := by decide +kernel
theorem dX3_link_15 : decode cX3_link 15 = .ok (.aload_n 0, 1) := by decide +kernel
theorem dX3_link_16 : decode cX3_link 16 = .ok (.iload_n 3, 1) := by decide +kernel
theorem dX3_link_17 : decode cX3_link 17 = .ok (.invokevirtual 53, 3) := by decide +kernel
theorem dX3_link_20 : decode cX3_link 20 = .ok (.ifCond .ne 5, 3) := by decide +kernel
theorem dX3_link_23 : decode cX3_link 23 = .ok (.iconst (-1), 1) := by decide +kernel
theorem dX3_link_24 : decode cX3_link 24 = .ok (.ireturn, 1) := by decide +kernel
theorem dX3_link_25 : decode cX3_link 25 = .ok (.aload_n 0, 1) := by decide +kernel
theorem dX3_link_26 : decode cX3_link 26 = .ok (.invokevirtual 57, 3) := by decide +kernel
theorem dX3_link_29 : decode cX3_link 29 = .ok (.iload_n 1, 1) := by decide +kernel
theorem dX3_link_30 : decode cX3_link 30 = .ok (.iload_n 2, 1) := by decide +kernel
theorem dX3_link_31 : decode cX3_link 31 = .ok (.iload_n 3, 1) := by decide +kernel
theorem dX3_link_32 : decode cX3_link 32 = .ok (.invokestatic 68, 3) := by decide +kernel
theorem dX3_link_35 : decode cX3_link 35 = .ok (.invokevirtual 61, 3) := by decide +kernel
theorem dX3_link_38 : decode cX3_link 38 = .ok (.ifCond .eq 7, 3) := by decide +kernel
theorem dX3_link_41 : decode cX3_link 41 = .ok (.iconst 1, 1) := by decide +kernel
theorem dX3_link_42 : decode cX3_link 42 = .ok (.goto 4, 3) := by decide +kernel
theorem dX3_link_45 : decode cX3_link 45 = .ok (.iconst 0, 1) := by decide +kernel
theorem dX3_link_46 : decode cX3_link 46 = .ok (.ireturn, 1) := by decide +kernel
set_option maxRecDepth 20000 in
theorem ggX3_rounds_X3_closed : GoodIn wsX3_rounds wsX3_closed := goodIn_r _ [5, 6, 7, 8, 9, 10, 11, 12, 13, 14, 15, 16, 17, 18, 19, 20, 21, 22, 23, 24, 25, 26, 27, 28, 29, 30, 31, 32, 33, 34, 35, 36, 37, 38, 39, 40, 41, 42, 43, 44, 45, 4, 46, 47, 48, 49, 50, 51, 52, 53, 54, 55, 56, 57, 58, 59, 60, 61, 62, 63, 64, 65, 66, 67, 68, 69, 70, 71, 72, 73, 74, 75, 76, 77, 78, 79, 80, 81, 82, 83, 84, 85, 86, 87, 96, 97, 98, 99, 100, 88, 89, 90, 91, 92, 93, 94, 95, 101, 102, 103, 104, 105] (by decide +kernel) (by decide +kernel)
set_option maxRecDepth 20000 in
theorem gX3_rounds_X3_closed : GoodIn wsX3_rounds (wsV RX3 57 RX3 yX3_closed wsX3_closed) := goodIn_app (goodIn_of _ (by decide +kernel)) ggX3_rounds_X3_closed
theorem dX3_rounds_0 : decode cX3_rounds 0 = .ok (.aload_n 0, 1) := by decide +kernel
theorem dX3_rounds_1 : decode cX3_rounds 1 = .ok (.invokevirtual 57, 3) := by decide +kernel
theorem dX3_rounds_4 : decode cX3_rounds 4 = .ok (.getfield 72, 3) := by decide +kernel
theorem dX3_rounds_7 : decode cX3_rounds 7 = .ok (.ireturn, 1) := by decide +kernel
set_option maxRecDepth 20000 in
theorem ggX3_facts_X3_closed : GoodIn wsX3_facts wsX3_closed := goodIn_r _ [5, 6, 7, 8, 9, 10, 11, 12, 13, 14, 15, 16, 17, 18, 19, 20, 21, 22, 23, 24, 25, 26, 27, 28, 29, 30, 31, 32, 33, 34, 35, 36, 37, 38, 39, 40, 41, 42, 43, 44, 45, 4, 46, 47, 48, 49, 50, 51, 52, 53, 54, 55, 56, 57, 58, 59, 60, 61, 62, 63, 64, 65, 66, 67, 68, 69, 70, 71, 72, 73, 74, 75, 76, 77, 78, 79, 80, 81, 82, 83, 84, 85, 86, 87, 96, 97, 98, 99, 100, 88, 89, 90, 91, 92, 93, 94, 95, 101, 102, 103, 104, 105] (by decide +kernel) (by decide +kernel)
set_option maxRecDepth 20000 in
theorem gX3_facts_X3_closed : GoodIn wsX3_facts (wsV RX3 57 RX3 yX3_closed wsX3_closed) := goodIn_app (goodIn_of _ (by decide +kernel)) ggX3_facts_X3_closed
theorem dX3_facts_0 : decode cX3_facts 0 = .ok (.aload_n 0, 1) := by decide +kernel
theorem dX3_facts_1 : decode cX3_facts 1 = .ok (.invokevirtual 57, 3) := by decide +kernel
theorem dX3_facts_4 : decode cX3_facts 4 = .ok (.getfield 75, 3) := by decide +kernel
theorem dX3_facts_7 : decode cX3_facts 7 = .ok (.ireturn, 1) := by decide +kernel
set_option maxRecDepth 20000 in
theorem ggX3_fact_X3_closed : GoodIn wsX3_fact wsX3_closed := goodIn_r _ [8, 9, 10, 11, 12, 13, 14, 15, 16, 17, 18, 19, 20, 21, 22, 23, 24, 25, 26, 27, 28, 29, 30, 31, 32, 33, 34, 35, 36, 37, 38, 39, 40, 41, 42, 43, 44, 45, 46, 47, 48, 7, 49, 50, 51, 52, 53, 54, 55, 56, 57, 58, 59, 60, 61, 62, 63, 64, 65, 66, 67, 68, 69, 70, 71, 72, 73, 74, 75, 76, 77, 78, 79, 80, 81, 82, 83, 84, 85, 86, 87, 88, 89, 90, 105, 106, 107, 108, 109, 91, 92, 93, 94, 95, 96, 97, 98, 110, 111, 112, 113, 114] (by decide +kernel) (by decide +kernel)
set_option maxRecDepth 20000 in
theorem gX3_fact_X3_closed : GoodIn wsX3_fact (wsV RX3 57 RX3 yX3_closed wsX3_closed) := goodIn_app (goodIn_of _ (by decide +kernel)) ggX3_fact_X3_closed
theorem dX3_fact_0 : decode cX3_fact 0 = .ok (.aload_n 0, 1) := by decide +kernel
theorem dX3_fact_1 : decode cX3_fact 1 = .ok (.invokevirtual 57, 3) := by decide +kernel
theorem dX3_fact_4 : decode cX3_fact 4 = .ok (.astore_n 2, 1) := by decide +kernel
theorem dX3_fact_5 : decode cX3_fact 5 = .ok (.iload_n 1, 1) := by decide +kernel
theorem dX3_fact_6 : decode cX3_fact 6 = .ok (.ifCond .lt 11, 3) := by decide +kernel
theorem dX3_fact_9 : decode cX3_fact 9 = .ok (.iload_n 1, 1) := by decide +kernel
theorem dX3_fact_10 : decode cX3_fact 10 = .ok (.aload_n 2, 1) := by decide +kernel
theorem dX3_fact_11 : decode cX3_fact 11 = .ok (.getfield 75, 3) := by decide +kernel
theorem dX3_fact_14 : decode cX3_fact 14 = .ok (.if_icmp .lt 13, 3) := by decide +kernel
theorem dX3_fact_17 : decode cX3_fact 17 = .ok (.new 78, 3) := by decide +kernel
theorem dX3_fact_20 : decode cX3_fact 20 = .ok (.dup, 1) := by decide +kernel
theorem dX3_fact_21 : decode cX3_fact 21 = .ok (.ldc 80, 2) := by decide +kernel
theorem dX3_fact_23 : decode cX3_fact 23 = .ok (.invokespecial 82, 3) := by decide +kernel
theorem dX3_fact_26 : decode cX3_fact 26 = .ok (.athrow, 1) := by decide +kernel
theorem dX3_fact_27 : decode cX3_fact 27 = .ok (.aload_n 2, 1) := by decide +kernel
theorem dX3_fact_28 : decode cX3_fact 28 = .ok (.getfield 85, 3) := by decide +kernel
theorem dX3_fact_31 : decode cX3_fact 31 = .ok (.iload_n 1, 1) := by decide +kernel
theorem dX3_fact_32 : decode cX3_fact 32 = .ok (.iaload, 1) := by decide +kernel
theorem dX3_fact_33 : decode cX3_fact 33 = .ok (.ireturn, 1) := by decide +kernel
set_option maxRecDepth 20000 in
theorem ggX3_told_X3_closed : GoodIn wsX3_told wsX3_closed := goodIn_r _ [5, 6, 7, 8, 9, 10, 11, 12, 13, 14, 15, 16, 17, 18, 19, 20, 21, 22, 23, 24, 25, 26, 27, 28, 29, 30, 31, 32, 33, 34, 35, 36, 37, 38, 39, 40, 41, 42, 43, 44, 45, 4, 46, 47, 48, 49, 50, 51, 52, 53, 54, 55, 56, 57, 58, 59, 60, 61, 62, 63, 64, 65, 66, 67, 68, 69, 70, 71, 72, 73, 74, 75, 76, 77, 78, 79, 80, 81, 82, 83, 84, 85, 86, 87, 103, 104, 105, 106, 107, 108, 109, 110, 111, 112, 113, 114, 115, 116, 117, 118, 119, 120] (by decide +kernel) (by decide +kernel)
set_option maxRecDepth 20000 in
theorem gX3_told_X3_closed : GoodIn wsX3_told (wsV RX3 57 RX3 yX3_closed wsX3_closed) := goodIn_app (goodIn_of _ (by decide +kernel)) ggX3_told_X3_closed
set_option maxRecDepth 20000 in
theorem ggX3_told_X1_follows : GoodIn wsX3_told wsX1_follows := goodIn_r _ [90, 25, 108, 109, 110, 111, 112, 113, 114, 115] (by decide +kernel) (by decide +kernel)
set_option maxRecDepth 20000 in
theorem gX3_told_X1_follows_n89 : GoodIn wsX3_told (wsX1_follows) := ggX3_told_X1_follows
set_option maxRecDepth 20000 in
theorem ggX3_told_X1_roundOf : GoodIn wsX3_told wsX1_roundOf := goodIn_r _ [93, 25, 108, 109, 110, 111, 112, 113, 114, 115] (by decide +kernel) (by decide +kernel)
set_option maxRecDepth 20000 in
theorem gX3_told_X1_roundOf_n92 : GoodIn wsX3_told (wsX1_roundOf) := ggX3_told_X1_roundOf
set_option maxRecDepth 20000 in
theorem ggX3_told_X1_axiomOf : GoodIn wsX3_told wsX1_axiomOf := goodIn_r _ [96, 25, 108, 109, 110, 111, 112, 113, 114, 115] (by decide +kernel) (by decide +kernel)
set_option maxRecDepth 20000 in
theorem gX3_told_X1_axiomOf_n95 : GoodIn wsX3_told (wsX1_axiomOf) := ggX3_told_X1_axiomOf
set_option maxRecDepth 20000 in
theorem ggX3_told_X1_firstPremiseOf : GoodIn wsX3_told wsX1_firstPremiseOf := goodIn_r _ [99, 25, 108, 109, 110, 111, 112, 113, 114, 115] (by decide +kernel) (by decide +kernel)
set_option maxRecDepth 20000 in
theorem gX3_told_X1_firstPremiseOf_n98 : GoodIn wsX3_told (wsX1_firstPremiseOf) := ggX3_told_X1_firstPremiseOf
set_option maxRecDepth 20000 in
theorem ggX3_told_X1_secondPremiseOf : GoodIn wsX3_told wsX1_secondPremiseOf := goodIn_r _ [102, 25, 108, 109, 110, 111, 112, 113, 114, 115] (by decide +kernel) (by decide +kernel)
set_option maxRecDepth 20000 in
theorem gX3_told_X1_secondPremiseOf_n101 : GoodIn wsX3_told (wsX1_secondPremiseOf) := ggX3_told_X1_secondPremiseOf
theorem dX3_told_0 : decode cX3_told 0 = .ok (.aload_n 0, 1) := by decide +kernel
theorem dX3_told_1 : decode cX3_told 1 = .ok (.invokevirtual 57, 3) := by decide +kernel
theorem dX3_told_4 : decode cX3_told 4 = .ok (.astore_n 3, 1) := by decide +kernel
theorem dX3_told_5 : decode cX3_told 5 = .ok (.aload_n 3, 1) := by decide +kernel
theorem dX3_told_6 : decode cX3_told 6 = .ok (.iload_n 1, 1) := by decide +kernel
theorem dX3_told_7 : decode cX3_told 7 = .ok (.invokevirtual 89, 3) := by decide +kernel
theorem dX3_told_10 : decode cX3_told 10 = .ok (.ifCond .ne 5, 3) := by decide +kernel
theorem dX3_told_13 : decode cX3_told 13 = .ok (.iconst (-1), 1) := by decide +kernel
theorem dX3_told_14 : decode cX3_told 14 = .ok (.ireturn, 1) := by decide +kernel
theorem dX3_told_15 : decode cX3_told 15 = .ok (.iload_n 2, 1) := by decide +kernel
theorem dX3_told_16 : decode cX3_told 16 = .ok (.tableswitch 56 0 3 #[32, 38, 44, 50], 32) := by decide +kernel
theorem dX3_told_48 : decode cX3_told 48 = .ok (.aload_n 3, 1) := by decide +kernel
theorem dX3_told_49 : decode cX3_told 49 = .ok (.iload_n 1, 1) := by decide +kernel
theorem dX3_told_50 : decode cX3_told 50 = .ok (.invokevirtual 92, 3) := by decide +kernel
theorem dX3_told_53 : decode cX3_told 53 = .ok (.ireturn, 1) := by decide +kernel
theorem dX3_told_54 : decode cX3_told 54 = .ok (.aload_n 3, 1) := by decide +kernel
theorem dX3_told_55 : decode cX3_told 55 = .ok (.iload_n 1, 1) := by decide +kernel
theorem dX3_told_56 : decode cX3_told 56 = .ok (.invokevirtual 95, 3) := by decide +kernel
theorem dX3_told_59 : decode cX3_told 59 = .ok (.ireturn, 1) := by decide +kernel
theorem dX3_told_60 : decode cX3_told 60 = .ok (.aload_n 3, 1) := by decide +kernel
theorem dX3_told_61 : decode cX3_told 61 = .ok (.iload_n 1, 1) := by decide +kernel
theorem dX3_told_62 : decode cX3_told 62 = .ok (.invokevirtual 98, 3) := by decide +kernel
theorem dX3_told_65 : decode cX3_told 65 = .ok (.ireturn, 1) := by decide +kernel
theorem dX3_told_66 : decode cX3_told 66 = .ok (.aload_n 3, 1) := by decide +kernel
theorem dX3_told_67 : decode cX3_told 67 = .ok (.iload_n 1, 1) := by decide +kernel
theorem dX3_told_68 : decode cX3_told 68 = .ok (.invokevirtual 101, 3) := by decide +kernel
theorem dX3_told_71 : decode cX3_told 71 = .ok (.ireturn, 1) := by decide +kernel
theorem dX3_told_72 : decode cX3_told 72 = .ok (.iconst (-1), 1) := by decide +kernel
theorem dX3_told_73 : decode cX3_told 73 = .ok (.ireturn, 1) := by decide +kernel
set_option maxRecDepth 20000 in
theorem ggX3_trace_X3_closed : GoodIn wsX3_trace wsX3_closed := goodIn_r _ [6, 7, 8, 9, 10, 11, 12, 13, 14, 15, 16, 17, 18, 19, 20, 21, 22, 23, 24, 25, 26, 27, 28, 29, 30, 31, 32, 33, 34, 35, 36, 37, 38, 39, 40, 41, 42, 43, 44, 45, 46, 5, 47, 48, 49, 50, 51, 52, 53, 54, 55, 56, 57, 58, 59, 60, 61, 62, 63, 64, 65, 66, 67, 68, 69, 70, 71, 72, 73, 74, 75, 76, 77, 78, 79, 80, 81, 82, 83, 84, 85, 86, 87, 88, 114, 115, 116, 117, 118, 122, 123, 124, 125, 126, 127, 128, 129, 130, 131, 132, 133, 134] (by decide +kernel) (by decide +kernel)
set_option maxRecDepth 20000 in
theorem gX3_trace_X3_closed : GoodIn wsX3_trace (wsV RX3 57 RX3 yX3_closed wsX3_closed) := goodIn_app (goodIn_of _ (by decide +kernel)) ggX3_trace_X3_closed
set_option maxRecDepth 20000 in
theorem ggX3_trace_X2_take : GoodIn wsX3_trace wsX2_take := goodIn_r _ [92, 93, 94, 95, 96, 12, 97, 98, 26, 99, 36, 33, 37, 100, 101, 102, 90, 103, 104, 105, 106, 107, 108, 109, 110, 111, 112, 113, 119, 120, 121, 122, 123, 124, 125, 126, 127, 128, 129] (by decide +kernel) (by decide +kernel)
set_option maxRecDepth 20000 in
theorem gX3_trace_X2_take_n104 : GoodIn wsX3_trace (wsX2_take) := ggX3_trace_X2_take
theorem dX3_trace_0 : decode cX3_trace 0 = .ok (.aload_n 0, 1) := by decide +kernel
theorem dX3_trace_1 : decode cX3_trace 1 = .ok (.getfield 26, 3) := by decide +kernel
theorem dX3_trace_4 : decode cX3_trace 4 = .ok (.aload_n 0, 1) := by decide +kernel
theorem dX3_trace_5 : decode cX3_trace 5 = .ok (.invokevirtual 57, 3) := by decide +kernel
theorem dX3_trace_8 : decode cX3_trace 8 = .ok (.iload_n 1, 1) := by decide +kernel
theorem dX3_trace_9 : decode cX3_trace 9 = .ok (.invokevirtual 104, 3) := by decide +kernel
theorem dX3_trace_12 : decode cX3_trace 12 = .ok (.aload_n 0, 1) := by decide +kernel
theorem dX3_trace_13 : decode cX3_trace 13 = .ok (.getfield 26, 3) := by decide +kernel
theorem dX3_trace_16 : decode cX3_trace 16 = .ok (.getfield 108, 3) := by decide +kernel
theorem dX3_trace_19 : decode cX3_trace 19 = .ok (.ireturn, 1) := by decide +kernel
theorem dX3_row_0 : decode cX3_row 0 = .ok (.iload_n 1, 1) := by decide +kernel
theorem dX3_row_1 : decode cX3_row 1 = .ok (.ifCond .lt 14, 3) := by decide +kernel
theorem dX3_row_4 : decode cX3_row 4 = .ok (.iload_n 1, 1) := by decide +kernel
theorem dX3_row_5 : decode cX3_row 5 = .ok (.aload_n 0, 1) := by decide +kernel
theorem dX3_row_6 : decode cX3_row 6 = .ok (.getfield 26, 3) := by decide +kernel
theorem dX3_row_9 : decode cX3_row 9 = .ok (.getfield 108, 3) := by decide +kernel
theorem dX3_row_12 : decode cX3_row 12 = .ok (.if_icmp .lt 5, 3) := by decide +kernel
theorem dX3_row_15 : decode cX3_row 15 = .ok (.iconst (-1), 1) := by decide +kernel
theorem dX3_row_16 : decode cX3_row 16 = .ok (.ireturn, 1) := by decide +kernel
theorem dX3_row_17 : decode cX3_row 17 = .ok (.aload_n 0, 1) := by decide +kernel
theorem dX3_row_18 : decode cX3_row 18 = .ok (.getfield 26, 3) := by decide +kernel
theorem dX3_row_21 : decode cX3_row 21 = .ok (.getfield 109, 3) := by decide +kernel
theorem dX3_row_24 : decode cX3_row 24 = .ok (.iload_n 1, 1) := by decide +kernel
theorem dX3_row_25 : decode cX3_row 25 = .ok (.iaload, 1) := by decide +kernel
theorem dX3_row_26 : decode cX3_row 26 = .ok (.ireturn, 1) := by decide +kernel
set_option maxRecDepth 20000 in
theorem ggX3_empty_X3_sub : GoodIn wsX3_empty wsX3_sub := goodIn_r _ [5, 6, 7, 8, 4, 9, 10, 11, 12, 13, 14, 15, 16, 17, 18, 19, 20, 21, 22, 23, 24, 25, 26, 27, 28, 29, 30, 31, 32, 33, 34, 35, 36, 37, 38, 39, 40, 41, 42, 43, 44, 45, 46, 47, 48, 49, 50, 51, 52, 53, 54, 55, 56, 57, 58, 59, 60, 61, 62, 63, 64, 65, 66, 67, 68, 69, 70, 71, 72, 73, 74, 75, 76, 77, 78, 79, 80, 81, 82, 83, 84, 85, 86, 87, 88, 89, 90, 91, 92, 93, 94, 95, 96, 97, 98, 99, 100, 101, 102, 103, 104, 105, 106, 107, 108, 109, 110, 111, 112, 113, 114, 115, 116] (by decide +kernel) (by decide +kernel)
set_option maxRecDepth 20000 in
theorem gX3_empty_X3_sub : GoodIn wsX3_empty (wsV RX3 112 RX3 yX3_sub wsX3_sub) := goodIn_app (goodIn_of _ (by decide +kernel)) ggX3_empty_X3_sub
theorem dX3_empty_0 : decode cX3_empty 0 = .ok (.aload_n 0, 1) := by decide +kernel
theorem dX3_empty_1 : decode cX3_empty 1 = .ok (.iload_n 1, 1) := by decide +kernel
theorem dX3_empty_2 : decode cX3_empty 2 = .ok (.iconst 1, 1) := by decide +kernel
theorem dX3_empty_3 : decode cX3_empty 3 = .ok (.invokevirtual 112, 3) := by decide +kernel
theorem dX3_empty_6 : decode cX3_empty 6 = .ok (.ireturn, 1) := by decide +kernel
set_option maxRecDepth 20000 in
theorem ggX3_same_X3_isClass : GoodIn wsX3_same wsX3_isClass := goodIn_r _ [5, 6, 103, 104, 105, 106, 107] (by decide +kernel) (by decide +kernel)
set_option maxRecDepth 20000 in
theorem gX3_same_X3_isClass : GoodIn wsX3_same (wsV RX3 53 RX3 yX3_isClass wsX3_isClass) := goodIn_app (goodIn_of _ (by decide +kernel)) ggX3_same_X3_isClass
set_option maxRecDepth 20000 in
theorem ggX3_same_X3_closed : GoodIn wsX3_same wsX3_closed := goodIn_r _ [10, 11, 12, 13, 6, 14, 15, 16, 17, 18, 19, 20, 21, 22, 23, 24, 25, 26, 27, 28, 29, 30, 31, 32, 33, 34, 35, 36, 37, 38, 39, 40, 41, 42, 43, 44, 45, 46, 47, 48, 49, 4, 50, 51, 52, 53, 54, 55, 56, 57, 58, 59, 60, 61, 62, 63, 64, 65, 66, 67, 68, 69, 70, 71, 72, 73, 74, 75, 76, 77, 78, 79, 80, 81, 82, 83, 84, 85, 86, 87, 88, 89, 90, 91, 103, 104, 105, 106, 107, 108, 109, 110, 111, 112, 113, 114, 115, 116, 117, 118, 119, 120] (by decide +kernel) (by decide +kernel)
set_option maxRecDepth 20000 in
theorem gX3_same_X3_closed : GoodIn wsX3_same (wsV RX3 57 RX3 yX3_closed wsX3_closed) := goodIn_app (goodIn_of _ (by decide +kernel)) ggX3_same_X3_closed
set_option maxRecDepth 20000 in
theorem ggX3_same_X1_leastSame : GoodIn wsX3_same wsX1_leastSame := goodIn_r _ [94, 95, 96, 97, 15, 98, 99, 100, 101, 102, 19, 49, 4, 50, 108, 109, 110, 111, 112, 113, 114, 115] (by decide +kernel) (by decide +kernel)
set_option maxRecDepth 20000 in
theorem gX3_same_X1_leastSame_n115 : GoodIn wsX3_same (wsX1_leastSame) := ggX3_same_X1_leastSame
theorem dX3_same_0 : decode cX3_same 0 = .ok (.aload_n 0, 1) := by decide +kernel
theorem dX3_same_1 : decode cX3_same 1 = .ok (.iload_n 1, 1) := by decide +kernel
theorem dX3_same_2 : decode cX3_same 2 = .ok (.invokevirtual 53, 3) := by decide +kernel
theorem dX3_same_5 : decode cX3_same 5 = .ok (.ifCond .ne 5, 3) := by decide +kernel
theorem dX3_same_8 : decode cX3_same 8 = .ok (.iconst (-1), 1) := by decide +kernel
theorem dX3_same_9 : decode cX3_same 9 = .ok (.ireturn, 1) := by decide +kernel
theorem dX3_same_10 : decode cX3_same 10 = .ok (.aload_n 0, 1) := by decide +kernel
theorem dX3_same_11 : decode cX3_same 11 = .ok (.invokevirtual 57, 3) := by decide +kernel
theorem dX3_same_14 : decode cX3_same 14 = .ok (.iload_n 1, 1) := by decide +kernel
theorem dX3_same_15 : decode cX3_same 15 = .ok (.invokevirtual 115, 3) := by decide +kernel
theorem dX3_same_18 : decode cX3_same 18 = .ok (.ireturn, 1) := by decide +kernel
set_option maxRecDepth 20000 in
theorem ggX3_parent_X3_isClass : GoodIn wsX3_parent wsX3_isClass := goodIn_r _ [5, 6, 111, 112, 113, 114, 115] (by decide +kernel) (by decide +kernel)
set_option maxRecDepth 20000 in
theorem gX3_parent_X3_isClass : GoodIn wsX3_parent (wsV RX3 53 RX3 yX3_isClass wsX3_isClass) := goodIn_app (goodIn_of _ (by decide +kernel)) ggX3_parent_X3_isClass
set_option maxRecDepth 20000 in
theorem ggX3_parent_X3_closed : GoodIn wsX3_parent wsX3_closed := goodIn_r _ [10, 11, 12, 13, 6, 14, 15, 16, 17, 18, 19, 20, 21, 22, 23, 24, 25, 26, 27, 28, 29, 30, 31, 32, 33, 34, 35, 36, 37, 38, 39, 40, 41, 42, 43, 44, 45, 46, 47, 48, 49, 4, 50, 51, 52, 53, 54, 55, 56, 57, 58, 59, 60, 61, 62, 63, 64, 65, 66, 67, 68, 69, 70, 71, 72, 73, 74, 75, 76, 77, 78, 79, 80, 81, 82, 83, 84, 85, 86, 87, 88, 89, 90, 91, 111, 112, 113, 114, 115, 116, 117, 118, 119, 120, 121, 122, 123, 124, 125, 126, 127, 128] (by decide +kernel) (by decide +kernel)
set_option maxRecDepth 20000 in
theorem gX3_parent_X3_closed : GoodIn wsX3_parent (wsV RX3 57 RX3 yX3_closed wsX3_closed) := goodIn_app (goodIn_of _ (by decide +kernel)) ggX3_parent_X3_closed
set_option maxRecDepth 20000 in
theorem ggX3_parent_X1_parentOf : GoodIn wsX3_parent wsX1_parentOf := goodIn_r _ [94, 31, 95, 96, 97, 15, 98, 19, 49, 4, 50, 99, 100, 101, 102, 103, 104, 105, 106, 107, 108, 109, 110, 116, 117, 118, 119, 120, 121, 122, 123] (by decide +kernel) (by decide +kernel)
set_option maxRecDepth 20000 in
theorem gX3_parent_X1_parentOf_n118 : GoodIn wsX3_parent (wsX1_parentOf) := ggX3_parent_X1_parentOf
theorem dX3_parent_0 : decode cX3_parent 0 = .ok (.aload_n 0, 1) := by decide +kernel
theorem dX3_parent_1 : decode cX3_parent 1 = .ok (.iload_n 1, 1) := by decide +kernel
theorem dX3_parent_2 : decode cX3_parent 2 = .ok (.invokevirtual 53, 3) := by decide +kernel
theorem dX3_parent_5 : decode cX3_parent 5 = .ok (.ifCond .eq 7, 3) := by decide +kernel
theorem dX3_parent_8 : decode cX3_parent 8 = .ok (.iload_n 2, 1) := by decide +kernel
theorem dX3_parent_9 : decode cX3_parent 9 = .ok (.ifCond .ge 5, 3) := by decide +kernel
theorem dX3_parent_12 : decode cX3_parent 12 = .ok (.iconst (-1), 1) := by decide +kernel
theorem dX3_parent_13 : decode cX3_parent 13 = .ok (.ireturn, 1) := by decide +kernel
theorem dX3_parent_14 : decode cX3_parent 14 = .ok (.aload_n 0, 1) := by decide +kernel
theorem dX3_parent_15 : decode cX3_parent 15 = .ok (.invokevirtual 57, 3) := by decide +kernel
theorem dX3_parent_18 : decode cX3_parent 18 = .ok (.iload_n 1, 1) := by decide +kernel
theorem dX3_parent_19 : decode cX3_parent 19 = .ok (.iload_n 2, 1) := by decide +kernel
theorem dX3_parent_20 : decode cX3_parent 20 = .ok (.invokevirtual 118, 3) := by decide +kernel
theorem dX3_parent_23 : decode cX3_parent 23 = .ok (.ireturn, 1) := by decide +kernel
theorem dX3_isClass_0 : decode cX3_isClass 0 = .ok (.iload_n 1, 1) := by decide +kernel
theorem dX3_isClass_1 : decode cX3_isClass 1 = .ok (.ifCond .lt 15, 3) := by decide +kernel
theorem dX3_isClass_4 : decode cX3_isClass 4 = .ok (.iload_n 1, 1) := by decide +kernel
theorem dX3_isClass_5 : decode cX3_isClass 5 = .ok (.aload_n 0, 1) := by decide +kernel
theorem dX3_isClass_6 : decode cX3_isClass 6 = .ok (.getfield 30, 3) := by decide +kernel
theorem dX3_isClass_9 : decode cX3_isClass 9 = .ok (.if_icmp .ge 7, 3) := by decide +kernel
theorem dX3_isClass_12 : decode cX3_isClass 12 = .ok (.iconst 1, 1) := by decide +kernel
theorem dX3_isClass_13 : decode cX3_isClass 13 = .ok (.goto 4, 3) := by decide +kernel
theorem dX3_isClass_16 : decode cX3_isClass 16 = .ok (.iconst 0, 1) := by decide +kernel
theorem dX3_isClass_17 : decode cX3_isClass 17 = .ok (.ireturn, 1) := by decide +kernel
theorem dX3_isRole_0 : decode cX3_isRole 0 = .ok (.iload_n 0, 1) := by decide +kernel
theorem dX3_isRole_1 : decode cX3_isRole 1 = .ok (.ifCond .lt 13, 3) := by decide +kernel
theorem dX3_isRole_4 : decode cX3_isRole 4 = .ok (.iload_n 0, 1) := by decide +kernel
theorem dX3_isRole_5 : decode cX3_isRole 5 = .ok (.bipush 6, 2) := by decide +kernel
theorem dX3_isRole_7 : decode cX3_isRole 7 = .ok (.if_icmp .ge 7, 3) := by decide +kernel
theorem dX3_isRole_10 : decode cX3_isRole 10 = .ok (.iconst 1, 1) := by decide +kernel
theorem dX3_isRole_11 : decode cX3_isRole 11 = .ok (.goto 4, 3) := by decide +kernel
theorem dX3_isRole_14 : decode cX3_isRole 14 = .ok (.iconst 0, 1) := by decide +kernel
theorem dX3_isRole_15 : decode cX3_isRole 15 = .ok (.ireturn, 1) := by decide +kernel
set_option maxRecDepth 20000 in
theorem ggX3_isAxiom_X3_isClass : GoodIn wsX3_isAxiom wsX3_isClass := goodIn_r _ [5, 6, 10, 11, 12, 13, 14] (by decide +kernel) (by decide +kernel)
set_option maxRecDepth 20000 in
theorem gX3_isAxiom_X3_isClass : GoodIn wsX3_isAxiom (wsV RX3 53 RX3 yX3_isClass wsX3_isClass) := goodIn_app (goodIn_of _ (by decide +kernel)) ggX3_isAxiom_X3_isClass
set_option maxRecDepth 20000 in
theorem ggX3_isAxiom_X3_isRole : GoodIn wsX3_isAxiom wsX3_isRole := goodIn_r _ [9] (by decide +kernel) (by decide +kernel)
set_option maxRecDepth 20000 in
theorem gX3_isAxiom_X3_isRole : GoodIn wsX3_isAxiom (va_wsS RX3 65 yX3_isRole wsX3_isRole) := goodIn_app (goodIn_of _ (by decide +kernel)) ggX3_isAxiom_X3_isRole
theorem dX3_isAxiom_0 : decode cX3_isAxiom 0 = .ok (.iload_n 1, 1) := by decide +kernel
theorem dX3_isAxiom_1 : decode cX3_isAxiom 1 = .ok (.tableswitch 209 1 7 #[43, 65, 96, 126, 156, 176, 204], 43) := by decide +kernel
theorem dX3_isAxiom_44 : decode cX3_isAxiom 44 = .ok (.aload_n 0, 1) := by decide +kernel
theorem dX3_isAxiom_45 : decode cX3_isAxiom 45 = .ok (.iload_n 2, 1) := by decide +kernel
theorem dX3_isAxiom_46 : decode cX3_isAxiom 46 = .ok (.invokevirtual 53, 3) := by decide +kernel
theorem dX3_isAxiom_49 : decode cX3_isAxiom 49 = .ok (.ifCond .eq 15, 3) := by decide +kernel
theorem dX3_isAxiom_52 : decode cX3_isAxiom 52 = .ok (.aload_n 0, 1) := by decide +kernel
theorem dX3_isAxiom_53 : decode cX3_isAxiom 53 = .ok (.iload_n 3, 1) := by decide +kernel
theorem dX3_isAxiom_54 : decode cX3_isAxiom 54 = .ok (.invokevirtual 53, 3) := by decide +kernel
theorem dX3_isAxiom_57 : decode cX3_isAxiom 57 = .ok (.ifCond .eq 7, 3) := by decide +kernel
theorem dX3_isAxiom_60 : decode cX3_isAxiom 60 = .ok (.iconst 1, 1) := by decide +kernel
theorem dX3_isAxiom_61 : decode cX3_isAxiom 61 = .ok (.goto 4, 3) := by decide +kernel
theorem dX3_isAxiom_64 : decode cX3_isAxiom 64 = .ok (.iconst 0, 1) := by decide +kernel
theorem dX3_isAxiom_65 : decode cX3_isAxiom 65 = .ok (.ireturn, 1) := by decide +kernel
theorem dX3_isAxiom_66 : decode cX3_isAxiom 66 = .ok (.aload_n 0, 1) := by decide +kernel
theorem dX3_isAxiom_67 : decode cX3_isAxiom 67 = .ok (.iload_n 2, 1) := by decide +kernel
theorem dX3_isAxiom_68 : decode cX3_isAxiom 68 = .ok (.invokevirtual 53, 3) := by decide +kernel
theorem dX3_isAxiom_71 : decode cX3_isAxiom 71 = .ok (.ifCond .eq 24, 3) := by decide +kernel
theorem dX3_isAxiom_74 : decode cX3_isAxiom 74 = .ok (.aload_n 0, 1) := by decide +kernel
theorem dX3_isAxiom_75 : decode cX3_isAxiom 75 = .ok (.iload_n 3, 1) := by decide +kernel
theorem dX3_isAxiom_76 : decode cX3_isAxiom 76 = .ok (.invokevirtual 53, 3) := by decide +kernel
theorem dX3_isAxiom_79 : decode cX3_isAxiom 79 = .ok (.ifCond .eq 16, 3) := by decide +kernel
theorem dX3_isAxiom_82 : decode cX3_isAxiom 82 = .ok (.aload_n 0, 1) := by decide +kernel
theorem dX3_isAxiom_83 : decode cX3_isAxiom 83 = .ok (.iload 4, 2) := by decide +kernel
theorem dX3_isAxiom_85 : decode cX3_isAxiom 85 = .ok (.invokevirtual 53, 3) := by decide +kernel
theorem dX3_isAxiom_88 : decode cX3_isAxiom 88 = .ok (.ifCond .eq 7, 3) := by decide +kernel
theorem dX3_isAxiom_91 : decode cX3_isAxiom 91 = .ok (.iconst 1, 1) := by decide +kernel
theorem dX3_isAxiom_92 : decode cX3_isAxiom 92 = .ok (.goto 4, 3) := by decide +kernel
theorem dX3_isAxiom_95 : decode cX3_isAxiom 95 = .ok (.iconst 0, 1) := by decide +kernel
theorem dX3_isAxiom_96 : decode cX3_isAxiom 96 = .ok (.ireturn, 1) := by decide +kernel
theorem dX3_isAxiom_97 : decode cX3_isAxiom 97 = .ok (.aload_n 0, 1) := by decide +kernel
theorem dX3_isAxiom_98 : decode cX3_isAxiom 98 = .ok (.iload_n 2, 1) := by decide +kernel
theorem dX3_isAxiom_99 : decode cX3_isAxiom 99 = .ok (.invokevirtual 53, 3) := by decide +kernel
theorem dX3_isAxiom_102 : decode cX3_isAxiom 102 = .ok (.ifCond .eq 23, 3) := by decide +kernel
theorem dX3_isAxiom_105 : decode cX3_isAxiom 105 = .ok (.iload_n 3, 1) := by decide +kernel
theorem dX3_isAxiom_106 : decode cX3_isAxiom 106 = .ok (.invokestatic 65, 3) := by decide +kernel
theorem dX3_isAxiom_109 : decode cX3_isAxiom 109 = .ok (.ifCond .eq 16, 3) := by decide +kernel
theorem dX3_isAxiom_112 : decode cX3_isAxiom 112 = .ok (.aload_n 0, 1) := by decide +kernel
theorem dX3_isAxiom_113 : decode cX3_isAxiom 113 = .ok (.iload 4, 2) := by decide +kernel
theorem dX3_isAxiom_115 : decode cX3_isAxiom 115 = .ok (.invokevirtual 53, 3) := by decide +kernel
theorem dX3_isAxiom_118 : decode cX3_isAxiom 118 = .ok (.ifCond .eq 7, 3) := by decide +kernel
theorem dX3_isAxiom_121 : decode cX3_isAxiom 121 = .ok (.iconst 1, 1) := by decide +kernel
theorem dX3_isAxiom_122 : decode cX3_isAxiom 122 = .ok (.goto 4, 3) := by decide +kernel
theorem dX3_isAxiom_125 : decode cX3_isAxiom 125 = .ok (.iconst 0, 1) := by decide +kernel
theorem dX3_isAxiom_126 : decode cX3_isAxiom 126 = .ok (.ireturn, 1) := by decide +kernel
theorem dX3_isAxiom_127 : decode cX3_isAxiom 127 = .ok (.iload_n 2, 1) := by decide +kernel
theorem dX3_isAxiom_128 : decode cX3_isAxiom 128 = .ok (.invokestatic 65, 3) := by decide +kernel
theorem dX3_isAxiom_131 : decode cX3_isAxiom 131 = .ok (.ifCond .eq 24, 3) := by decide +kernel
theorem dX3_isAxiom_134 : decode cX3_isAxiom 134 = .ok (.aload_n 0, 1) := by decide +kernel
theorem dX3_isAxiom_135 : decode cX3_isAxiom 135 = .ok (.iload_n 3, 1) := by decide +kernel
theorem dX3_isAxiom_136 : decode cX3_isAxiom 136 = .ok (.invokevirtual 53, 3) := by decide +kernel
theorem dX3_isAxiom_139 : decode cX3_isAxiom 139 = .ok (.ifCond .eq 16, 3) := by decide +kernel
theorem dX3_isAxiom_142 : decode cX3_isAxiom 142 = .ok (.aload_n 0, 1) := by decide +kernel
theorem dX3_isAxiom_143 : decode cX3_isAxiom 143 = .ok (.iload 4, 2) := by decide +kernel
theorem dX3_isAxiom_145 : decode cX3_isAxiom 145 = .ok (.invokevirtual 53, 3) := by decide +kernel
theorem dX3_isAxiom_148 : decode cX3_isAxiom 148 = .ok (.ifCond .eq 7, 3) := by decide +kernel
theorem dX3_isAxiom_151 : decode cX3_isAxiom 151 = .ok (.iconst 1, 1) := by decide +kernel
theorem dX3_isAxiom_152 : decode cX3_isAxiom 152 = .ok (.goto 4, 3) := by decide +kernel
theorem dX3_isAxiom_155 : decode cX3_isAxiom 155 = .ok (.iconst 0, 1) := by decide +kernel
theorem dX3_isAxiom_156 : decode cX3_isAxiom 156 = .ok (.ireturn, 1) := by decide +kernel
theorem dX3_isAxiom_157 : decode cX3_isAxiom 157 = .ok (.iload_n 2, 1) := by decide +kernel
theorem dX3_isAxiom_158 : decode cX3_isAxiom 158 = .ok (.invokestatic 65, 3) := by decide +kernel
theorem dX3_isAxiom_161 : decode cX3_isAxiom 161 = .ok (.ifCond .eq 14, 3) := by decide +kernel
theorem dX3_isAxiom_164 : decode cX3_isAxiom 164 = .ok (.iload_n 3, 1) := by decide +kernel
theorem dX3_isAxiom_165 : decode cX3_isAxiom 165 = .ok (.invokestatic 65, 3) := by decide +kernel
theorem dX3_isAxiom_168 : decode cX3_isAxiom 168 = .ok (.ifCond .eq 7, 3) := by decide +kernel
theorem dX3_isAxiom_171 : decode cX3_isAxiom 171 = .ok (.iconst 1, 1) := by decide +kernel
theorem dX3_isAxiom_172 : decode cX3_isAxiom 172 = .ok (.goto 4, 3) := by decide +kernel
theorem dX3_isAxiom_175 : decode cX3_isAxiom 175 = .ok (.iconst 0, 1) := by decide +kernel
theorem dX3_isAxiom_176 : decode cX3_isAxiom 176 = .ok (.ireturn, 1) := by decide +kernel
theorem dX3_isAxiom_177 : decode cX3_isAxiom 177 = .ok (.iload_n 2, 1) := by decide +kernel
theorem dX3_isAxiom_178 : decode cX3_isAxiom 178 = .ok (.invokestatic 65, 3) := by decide +kernel
theorem dX3_isAxiom_181 : decode cX3_isAxiom 181 = .ok (.ifCond .eq 22, 3) := by decide +kernel
theorem dX3_isAxiom_184 : decode cX3_isAxiom 184 = .ok (.iload_n 3, 1) := by decide +kernel
theorem dX3_isAxiom_185 : decode cX3_isAxiom 185 = .ok (.invokestatic 65, 3) := by decide +kernel
theorem dX3_isAxiom_188 : decode cX3_isAxiom 188 = .ok (.ifCond .eq 15, 3) := by decide +kernel
theorem dX3_isAxiom_191 : decode cX3_isAxiom 191 = .ok (.iload 4, 2) := by decide +kernel
theorem dX3_isAxiom_193 : decode cX3_isAxiom 193 = .ok (.invokestatic 65, 3) := by decide +kernel
theorem dX3_isAxiom_196 : decode cX3_isAxiom 196 = .ok (.ifCond .eq 7, 3) := by decide +kernel
theorem dX3_isAxiom_199 : decode cX3_isAxiom 199 = .ok (.iconst 1, 1) := by decide +kernel
theorem dX3_isAxiom_200 : decode cX3_isAxiom 200 = .ok (.goto 4, 3) := by decide +kernel
theorem dX3_isAxiom_203 : decode cX3_isAxiom 203 = .ok (.iconst 0, 1) := by decide +kernel
theorem dX3_isAxiom_204 : decode cX3_isAxiom 204 = .ok (.ireturn, 1) := by decide +kernel
theorem dX3_isAxiom_205 : decode cX3_isAxiom 205 = .ok (.iload_n 2, 1) := by decide +kernel
theorem dX3_isAxiom_206 : decode cX3_isAxiom 206 = .ok (.invokestatic 65, 3) := by decide +kernel
theorem dX3_isAxiom_209 : decode cX3_isAxiom 209 = .ok (.ireturn, 1) := by decide +kernel
theorem dX3_isAxiom_210 : decode cX3_isAxiom 210 = .ok (.iconst 0, 1) := by decide +kernel
theorem dX3_isAxiom_211 : decode cX3_isAxiom 211 = .ok (.ireturn, 1) := by decide +kernel
set_option maxRecDepth 20000 in
theorem ggX3_closed_X1_fill : GoodIn wsX3_closed wsX1_fill := goodIn_r _ [8, 9, 10, 11, 12, 13, 14, 15, 16, 17, 18, 6, 19, 20, 21, 22, 23, 24, 25, 26, 27, 28, 29, 30, 31, 32, 33, 34, 35, 36, 37, 38, 39, 40, 41, 42, 43, 44, 45, 46, 47, 48, 49, 50, 51, 52, 53, 54, 55, 56, 57, 58, 59, 60, 61, 62, 63, 64, 65, 66, 67, 68, 69, 70, 71, 72, 73, 74, 75, 76, 77, 78, 79, 80, 81, 82, 83, 89, 90, 91, 92, 93, 94, 95, 96, 97, 98, 99, 100, 101] (by decide +kernel) (by decide +kernel)
set_option maxRecDepth 20000 in
theorem gX3_closed_X1_fill_n121 : GoodIn wsX3_closed (wsX1_fill) := ggX3_closed_X1_fill
theorem dX3_closed_0 : decode cX3_closed 0 = .ok (.aload_n 0, 1) := by decide +kernel
theorem dX3_closed_1 : decode cX3_closed 1 = .ok (.getfield 34, 3) := by decide +kernel
theorem dX3_closed_4 : decode cX3_closed 4 = .ok (.ifCond .eq 23, 3) := by decide +kernel
theorem dX3_closed_7 : decode cX3_closed 7 = .ok (.aload_n 0, 1) := by decide +kernel
theorem dX3_closed_8 : decode cX3_closed 8 = .ok (.getfield 19, 3) := by decide +kernel
theorem dX3_closed_11 : decode cX3_closed 11 = .ok (.aload_n 0, 1) := by decide +kernel
theorem dX3_closed_12 : decode cX3_closed 12 = .ok (.getfield 12, 3) := by decide +kernel
theorem dX3_closed_15 : decode cX3_closed 15 = .ok (.aload_n 0, 1) := by decide +kernel
theorem dX3_closed_16 : decode cX3_closed 16 = .ok (.getfield 30, 3) := by decide +kernel
theorem dX3_closed_19 : decode cX3_closed 19 = .ok (.invokevirtual 121, 3) := by decide +kernel
theorem dX3_closed_22 : decode cX3_closed 22 = .ok (.aload_n 0, 1) := by decide +kernel
theorem dX3_closed_23 : decode cX3_closed 23 = .ok (.iconst 0, 1) := by decide +kernel
theorem dX3_closed_24 : decode cX3_closed 24 = .ok (.putfield 34, 3) := by decide +kernel
theorem dX3_closed_27 : decode cX3_closed 27 = .ok (.aload_n 0, 1) := by decide +kernel
theorem dX3_closed_28 : decode cX3_closed 28 = .ok (.getfield 19, 3) := by decide +kernel
theorem dX3_closed_31 : decode cX3_closed 31 = .ok (.areturn, 1) := by decide +kernel
theorem dX3_linkColumn_0 : decode cX3_linkColumn 0 = .ok (.bipush 24, 2) := by decide +kernel
theorem dX3_linkColumn_2 : decode cX3_linkColumn 2 = .ok (.bipush 24, 2) := by decide +kernel
theorem dX3_linkColumn_4 : decode cX3_linkColumn 4 = .ok (.iload_n 0, 1) := by decide +kernel
theorem dX3_linkColumn_5 : decode cX3_linkColumn 5 = .ok (.imul, 1) := by decide +kernel
theorem dX3_linkColumn_6 : decode cX3_linkColumn 6 = .ok (.iadd, 1) := by decide +kernel
theorem dX3_linkColumn_7 : decode cX3_linkColumn 7 = .ok (.iload_n 1, 1) := by decide +kernel
theorem dX3_linkColumn_8 : decode cX3_linkColumn 8 = .ok (.iadd, 1) := by decide +kernel
theorem dX3_linkColumn_9 : decode cX3_linkColumn 9 = .ok (.ireturn, 1) := by decide +kernel
theorem dX3_codeOf_0 : decode cX3_codeOf 0 = .ok (.iload_n 1, 1) := by decide +kernel
theorem dX3_codeOf_1 : decode cX3_codeOf 1 = .ok (.bipush 24, 2) := by decide +kernel
theorem dX3_codeOf_3 : decode cX3_codeOf 3 = .ok (.if_icmp .ge 10, 3) := by decide +kernel
theorem dX3_codeOf_6 : decode cX3_codeOf 6 = .ok (.bipush 24, 2) := by decide +kernel
theorem dX3_codeOf_8 : decode cX3_codeOf 8 = .ok (.iload_n 0, 1) := by decide +kernel
theorem dX3_codeOf_9 : decode cX3_codeOf 9 = .ok (.imul, 1) := by decide +kernel
theorem dX3_codeOf_10 : decode cX3_codeOf 10 = .ok (.iload_n 1, 1) := by decide +kernel
theorem dX3_codeOf_11 : decode cX3_codeOf 11 = .ok (.iadd, 1) := by decide +kernel
theorem dX3_codeOf_12 : decode cX3_codeOf 12 = .ok (.ireturn, 1) := by decide +kernel
theorem dX3_codeOf_13 : decode cX3_codeOf 13 = .ok (.sipush 576, 3) := by decide +kernel
theorem dX3_codeOf_16 : decode cX3_codeOf 16 = .ok (.sipush 144, 3) := by decide +kernel
theorem dX3_codeOf_19 : decode cX3_codeOf 19 = .ok (.iload_n 0, 1) := by decide +kernel
theorem dX3_codeOf_20 : decode cX3_codeOf 20 = .ok (.imul, 1) := by decide +kernel
theorem dX3_codeOf_21 : decode cX3_codeOf 21 = .ok (.iadd, 1) := by decide +kernel
theorem dX3_codeOf_22 : decode cX3_codeOf 22 = .ok (.iload_n 1, 1) := by decide +kernel
theorem dX3_codeOf_23 : decode cX3_codeOf 23 = .ok (.iadd, 1) := by decide +kernel
theorem dX3_codeOf_24 : decode cX3_codeOf 24 = .ok (.bipush 24, 2) := by decide +kernel
theorem dX3_codeOf_26 : decode cX3_codeOf 26 = .ok (.isub, 1) := by decide +kernel
theorem dX3_codeOf_27 : decode cX3_codeOf 27 = .ok (.ireturn, 1) := by decide +kernel
theorem dX3_isIn_0 : decode cX3_isIn 0 = .ok (.iload_n 1, 1) := by decide +kernel
theorem dX3_isIn_1 : decode cX3_isIn 1 = .ok (.iload_n 0, 1) := by decide +kernel
theorem dX3_isIn_2 : decode cX3_isIn 2 = .ok (.ishr, 1) := by decide +kernel
theorem dX3_isIn_3 : decode cX3_isIn 3 = .ok (.iconst 1, 1) := by decide +kernel
theorem dX3_isIn_4 : decode cX3_isIn 4 = .ok (.iand, 1) := by decide +kernel
theorem dX3_isIn_5 : decode cX3_isIn 5 = .ok (.ifCond .eq 7, 3) := by decide +kernel
theorem dX3_isIn_8 : decode cX3_isIn 8 = .ok (.iconst 1, 1) := by decide +kernel
theorem dX3_isIn_9 : decode cX3_isIn 9 = .ok (.goto 4, 3) := by decide +kernel
theorem dX3_isIn_12 : decode cX3_isIn 12 = .ok (.iconst 0, 1) := by decide +kernel
theorem dX3_isIn_13 : decode cX3_isIn 13 = .ok (.ireturn, 1) := by decide +kernel
theorem dX4_thrown_0 : decode cX4_thrown 0 = .ok (.aload_n 0, 1) := by decide +kernel
theorem dX4_thrown_1 : decode cX4_thrown 1 = .ok (.getfield 1, 3) := by decide +kernel
theorem dX4_thrown_4 : decode cX4_thrown 4 = .ok (.ireturn, 1) := by decide +kernel
theorem dX4_init_0 : decode cX4_init 0 = .ok (.aload_n 0, 1) := by decide +kernel
theorem dX4_init_1 : decode cX4_init 1 = .ok (.invokespecial 7, 3) := by decide +kernel
theorem dX4_init_4 : decode cX4_init 4 = .ok (.aload_n 0, 1) := by decide +kernel
theorem dX4_init_5 : decode cX4_init 5 = .ok (.iconst 2, 1) := by decide +kernel
theorem dX4_init_6 : decode cX4_init 6 = .ok (.putfield 13, 3) := by decide +kernel
theorem dX4_init_9 : decode cX4_init 9 = .ok (.aload_n 0, 1) := by decide +kernel
theorem dX4_init_10 : decode cX4_init 10 = .ok (.sipush 320, 3) := by decide +kernel
theorem dX4_init_13 : decode cX4_init 13 = .ok (.newarray .int, 2) := by decide +kernel
theorem dX4_init_15 : decode cX4_init 15 = .ok (.putfield 16, 3) := by decide +kernel
theorem dX4_init_18 : decode cX4_init 18 = .ok (.aload_n 0, 1) := by decide +kernel
theorem dX4_init_19 : decode cX4_init 19 = .ok (.sipush 4032, 3) := by decide +kernel
theorem dX4_init_22 : decode cX4_init 22 = .ok (.newarray .int, 2) := by decide +kernel
theorem dX4_init_24 : decode cX4_init 24 = .ok (.putfield 20, 3) := by decide +kernel
theorem dX4_init_27 : decode cX4_init 27 = .ok (.aload_n 0, 1) := by decide +kernel
theorem dX4_init_28 : decode cX4_init 28 = .ok (.sipush 4032, 3) := by decide +kernel
theorem dX4_init_31 : decode cX4_init 31 = .ok (.newarray .int, 2) := by decide +kernel
theorem dX4_init_33 : decode cX4_init 33 = .ok (.putfield 23, 3) := by decide +kernel
theorem dX4_init_36 : decode cX4_init 36 = .ok (.aload_n 0, 1) := by decide +kernel
theorem dX4_init_37 : decode cX4_init 37 = .ok (.sipush 4032, 3) := by decide +kernel
theorem dX4_init_40 : decode cX4_init 40 = .ok (.newarray .int, 2) := by decide +kernel
theorem dX4_init_42 : decode cX4_init 42 = .ok (.putfield 26, 3) := by decide +kernel
theorem dX4_init_45 : decode cX4_init 45 = .ok (.aload_n 0, 1) := by decide +kernel
theorem dX4_init_46 : decode cX4_init 46 = .ok (.sipush 4032, 3) := by decide +kernel
theorem dX4_init_49 : decode cX4_init 49 = .ok (.newarray .int, 2) := by decide +kernel
theorem dX4_init_51 : decode cX4_init 51 = .ok (.putfield 29, 3) := by decide +kernel
theorem dX4_init_54 : decode cX4_init 54 = .ok (.aload_n 0, 1) := by decide +kernel
theorem dX4_init_55 : decode cX4_init 55 = .ok (.sipush 4032, 3) := by decide +kernel
theorem dX4_init_58 : decode cX4_init 58 = .ok (.newarray .int, 2) := by decide +kernel
theorem dX4_init_60 : decode cX4_init 60 = .ok (.putfield 32, 3) := by decide +kernel
theorem dX4_init_63 : decode cX4_init 63 = .ok (.aload_n 0, 1) := by decide +kernel
theorem dX4_init_64 : decode cX4_init 64 = .ok (.sipush 4032, 3) := by decide +kernel
theorem dX4_init_67 : decode cX4_init 67 = .ok (.newarray .int, 2) := by decide +kernel
theorem dX4_init_69 : decode cX4_init 69 = .ok (.putfield 35, 3) := by decide +kernel
theorem dX4_init_72 : decode cX4_init 72 = .ok (.aload_n 0, 1) := by decide +kernel
theorem dX4_init_73 : decode cX4_init 73 = .ok (.sipush 4032, 3) := by decide +kernel
theorem dX4_init_76 : decode cX4_init 76 = .ok (.newarray .boolean, 2) := by decide +kernel
theorem dX4_init_78 : decode cX4_init 78 = .ok (.putfield 38, 3) := by decide +kernel
theorem dX4_init_81 : decode cX4_init 81 = .ok (.return_, 1) := by decide +kernel
theorem dX4_isClass_0 : decode cX4_isClass 0 = .ok (.iload_n 1, 1) := by decide +kernel
theorem dX4_isClass_1 : decode cX4_isClass 1 = .ok (.ifCond .lt 15, 3) := by decide +kernel
theorem dX4_isClass_4 : decode cX4_isClass 4 = .ok (.iload_n 1, 1) := by decide +kernel
theorem dX4_isClass_5 : decode cX4_isClass 5 = .ok (.aload_n 0, 1) := by decide +kernel
theorem dX4_isClass_6 : decode cX4_isClass 6 = .ok (.getfield 13, 3) := by decide +kernel
theorem dX4_isClass_9 : decode cX4_isClass 9 = .ok (.if_icmp .ge 7, 3) := by decide +kernel
theorem dX4_isClass_12 : decode cX4_isClass 12 = .ok (.iconst 1, 1) := by decide +kernel
theorem dX4_isClass_13 : decode cX4_isClass 13 = .ok (.goto 4, 3) := by decide +kernel
theorem dX4_isClass_16 : decode cX4_isClass 16 = .ok (.iconst 0, 1) := by decide +kernel
theorem dX4_isClass_17 : decode cX4_isClass 17 = .ok (.ireturn, 1) := by decide +kernel
theorem dX4_isRole_0 : decode cX4_isRole 0 = .ok (.iload_n 0, 1) := by decide +kernel
theorem dX4_isRole_1 : decode cX4_isRole 1 = .ok (.ifCond .lt 13, 3) := by decide +kernel
theorem dX4_isRole_4 : decode cX4_isRole 4 = .ok (.iload_n 0, 1) := by decide +kernel
theorem dX4_isRole_5 : decode cX4_isRole 5 = .ok (.bipush 6, 2) := by decide +kernel
theorem dX4_isRole_7 : decode cX4_isRole 7 = .ok (.if_icmp .ge 7, 3) := by decide +kernel
theorem dX4_isRole_10 : decode cX4_isRole 10 = .ok (.iconst 1, 1) := by decide +kernel
theorem dX4_isRole_11 : decode cX4_isRole 11 = .ok (.goto 4, 3) := by decide +kernel
theorem dX4_isRole_14 : decode cX4_isRole 14 = .ok (.iconst 0, 1) := by decide +kernel
theorem dX4_isRole_15 : decode cX4_isRole 15 = .ok (.ireturn, 1) := by decide +kernel
theorem dX4_grow_0 : decode cX4_grow 0 = .ok (.aload_n 0, 1) := by decide +kernel
theorem dX4_grow_1 : decode cX4_grow 1 = .ok (.iconst 0, 1) := by decide +kernel
theorem dX4_grow_2 : decode cX4_grow 2 = .ok (.putfield 1, 3) := by decide +kernel
theorem dX4_grow_5 : decode cX4_grow 5 = .ok (.aload_n 0, 1) := by decide +kernel
theorem dX4_grow_6 : decode cX4_grow 6 = .ok (.getfield 13, 3) := by decide +kernel
theorem dX4_grow_9 : decode cX4_grow 9 = .ok (.bipush 24, 2) := by decide +kernel
theorem dX4_grow_11 : decode cX4_grow 11 = .ok (.if_icmp .ne 6, 3) := by decide +kernel
theorem dX4_grow_14 : decode cX4_grow 14 = .ok (.bipush (-2), 2) := by decide +kernel
theorem dX4_grow_16 : decode cX4_grow 16 = .ok (.ireturn, 1) := by decide +kernel
theorem dX4_grow_17 : decode cX4_grow 17 = .ok (.aload_n 0, 1) := by decide +kernel
theorem dX4_grow_18 : decode cX4_grow 18 = .ok (.dup, 1) := by decide +kernel
theorem dX4_grow_19 : decode cX4_grow 19 = .ok (.getfield 13, 3) := by decide +kernel
theorem dX4_grow_22 : decode cX4_grow 22 = .ok (.iconst 1, 1) := by decide +kernel
theorem dX4_grow_23 : decode cX4_grow 23 = .ok (.iadd, 1) := by decide +kernel
theorem dX4_grow_24 : decode cX4_grow 24 = .ok (.putfield 13, 3) := by decide +kernel
theorem dX4_grow_27 : decode cX4_grow 27 = .ok (.aload_n 0, 1) := by decide +kernel
theorem dX4_grow_28 : decode cX4_grow 28 = .ok (.iconst 0, 1) := by decide +kernel
theorem dX4_grow_29 : decode cX4_grow 29 = .ok (.putfield 42, 3) := by decide +kernel
theorem dX4_grow_32 : decode cX4_grow 32 = .ok (.aload_n 0, 1) := by decide +kernel
theorem dX4_grow_33 : decode cX4_grow 33 = .ok (.getfield 13, 3) := by decide +kernel
theorem dX4_grow_36 : decode cX4_grow 36 = .ok (.iconst 1, 1) := by decide +kernel
theorem dX4_grow_37 : decode cX4_grow 37 = .ok (.isub, 1) := by decide +kernel
theorem dX4_grow_38 : decode cX4_grow 38 = .ok (.ireturn, 1) := by decide +kernel
theorem dX4_wants_0 : decode cX4_wants 0 = .ok (.iload_n 0, 1) := by decide +kernel
theorem dX4_wants_1 : decode cX4_wants 1 = .ok (.tableswitch 60 1 6 #[39, 42, 45, 48, 52, 56], 39) := by decide +kernel
theorem dX4_wants_40 : decode cX4_wants 40 = .ok (.bipush 110, 2) := by decide +kernel
theorem dX4_wants_42 : decode cX4_wants 42 = .ok (.ireturn, 1) := by decide +kernel
theorem dX4_wants_43 : decode cX4_wants 43 = .ok (.bipush 111, 2) := by decide +kernel
theorem dX4_wants_45 : decode cX4_wants 45 = .ok (.ireturn, 1) := by decide +kernel
theorem dX4_wants_46 : decode cX4_wants 46 = .ok (.bipush 121, 2) := by decide +kernel
theorem dX4_wants_48 : decode cX4_wants 48 = .ok (.ireturn, 1) := by decide +kernel
theorem dX4_wants_49 : decode cX4_wants 49 = .ok (.sipush 211, 3) := by decide +kernel
theorem dX4_wants_52 : decode cX4_wants 52 = .ok (.ireturn, 1) := by decide +kernel
theorem dX4_wants_53 : decode cX4_wants 53 = .ok (.sipush 220, 3) := by decide +kernel
theorem dX4_wants_56 : decode cX4_wants 56 = .ok (.ireturn, 1) := by decide +kernel
theorem dX4_wants_57 : decode cX4_wants 57 = .ok (.sipush 222, 3) := by decide +kernel
theorem dX4_wants_60 : decode cX4_wants 60 = .ok (.ireturn, 1) := by decide +kernel
theorem dX4_wants_61 : decode cX4_wants 61 = .ok (.sipush 200, 3) := by decide +kernel
theorem dX4_wants_64 : decode cX4_wants 64 = .ok (.ireturn, 1) := by decide +kernel
set_option maxRecDepth 20000 in
theorem ggX4_fits_X4_isClass : GoodIn wsX4_fits wsX4_isClass := goodIn_r _ [5, 6, 10, 11, 12, 13, 14, 15, 16, 17, 18, 19, 20, 21, 22, 23, 24, 25] (by decide +kernel) (by decide +kernel)
set_option maxRecDepth 20000 in
theorem gX4_fits_X4_isClass : GoodIn wsX4_fits (wsV RX4 46 RX4 yX4_isClass wsX4_isClass) := goodIn_app (goodIn_of _ (by decide +kernel)) ggX4_fits_X4_isClass
set_option maxRecDepth 20000 in
theorem ggX4_fits_X4_isRole : GoodIn wsX4_fits wsX4_isRole := goodIn_r _ [9] (by decide +kernel) (by decide +kernel)
set_option maxRecDepth 20000 in
theorem gX4_fits_X4_isRole : GoodIn wsX4_fits (va_wsS RX4 50 yX4_isRole wsX4_isRole) := goodIn_app (goodIn_of _ (by decide +kernel)) ggX4_fits_X4_isRole
theorem dX4_fits_0 : decode cX4_fits 0 = .ok (.iload_n 1, 1) := by decide +kernel
theorem dX4_fits_1 : decode cX4_fits 1 = .ok (.ifCond .eq 26, 3) := by decide +kernel
theorem dX4_fits_4 : decode cX4_fits 4 = .ok (.iload_n 1, 1) := by decide +kernel
theorem dX4_fits_5 : decode cX4_fits 5 = .ok (.iconst 1, 1) := by decide +kernel
theorem dX4_fits_6 : decode cX4_fits 6 = .ok (.if_icmp .ne 14, 3) := by decide +kernel
theorem dX4_fits_9 : decode cX4_fits 9 = .ok (.aload_n 0, 1) := by decide +kernel
theorem dX4_fits_10 : decode cX4_fits 10 = .ok (.iload_n 2, 1) := by decide +kernel
theorem dX4_fits_11 : decode cX4_fits 11 = .ok (.invokevirtual 46, 3) := by decide +kernel
theorem dX4_fits_14 : decode cX4_fits 14 = .ok (.ifCond .eq 17, 3) := by decide +kernel
theorem dX4_fits_17 : decode cX4_fits 17 = .ok (.goto 10, 3) := by decide +kernel
theorem dX4_fits_20 : decode cX4_fits 20 = .ok (.iload_n 2, 1) := by decide +kernel
theorem dX4_fits_21 : decode cX4_fits 21 = .ok (.invokestatic 50, 3) := by decide +kernel
theorem dX4_fits_24 : decode cX4_fits 24 = .ok (.ifCond .eq 7, 3) := by decide +kernel
theorem dX4_fits_27 : decode cX4_fits 27 = .ok (.iconst 1, 1) := by decide +kernel
theorem dX4_fits_28 : decode cX4_fits 28 = .ok (.goto 4, 3) := by decide +kernel
theorem dX4_fits_31 : decode cX4_fits 31 = .ok (.iconst 0, 1) := by decide +kernel
theorem dX4_fits_32 : decode cX4_fits 32 = .ok (.ireturn, 1) := by decide +kernel
set_option maxRecDepth 20000 in
theorem ggX4_axiom_X4_wants : GoodIn wsX4_axiom wsX4_wants := goodIn_r _ [8] (by decide +kernel) (by decide +kernel)
set_option maxRecDepth 20000 in
theorem gX4_axiom_X4_wants : GoodIn wsX4_axiom (va_wsS RX4 53 yX4_wants wsX4_wants) := goodIn_app (goodIn_of _ (by decide +kernel)) ggX4_axiom_X4_wants
set_option maxRecDepth 20000 in
theorem ggX4_axiom_X4_fits : GoodIn wsX4_axiom wsX4_fits := goodIn_r _ [12, 13, 14, 15, 7, 16, 17, 18, 19, 20, 21, 22, 23, 24, 25, 26, 27, 28, 29, 30, 31, 32, 33, 34, 35, 36] (by decide +kernel) (by decide +kernel)
set_option maxRecDepth 20000 in
theorem gX4_axiom_X4_fits : GoodIn wsX4_axiom (wsV RX4 57 RX4 yX4_fits wsX4_fits) := goodIn_app (goodIn_of _ (by decide +kernel)) ggX4_axiom_X4_fits
theorem dX4_axiom_0 : decode cX4_axiom 0 = .ok (.aload_n 0, 1) := by decide +kernel
theorem dX4_axiom_1 : decode cX4_axiom 1 = .ok (.iconst 0, 1) := by decide +kernel
theorem dX4_axiom_2 : decode cX4_axiom 2 = .ok (.putfield 1, 3) := by decide +kernel
theorem dX4_axiom_5 : decode cX4_axiom 5 = .ok (.iload_n 1, 1) := by decide +kernel
theorem dX4_axiom_6 : decode cX4_axiom 6 = .ok (.iconst 1, 1) := by decide +kernel
theorem dX4_axiom_7 : decode cX4_axiom 7 = .ok (.if_icmp .lt 9, 3) := by decide +kernel
theorem dX4_axiom_10 : decode cX4_axiom 10 = .ok (.iload_n 1, 1) := by decide +kernel
theorem dX4_axiom_11 : decode cX4_axiom 11 = .ok (.bipush 7, 2) := by decide +kernel
theorem dX4_axiom_13 : decode cX4_axiom 13 = .ok (.if_icmp .le 5, 3) := by decide +kernel
theorem dX4_axiom_16 : decode cX4_axiom 16 = .ok (.iconst (-1), 1) := by decide +kernel
theorem dX4_axiom_17 : decode cX4_axiom 17 = .ok (.ireturn, 1) := by decide +kernel
theorem dX4_axiom_18 : decode cX4_axiom 18 = .ok (.iload_n 1, 1) := by decide +kernel
theorem dX4_axiom_19 : decode cX4_axiom 19 = .ok (.invokestatic 53, 3) := by decide +kernel
theorem dX4_axiom_22 : decode cX4_axiom 22 = .ok (.istore 5, 2) := by decide +kernel
theorem dX4_axiom_24 : decode cX4_axiom 24 = .ok (.aload_n 0, 1) := by decide +kernel
theorem dX4_axiom_25 : decode cX4_axiom 25 = .ok (.iload 5, 2) := by decide +kernel
theorem dX4_axiom_27 : decode cX4_axiom 27 = .ok (.bipush 100, 2) := by decide +kernel
theorem dX4_axiom_29 : decode cX4_axiom 29 = .ok (.idiv, 1) := by decide +kernel
theorem dX4_axiom_30 : decode cX4_axiom 30 = .ok (.iload_n 2, 1) := by decide +kernel
theorem dX4_axiom_31 : decode cX4_axiom 31 = .ok (.invokevirtual 57, 3) := by decide +kernel
theorem dX4_axiom_34 : decode cX4_axiom 34 = .ok (.ifCond .eq 33, 3) := by decide +kernel
theorem dX4_axiom_37 : decode cX4_axiom 37 = .ok (.aload_n 0, 1) := by decide +kernel
theorem dX4_axiom_38 : decode cX4_axiom 38 = .ok (.iload 5, 2) := by decide +kernel
theorem dX4_axiom_40 : decode cX4_axiom 40 = .ok (.bipush 10, 2) := by decide +kernel
theorem dX4_axiom_42 : decode cX4_axiom 42 = .ok (.idiv, 1) := by decide +kernel
theorem dX4_axiom_43 : decode cX4_axiom 43 = .ok (.bipush 10, 2) := by decide +kernel
theorem dX4_axiom_45 : decode cX4_axiom 45 = .ok (.irem, 1) := by decide +kernel
theorem dX4_axiom_46 : decode cX4_axiom 46 = .ok (.iload_n 3, 1) := by decide +kernel
theorem dX4_axiom_47 : decode cX4_axiom 47 = .ok (.invokevirtual 57, 3) := by decide +kernel
theorem dX4_axiom_50 : decode cX4_axiom 50 = .ok (.ifCond .eq 17, 3) := by decide +kernel
theorem dX4_axiom_53 : decode cX4_axiom 53 = .ok (.aload_n 0, 1) := by decide +kernel
theorem dX4_axiom_54 : decode cX4_axiom 54 = .ok (.iload 5, 2) := by decide +kernel
theorem dX4_axiom_56 : decode cX4_axiom 56 = .ok (.bipush 10, 2) := by decide +kernel
theorem dX4_axiom_58 : decode cX4_axiom 58 = .ok (.irem, 1) := by decide +kernel
theorem dX4_axiom_59 : decode cX4_axiom 59 = .ok (.iload 4, 2) := by decide +kernel
theorem dX4_axiom_61 : decode cX4_axiom 61 = .ok (.invokevirtual 57, 3) := by decide +kernel
theorem dX4_axiom_64 : decode cX4_axiom 64 = .ok (.ifCond .ne 5, 3) := by decide +kernel
theorem dX4_axiom_67 : decode cX4_axiom 67 = .ok (.iconst (-1), 1) := by decide +kernel
theorem dX4_axiom_68 : decode cX4_axiom 68 = .ok (.ireturn, 1) := by decide +kernel
theorem dX4_axiom_69 : decode cX4_axiom 69 = .ok (.aload_n 0, 1) := by decide +kernel
theorem dX4_axiom_70 : decode cX4_axiom 70 = .ok (.getfield 61, 3) := by decide +kernel
theorem dX4_axiom_73 : decode cX4_axiom 73 = .ok (.bipush 80, 2) := by decide +kernel
theorem dX4_axiom_75 : decode cX4_axiom 75 = .ok (.if_icmp .ne 6, 3) := by decide +kernel
theorem dX4_axiom_78 : decode cX4_axiom 78 = .ok (.bipush (-2), 2) := by decide +kernel
theorem dX4_axiom_80 : decode cX4_axiom 80 = .ok (.ireturn, 1) := by decide +kernel
theorem dX4_axiom_81 : decode cX4_axiom 81 = .ok (.aload_n 0, 1) := by decide +kernel
theorem dX4_axiom_82 : decode cX4_axiom 82 = .ok (.getfield 16, 3) := by decide +kernel
theorem dX4_axiom_85 : decode cX4_axiom 85 = .ok (.iconst 4, 1) := by decide +kernel
theorem dX4_axiom_86 : decode cX4_axiom 86 = .ok (.aload_n 0, 1) := by decide +kernel
theorem dX4_axiom_87 : decode cX4_axiom 87 = .ok (.getfield 61, 3) := by decide +kernel
theorem dX4_axiom_90 : decode cX4_axiom 90 = .ok (.imul, 1) := by decide +kernel
theorem dX4_axiom_91 : decode cX4_axiom 91 = .ok (.iload_n 1, 1) := by decide +kernel
theorem dX4_axiom_92 : decode cX4_axiom 92 = .ok (.iastore, 1) := by decide +kernel
theorem dX4_axiom_93 : decode cX4_axiom 93 = .ok (.aload_n 0, 1) := by decide +kernel
theorem dX4_axiom_94 : decode cX4_axiom 94 = .ok (.getfield 16, 3) := by decide +kernel
theorem dX4_axiom_97 : decode cX4_axiom 97 = .ok (.iconst 4, 1) := by decide +kernel
theorem dX4_axiom_98 : decode cX4_axiom 98 = .ok (.aload_n 0, 1) := by decide +kernel
theorem dX4_axiom_99 : decode cX4_axiom 99 = .ok (.getfield 61, 3) := by decide +kernel
theorem dX4_axiom_102 : decode cX4_axiom 102 = .ok (.imul, 1) := by decide +kernel
theorem dX4_axiom_103 : decode cX4_axiom 103 = .ok (.iconst 1, 1) := by decide +kernel
theorem dX4_axiom_104 : decode cX4_axiom 104 = .ok (.iadd, 1) := by decide +kernel
theorem dX4_axiom_105 : decode cX4_axiom 105 = .ok (.iload_n 2, 1) := by decide +kernel
theorem dX4_axiom_106 : decode cX4_axiom 106 = .ok (.iastore, 1) := by decide +kernel
theorem dX4_axiom_107 : decode cX4_axiom 107 = .ok (.aload_n 0, 1) := by decide +kernel
theorem dX4_axiom_108 : decode cX4_axiom 108 = .ok (.getfield 16, 3) := by decide +kernel
theorem dX4_axiom_111 : decode cX4_axiom 111 = .ok (.iconst 4, 1) := by decide +kernel
theorem dX4_axiom_112 : decode cX4_axiom 112 = .ok (.aload_n 0, 1) := by decide +kernel
theorem dX4_axiom_113 : decode cX4_axiom 113 = .ok (.getfield 61, 3) := by decide +kernel
theorem dX4_axiom_116 : decode cX4_axiom 116 = .ok (.imul, 1) := by decide +kernel
theorem dX4_axiom_117 : decode cX4_axiom 117 = .ok (.iconst 2, 1) := by decide +kernel
theorem dX4_axiom_118 : decode cX4_axiom 118 = .ok (.iadd, 1) := by decide +kernel
theorem dX4_axiom_119 : decode cX4_axiom 119 = .ok (.iload_n 3, 1) := by decide +kernel
theorem dX4_axiom_120 : decode cX4_axiom 120 = .ok (.iastore, 1) := by decide +kernel
theorem dX4_axiom_121 : decode cX4_axiom 121 = .ok (.aload_n 0, 1) := by decide +kernel
theorem dX4_axiom_122 : decode cX4_axiom 122 = .ok (.getfield 16, 3) := by decide +kernel
theorem dX4_axiom_125 : decode cX4_axiom 125 = .ok (.iconst 4, 1) := by decide +kernel
theorem dX4_axiom_126 : decode cX4_axiom 126 = .ok (.aload_n 0, 1) := by decide +kernel
theorem dX4_axiom_127 : decode cX4_axiom 127 = .ok (.getfield 61, 3) := by decide +kernel
theorem dX4_axiom_130 : decode cX4_axiom 130 = .ok (.imul, 1) := by decide +kernel
theorem dX4_axiom_131 : decode cX4_axiom 131 = .ok (.iconst 3, 1) := by decide +kernel
theorem dX4_axiom_132 : decode cX4_axiom 132 = .ok (.iadd, 1) := by decide +kernel
theorem dX4_axiom_133 : decode cX4_axiom 133 = .ok (.iload 4, 2) := by decide +kernel
theorem dX4_axiom_135 : decode cX4_axiom 135 = .ok (.iastore, 1) := by decide +kernel
theorem dX4_axiom_136 : decode cX4_axiom 136 = .ok (.aload_n 0, 1) := by decide +kernel
theorem dX4_axiom_137 : decode cX4_axiom 137 = .ok (.dup, 1) := by decide +kernel
theorem dX4_axiom_138 : decode cX4_axiom 138 = .ok (.getfield 61, 3) := by decide +kernel
theorem dX4_axiom_141 : decode cX4_axiom 141 = .ok (.iconst 1, 1) := by decide +kernel
theorem dX4_axiom_142 : decode cX4_axiom 142 = .ok (.iadd, 1) := by decide +kernel
theorem dX4_axiom_143 : decode cX4_axiom 143 = .ok (.putfield 61, 3) := by decide +kernel
theorem dX4_axiom_146 : decode cX4_axiom 146 = .ok (.aload_n 0, 1) := by decide +kernel
theorem dX4_axiom_147 : decode cX4_axiom 147 = .ok (.iconst 0, 1) := by decide +kernel
theorem dX4_axiom_148 : decode cX4_axiom 148 = .ok (.putfield 42, 3) := by decide +kernel
theorem dX4_axiom_151 : decode cX4_axiom 151 = .ok (.aload_n 0, 1) := by decide +kernel
theorem dX4_axiom_152 : decode cX4_axiom 152 = .ok (.getfield 61, 3) := by decide +kernel
theorem dX4_axiom_155 : decode cX4_axiom 155 = .ok (.iconst 1, 1) := by decide +kernel
theorem dX4_axiom_156 : decode cX4_axiom 156 = .ok (.isub, 1) := by decide +kernel
theorem dX4_axiom_157 : decode cX4_axiom 157 = .ok (.ireturn, 1) := by decide +kernel
theorem dX4_drop_0 : decode cX4_drop 0 = .ok (.aload_n 0, 1) := by decide +kernel
theorem dX4_drop_1 : decode cX4_drop 1 = .ok (.iconst 0, 1) := by decide +kernel
theorem dX4_drop_2 : decode cX4_drop 2 = .ok (.putfield 1, 3) := by decide +kernel
theorem dX4_drop_5 : decode cX4_drop 5 = .ok (.iload_n 1, 1) := by decide +kernel
theorem dX4_drop_6 : decode cX4_drop 6 = .ok (.ifCond .lt 11, 3) := by decide +kernel
theorem dX4_drop_9 : decode cX4_drop 9 = .ok (.iload_n 1, 1) := by decide +kernel
theorem dX4_drop_10 : decode cX4_drop 10 = .ok (.aload_n 0, 1) := by decide +kernel
theorem dX4_drop_11 : decode cX4_drop 11 = .ok (.getfield 61, 3) := by decide +kernel
theorem dX4_drop_14 : decode cX4_drop 14 = .ok (.if_icmp .lt 5, 3) := by decide +kernel
theorem dX4_drop_17 : decode cX4_drop 17 = .ok (.iconst (-1), 1) := by decide +kernel
theorem dX4_drop_18 : decode cX4_drop 18 = .ok (.ireturn, 1) := by decide +kernel
theorem dX4_drop_19 : decode cX4_drop 19 = .ok (.aload_n 0, 1) := by decide +kernel
theorem dX4_drop_20 : decode cX4_drop 20 = .ok (.dup, 1) := by decide +kernel
theorem dX4_drop_21 : decode cX4_drop 21 = .ok (.getfield 61, 3) := by decide +kernel
theorem dX4_drop_24 : decode cX4_drop 24 = .ok (.iconst 1, 1) := by decide +kernel
theorem dX4_drop_25 : decode cX4_drop 25 = .ok (.isub, 1) := by decide +kernel
theorem dX4_drop_26 : decode cX4_drop 26 = .ok (.putfield 61, 3) := by decide +kernel
theorem dX4_drop_29 : decode cX4_drop 29 = .ok (.iconst 4, 1) := by decide +kernel
theorem dX4_drop_30 : decode cX4_drop 30 = .ok (.iload_n 1, 1) := by decide +kernel
theorem dX4_drop_31 : decode cX4_drop 31 = .ok (.imul, 1) := by decide +kernel
theorem dX4_drop_32 : decode cX4_drop 32 = .ok (.istore_n 2, 1) := by decide +kernel
theorem dX4_drop_33 : decode cX4_drop 33 = .ok (.iload_n 2, 1) := by decide +kernel
theorem dX4_drop_34 : decode cX4_drop 34 = .ok (.iconst 4, 1) := by decide +kernel
theorem dX4_drop_35 : decode cX4_drop 35 = .ok (.aload_n 0, 1) := by decide +kernel
theorem dX4_drop_36 : decode cX4_drop 36 = .ok (.getfield 61, 3) := by decide +kernel
theorem dX4_drop_39 : decode cX4_drop 39 = .ok (.imul, 1) := by decide +kernel
theorem dX4_drop_40 : decode cX4_drop 40 = .ok (.if_icmp .ge 23, 3) := by decide +kernel
theorem dX4_drop_43 : decode cX4_drop 43 = .ok (.aload_n 0, 1) := by decide +kernel
theorem dX4_drop_44 : decode cX4_drop 44 = .ok (.getfield 16, 3) := by decide +kernel
theorem dX4_drop_47 : decode cX4_drop 47 = .ok (.iload_n 2, 1) := by decide +kernel
theorem dX4_drop_48 : decode cX4_drop 48 = .ok (.aload_n 0, 1) := by decide +kernel
theorem dX4_drop_49 : decode cX4_drop 49 = .ok (.getfield 16, 3) := by decide +kernel
theorem dX4_drop_52 : decode cX4_drop 52 = .ok (.iload_n 2, 1) := by decide +kernel
theorem dX4_drop_53 : decode cX4_drop 53 = .ok (.iconst 4, 1) := by decide +kernel
theorem dX4_drop_54 : decode cX4_drop 54 = .ok (.iadd, 1) := by decide +kernel
theorem dX4_drop_55 : decode cX4_drop 55 = .ok (.iaload, 1) := by decide +kernel
theorem dX4_drop_56 : decode cX4_drop 56 = .ok (.iastore, 1) := by decide +kernel
theorem dX4_drop_57 : decode cX4_drop 57 = .ok (.iinc 2 1, 3) := by decide +kernel
theorem dX4_drop_60 : decode cX4_drop 60 = .ok (.goto (-27), 3) := by decide +kernel
theorem dX4_drop_63 : decode cX4_drop 63 = .ok (.aload_n 0, 1) := by decide +kernel
theorem dX4_drop_64 : decode cX4_drop 64 = .ok (.iconst 0, 1) := by decide +kernel
theorem dX4_drop_65 : decode cX4_drop 65 = .ok (.putfield 42, 3) := by decide +kernel
theorem dX4_drop_68 : decode cX4_drop 68 = .ok (.aload_n 0, 1) := by decide +kernel
theorem dX4_drop_69 : decode cX4_drop 69 = .ok (.getfield 61, 3) := by decide +kernel
theorem dX4_drop_72 : decode cX4_drop 72 = .ok (.ireturn, 1) := by decide +kernel
theorem dX4_code_0 : decode cX4_code 0 = .ok (.bipush 24, 2) := by decide +kernel
theorem dX4_code_2 : decode cX4_code 2 = .ok (.iload_n 0, 1) := by decide +kernel
theorem dX4_code_3 : decode cX4_code 3 = .ok (.imul, 1) := by decide +kernel
theorem dX4_code_4 : decode cX4_code 4 = .ok (.iload_n 1, 1) := by decide +kernel
theorem dX4_code_5 : decode cX4_code 5 = .ok (.iadd, 1) := by decide +kernel
theorem dX4_code_6 : decode cX4_code 6 = .ok (.ireturn, 1) := by decide +kernel
theorem dX4_linked_0 : decode cX4_linked 0 = .ok (.sipush 576, 3) := by decide +kernel
theorem dX4_linked_3 : decode cX4_linked 3 = .ok (.bipush 24, 2) := by decide +kernel
theorem dX4_linked_5 : decode cX4_linked 5 = .ok (.bipush 6, 2) := by decide +kernel
theorem dX4_linked_7 : decode cX4_linked 7 = .ok (.iload_n 0, 1) := by decide +kernel
theorem dX4_linked_8 : decode cX4_linked 8 = .ok (.imul, 1) := by decide +kernel
theorem dX4_linked_9 : decode cX4_linked 9 = .ok (.iload_n 1, 1) := by decide +kernel
theorem dX4_linked_10 : decode cX4_linked 10 = .ok (.iadd, 1) := by decide +kernel
theorem dX4_linked_11 : decode cX4_linked 11 = .ok (.imul, 1) := by decide +kernel
theorem dX4_linked_12 : decode cX4_linked 12 = .ok (.iadd, 1) := by decide +kernel
theorem dX4_linked_13 : decode cX4_linked 13 = .ok (.iload_n 2, 1) := by decide +kernel
theorem dX4_linked_14 : decode cX4_linked 14 = .ok (.iadd, 1) := by decide +kernel
theorem dX4_linked_15 : decode cX4_linked 15 = .ok (.ireturn, 1) := by decide +kernel
theorem dX4_has_0 : decode cX4_has 0 = .ok (.aload_n 0, 1) := by decide +kernel
theorem dX4_has_1 : decode cX4_has 1 = .ok (.getfield 20, 3) := by decide +kernel
theorem dX4_has_4 : decode cX4_has 4 = .ok (.iload_n 1, 1) := by decide +kernel
theorem dX4_has_5 : decode cX4_has 5 = .ok (.iaload, 1) := by decide +kernel
theorem dX4_has_6 : decode cX4_has 6 = .ok (.ifCond .lt 20, 3) := by decide +kernel
theorem dX4_has_9 : decode cX4_has 9 = .ok (.aload_n 0, 1) := by decide +kernel
theorem dX4_has_10 : decode cX4_has 10 = .ok (.getfield 20, 3) := by decide +kernel
theorem dX4_has_13 : decode cX4_has 13 = .ok (.iload_n 1, 1) := by decide +kernel
theorem dX4_has_14 : decode cX4_has 14 = .ok (.iaload, 1) := by decide +kernel
theorem dX4_has_15 : decode cX4_has 15 = .ok (.aload_n 0, 1) := by decide +kernel
theorem dX4_has_16 : decode cX4_has 16 = .ok (.getfield 64, 3) := by decide +kernel
theorem dX4_has_19 : decode cX4_has 19 = .ok (.if_icmp .ge 7, 3) := by decide +kernel
theorem dX4_has_22 : decode cX4_has 22 = .ok (.iconst 1, 1) := by decide +kernel
theorem dX4_has_23 : decode cX4_has 23 = .ok (.goto 4, 3) := by decide +kernel
theorem dX4_has_26 : decode cX4_has 26 = .ok (.iconst 0, 1) := by decide +kernel
theorem dX4_has_27 : decode cX4_has 27 = .ok (.ireturn, 1) := by decide +kernel
theorem dX4_start_0 : decode cX4_start 0 = .ok (.aload_n 0, 1) := by decide +kernel
theorem dX4_start_1 : decode cX4_start 1 = .ok (.getfield 20, 3) := by decide +kernel
theorem dX4_start_4 : decode cX4_start 4 = .ok (.iload_n 1, 1) := by decide +kernel
theorem dX4_start_5 : decode cX4_start 5 = .ok (.iaload, 1) := by decide +kernel
theorem dX4_start_6 : decode cX4_start 6 = .ok (.ifCond .ne 4, 3) := by decide +kernel
theorem dX4_start_9 : decode cX4_start 9 = .ok (.return_, 1) := by decide +kernel
theorem dX4_start_10 : decode cX4_start 10 = .ok (.aload_n 0, 1) := by decide +kernel
theorem dX4_start_11 : decode cX4_start 11 = .ok (.getfield 20, 3) := by decide +kernel
theorem dX4_start_14 : decode cX4_start 14 = .ok (.iload_n 1, 1) := by decide +kernel
theorem dX4_start_15 : decode cX4_start 15 = .ok (.iconst 0, 1) := by decide +kernel
theorem dX4_start_16 : decode cX4_start 16 = .ok (.iastore, 1) := by decide +kernel
theorem dX4_start_17 : decode cX4_start 17 = .ok (.aload_n 0, 1) := by decide +kernel
theorem dX4_start_18 : decode cX4_start 18 = .ok (.getfield 23, 3) := by decide +kernel
theorem dX4_start_21 : decode cX4_start 21 = .ok (.iload_n 1, 1) := by decide +kernel
theorem dX4_start_22 : decode cX4_start 22 = .ok (.iconst (-1), 1) := by decide +kernel
theorem dX4_start_23 : decode cX4_start 23 = .ok (.iastore, 1) := by decide +kernel
theorem dX4_start_24 : decode cX4_start 24 = .ok (.aload_n 0, 1) := by decide +kernel
theorem dX4_start_25 : decode cX4_start 25 = .ok (.getfield 26, 3) := by decide +kernel
theorem dX4_start_28 : decode cX4_start 28 = .ok (.iload_n 1, 1) := by decide +kernel
theorem dX4_start_29 : decode cX4_start 29 = .ok (.iconst (-1), 1) := by decide +kernel
theorem dX4_start_30 : decode cX4_start 30 = .ok (.iastore, 1) := by decide +kernel
theorem dX4_start_31 : decode cX4_start 31 = .ok (.aload_n 0, 1) := by decide +kernel
theorem dX4_start_32 : decode cX4_start 32 = .ok (.getfield 29, 3) := by decide +kernel
theorem dX4_start_35 : decode cX4_start 35 = .ok (.iload_n 1, 1) := by decide +kernel
theorem dX4_start_36 : decode cX4_start 36 = .ok (.iconst (-1), 1) := by decide +kernel
theorem dX4_start_37 : decode cX4_start 37 = .ok (.iastore, 1) := by decide +kernel
theorem dX4_start_38 : decode cX4_start 38 = .ok (.return_, 1) := by decide +kernel
set_option maxRecDepth 20000 in
theorem ggX4_give_X4_has : GoodIn wsX4_give wsX4_has := goodIn_r _ [11, 1, 6, 12, 13, 14, 15, 16, 17, 18, 19, 20, 21, 22, 23, 24, 25, 26, 27] (by decide +kernel) (by decide +kernel)
set_option maxRecDepth 20000 in
theorem gX4_give_X4_has : GoodIn wsX4_give (wsV RX4 67 RX4 yX4_has wsX4_has) := goodIn_app (goodIn_of _ (by decide +kernel)) ggX4_give_X4_has
theorem dX4_give_0 : decode cX4_give 0 = .ok (.aload_n 0, 1) := by decide +kernel
theorem dX4_give_1 : decode cX4_give 1 = .ok (.iload_n 3, 1) := by decide +kernel
theorem dX4_give_2 : decode cX4_give 2 = .ok (.invokevirtual 67, 3) := by decide +kernel
theorem dX4_give_5 : decode cX4_give 5 = .ok (.ifCond .eq 25, 3) := by decide +kernel
theorem dX4_give_8 : decode cX4_give 8 = .ok (.iload 4, 2) := by decide +kernel
theorem dX4_give_10 : decode cX4_give 10 = .ok (.ifCond .lt 12, 3) := by decide +kernel
theorem dX4_give_13 : decode cX4_give 13 = .ok (.aload_n 0, 1) := by decide +kernel
theorem dX4_give_14 : decode cX4_give 14 = .ok (.iload 4, 2) := by decide +kernel
theorem dX4_give_16 : decode cX4_give 16 = .ok (.invokevirtual 67, 3) := by decide +kernel
theorem dX4_give_19 : decode cX4_give 19 = .ok (.ifCond .eq 11, 3) := by decide +kernel
theorem dX4_give_22 : decode cX4_give 22 = .ok (.aload_n 0, 1) := by decide +kernel
theorem dX4_give_23 : decode cX4_give 23 = .ok (.iload_n 1, 1) := by decide +kernel
theorem dX4_give_24 : decode cX4_give 24 = .ok (.invokevirtual 67, 3) := by decide +kernel
theorem dX4_give_27 : decode cX4_give 27 = .ok (.ifCond .eq 4, 3) := by decide +kernel
theorem dX4_give_30 : decode cX4_give 30 = .ok (.return_, 1) := by decide +kernel
theorem dX4_give_31 : decode cX4_give 31 = .ok (.aload_n 0, 1) := by decide +kernel
theorem dX4_give_32 : decode cX4_give 32 = .ok (.getfield 20, 3) := by decide +kernel
theorem dX4_give_35 : decode cX4_give 35 = .ok (.iload_n 1, 1) := by decide +kernel
theorem dX4_give_36 : decode cX4_give 36 = .ok (.iaload, 1) := by decide +kernel
theorem dX4_give_37 : decode cX4_give 37 = .ok (.ifCond .ge 7, 3) := by decide +kernel
theorem dX4_give_40 : decode cX4_give 40 = .ok (.iconst 1, 1) := by decide +kernel
theorem dX4_give_41 : decode cX4_give 41 = .ok (.goto 4, 3) := by decide +kernel
theorem dX4_give_44 : decode cX4_give 44 = .ok (.iconst 0, 1) := by decide +kernel
theorem dX4_give_45 : decode cX4_give 45 = .ok (.istore 5, 2) := by decide +kernel
theorem dX4_give_47 : decode cX4_give 47 = .ok (.iload 5, 2) := by decide +kernel
theorem dX4_give_49 : decode cX4_give 49 = .ok (.ifCond .ne 54, 3) := by decide +kernel
theorem dX4_give_52 : decode cX4_give 52 = .ok (.iload_n 2, 1) := by decide +kernel
theorem dX4_give_53 : decode cX4_give 53 = .ok (.aload_n 0, 1) := by decide +kernel
theorem dX4_give_54 : decode cX4_give 54 = .ok (.getfield 23, 3) := by decide +kernel
theorem dX4_give_57 : decode cX4_give 57 = .ok (.iload_n 1, 1) := by decide +kernel
theorem dX4_give_58 : decode cX4_give 58 = .ok (.iaload, 1) := by decide +kernel
theorem dX4_give_59 : decode cX4_give 59 = .ok (.if_icmp .lt 44, 3) := by decide +kernel
theorem dX4_give_62 : decode cX4_give 62 = .ok (.iload_n 2, 1) := by decide +kernel
theorem dX4_give_63 : decode cX4_give 63 = .ok (.aload_n 0, 1) := by decide +kernel
theorem dX4_give_64 : decode cX4_give 64 = .ok (.getfield 23, 3) := by decide +kernel
theorem dX4_give_67 : decode cX4_give 67 = .ok (.iload_n 1, 1) := by decide +kernel
theorem dX4_give_68 : decode cX4_give 68 = .ok (.iaload, 1) := by decide +kernel
theorem dX4_give_69 : decode cX4_give 69 = .ok (.if_icmp .ne 38, 3) := by decide +kernel
theorem dX4_give_72 : decode cX4_give 72 = .ok (.iload_n 3, 1) := by decide +kernel
theorem dX4_give_73 : decode cX4_give 73 = .ok (.aload_n 0, 1) := by decide +kernel
theorem dX4_give_74 : decode cX4_give 74 = .ok (.getfield 26, 3) := by decide +kernel
theorem dX4_give_77 : decode cX4_give 77 = .ok (.iload_n 1, 1) := by decide +kernel
theorem dX4_give_78 : decode cX4_give 78 = .ok (.iaload, 1) := by decide +kernel
theorem dX4_give_79 : decode cX4_give 79 = .ok (.if_icmp .lt 24, 3) := by decide +kernel
theorem dX4_give_82 : decode cX4_give 82 = .ok (.iload_n 3, 1) := by decide +kernel
theorem dX4_give_83 : decode cX4_give 83 = .ok (.aload_n 0, 1) := by decide +kernel
theorem dX4_give_84 : decode cX4_give 84 = .ok (.getfield 26, 3) := by decide +kernel
theorem dX4_give_87 : decode cX4_give 87 = .ok (.iload_n 1, 1) := by decide +kernel
theorem dX4_give_88 : decode cX4_give 88 = .ok (.iaload, 1) := by decide +kernel
theorem dX4_give_89 : decode cX4_give 89 = .ok (.if_icmp .ne 18, 3) := by decide +kernel
theorem dX4_give_92 : decode cX4_give 92 = .ok (.iload 4, 2) := by decide +kernel
theorem dX4_give_94 : decode cX4_give 94 = .ok (.aload_n 0, 1) := by decide +kernel
theorem dX4_give_95 : decode cX4_give 95 = .ok (.getfield 29, 3) := by decide +kernel
theorem dX4_give_98 : decode cX4_give 98 = .ok (.iload_n 1, 1) := by decide +kernel
theorem dX4_give_99 : decode cX4_give 99 = .ok (.iaload, 1) := by decide +kernel
theorem dX4_give_100 : decode cX4_give 100 = .ok (.if_icmp .ge 7, 3) := by decide +kernel
theorem dX4_give_103 : decode cX4_give 103 = .ok (.iconst 1, 1) := by decide +kernel
theorem dX4_give_104 : decode cX4_give 104 = .ok (.goto 4, 3) := by decide +kernel
theorem dX4_give_107 : decode cX4_give 107 = .ok (.iconst 0, 1) := by decide +kernel
theorem dX4_give_108 : decode cX4_give 108 = .ok (.istore 6, 2) := by decide +kernel
theorem dX4_give_110 : decode cX4_give 110 = .ok (.iload 5, 2) := by decide +kernel
theorem dX4_give_112 : decode cX4_give 112 = .ok (.ifCond .eq 13, 3) := by decide +kernel
theorem dX4_give_115 : decode cX4_give 115 = .ok (.aload_n 0, 1) := by decide +kernel
theorem dX4_give_116 : decode cX4_give 116 = .ok (.dup, 1) := by decide +kernel
theorem dX4_give_117 : decode cX4_give 117 = .ok (.getfield 70, 3) := by decide +kernel
theorem dX4_give_120 : decode cX4_give 120 = .ok (.iconst 1, 1) := by decide +kernel
theorem dX4_give_121 : decode cX4_give 121 = .ok (.iadd, 1) := by decide +kernel
theorem dX4_give_122 : decode cX4_give 122 = .ok (.putfield 70, 3) := by decide +kernel
theorem dX4_give_125 : decode cX4_give 125 = .ok (.iload 6, 2) := by decide +kernel
theorem dX4_give_127 : decode cX4_give 127 = .ok (.ifCond .ne 4, 3) := by decide +kernel
theorem dX4_give_130 : decode cX4_give 130 = .ok (.return_, 1) := by decide +kernel
theorem dX4_give_131 : decode cX4_give 131 = .ok (.aload_n 0, 1) := by decide +kernel
theorem dX4_give_132 : decode cX4_give 132 = .ok (.getfield 20, 3) := by decide +kernel
theorem dX4_give_135 : decode cX4_give 135 = .ok (.iload_n 1, 1) := by decide +kernel
theorem dX4_give_136 : decode cX4_give 136 = .ok (.aload_n 0, 1) := by decide +kernel
theorem dX4_give_137 : decode cX4_give 137 = .ok (.getfield 64, 3) := by decide +kernel
theorem dX4_give_140 : decode cX4_give 140 = .ok (.iastore, 1) := by decide +kernel
theorem dX4_give_141 : decode cX4_give 141 = .ok (.aload_n 0, 1) := by decide +kernel
theorem dX4_give_142 : decode cX4_give 142 = .ok (.getfield 23, 3) := by decide +kernel
theorem dX4_give_145 : decode cX4_give 145 = .ok (.iload_n 1, 1) := by decide +kernel
theorem dX4_give_146 : decode cX4_give 146 = .ok (.iload_n 2, 1) := by decide +kernel
theorem dX4_give_147 : decode cX4_give 147 = .ok (.iastore, 1) := by decide +kernel
theorem dX4_give_148 : decode cX4_give 148 = .ok (.aload_n 0, 1) := by decide +kernel
theorem dX4_give_149 : decode cX4_give 149 = .ok (.getfield 26, 3) := by decide +kernel
theorem dX4_give_152 : decode cX4_give 152 = .ok (.iload_n 1, 1) := by decide +kernel
theorem dX4_give_153 : decode cX4_give 153 = .ok (.iload_n 3, 1) := by decide +kernel
theorem dX4_give_154 : decode cX4_give 154 = .ok (.iastore, 1) := by decide +kernel
theorem dX4_give_155 : decode cX4_give 155 = .ok (.aload_n 0, 1) := by decide +kernel
theorem dX4_give_156 : decode cX4_give 156 = .ok (.getfield 29, 3) := by decide +kernel
theorem dX4_give_159 : decode cX4_give 159 = .ok (.iload_n 1, 1) := by decide +kernel
theorem dX4_give_160 : decode cX4_give 160 = .ok (.iload 4, 2) := by decide +kernel
theorem dX4_give_162 : decode cX4_give 162 = .ok (.iastore, 1) := by decide +kernel
theorem dX4_give_163 : decode cX4_give 163 = .ok (.return_, 1) := by decide +kernel
set_option maxRecDepth 20000 in
theorem ggX4_one_X4_code : GoodIn wsX4_one wsX4_code := goodIn_r _ [6] (by decide +kernel) (by decide +kernel)
set_option maxRecDepth 20000 in
theorem gX4_one_X4_code : GoodIn wsX4_one (va_wsS RX4 73 yX4_code wsX4_code) := goodIn_app (goodIn_of _ (by decide +kernel)) ggX4_one_X4_code
set_option maxRecDepth 20000 in
theorem ggX4_one_X4_give : GoodIn wsX4_one wsX4_give := goodIn_r _ [10, 11, 12, 13, 14, 15, 16, 17, 18, 19, 5, 20, 28, 29, 30, 31, 32, 33, 34, 35, 36, 37, 38, 39, 40, 41, 42, 43] (by decide +kernel) (by decide +kernel)
set_option maxRecDepth 20000 in
theorem gX4_one_X4_give : GoodIn wsX4_one (wsV RX4 77 RX4 yX4_give wsX4_give) := goodIn_app (goodIn_of _ (by decide +kernel)) ggX4_one_X4_give
set_option maxRecDepth 20000 in
theorem ggX4_one_X4_linked : GoodIn wsX4_one wsX4_linked := goodIn_r _ [23] (by decide +kernel) (by decide +kernel)
set_option maxRecDepth 20000 in
theorem gX4_one_X4_linked : GoodIn wsX4_one (va_wsS RX4 81 yX4_linked wsX4_linked) := goodIn_app (goodIn_of _ (by decide +kernel)) ggX4_one_X4_linked
set_option maxRecDepth 20000 in
theorem ggX4_one_X4_two : GoodIn wsX4_one wsX4_two := goodIn_r _ [27, 1, 2, 21, 22, 5, 23, 3, 4, 6, 7, 8, 9, 10, 11, 12, 13, 14, 15, 16, 17, 18, 19, 20, 28, 29, 30, 31, 32, 33, 34, 35, 36, 37, 38, 39, 40, 41, 42, 43] (by decide +kernel) (by decide +kernel)
set_option maxRecDepth 20000 in
theorem gX4_one_X4_two : GoodIn wsX4_one (wsV RX4 85 RX4 yX4_two wsX4_two) := goodIn_app (goodIn_of _ (by decide +kernel)) ggX4_one_X4_two
theorem dX4_one_0 : decode cX4_one 0 = .ok (.aload_n 0, 1) := by decide +kernel
theorem dX4_one_1 : decode cX4_one 1 = .ok (.getfield 16, 3) := by decide +kernel
theorem dX4_one_4 : decode cX4_one 4 = .ok (.iconst 4, 1) := by decide +kernel
theorem dX4_one_5 : decode cX4_one 5 = .ok (.iload_n 1, 1) := by decide +kernel
theorem dX4_one_6 : decode cX4_one 6 = .ok (.imul, 1) := by decide +kernel
theorem dX4_one_7 : decode cX4_one 7 = .ok (.iconst 1, 1) := by decide +kernel
theorem dX4_one_8 : decode cX4_one 8 = .ok (.iadd, 1) := by decide +kernel
theorem dX4_one_9 : decode cX4_one 9 = .ok (.iaload, 1) := by decide +kernel
theorem dX4_one_10 : decode cX4_one 10 = .ok (.istore_n 3, 1) := by decide +kernel
theorem dX4_one_11 : decode cX4_one 11 = .ok (.aload_n 0, 1) := by decide +kernel
theorem dX4_one_12 : decode cX4_one 12 = .ok (.getfield 16, 3) := by decide +kernel
theorem dX4_one_15 : decode cX4_one 15 = .ok (.iconst 4, 1) := by decide +kernel
theorem dX4_one_16 : decode cX4_one 16 = .ok (.iload_n 1, 1) := by decide +kernel
theorem dX4_one_17 : decode cX4_one 17 = .ok (.imul, 1) := by decide +kernel
theorem dX4_one_18 : decode cX4_one 18 = .ok (.iconst 2, 1) := by decide +kernel
theorem dX4_one_19 : decode cX4_one 19 = .ok (.iadd, 1) := by decide +kernel
theorem dX4_one_20 : decode cX4_one 20 = .ok (.iaload, 1) := by decide +kernel
theorem dX4_one_21 : decode cX4_one 21 = .ok (.istore 4, 2) := by decide +kernel
theorem dX4_one_23 : decode cX4_one 23 = .ok (.aload_n 0, 1) := by decide +kernel
theorem dX4_one_24 : decode cX4_one 24 = .ok (.getfield 16, 3) := by decide +kernel
theorem dX4_one_27 : decode cX4_one 27 = .ok (.iconst 4, 1) := by decide +kernel
theorem dX4_one_28 : decode cX4_one 28 = .ok (.iload_n 1, 1) := by decide +kernel
theorem dX4_one_29 : decode cX4_one 29 = .ok (.imul, 1) := by decide +kernel
theorem dX4_one_30 : decode cX4_one 30 = .ok (.iconst 3, 1) := by decide +kernel
theorem dX4_one_31 : decode cX4_one 31 = .ok (.iadd, 1) := by decide +kernel
theorem dX4_one_32 : decode cX4_one 32 = .ok (.iaload, 1) := by decide +kernel
theorem dX4_one_33 : decode cX4_one 33 = .ok (.istore 5, 2) := by decide +kernel
theorem dX4_one_35 : decode cX4_one 35 = .ok (.aload_n 0, 1) := by decide +kernel
theorem dX4_one_36 : decode cX4_one 36 = .ok (.getfield 16, 3) := by decide +kernel
theorem dX4_one_39 : decode cX4_one 39 = .ok (.iconst 4, 1) := by decide +kernel
theorem dX4_one_40 : decode cX4_one 40 = .ok (.iload_n 1, 1) := by decide +kernel
theorem dX4_one_41 : decode cX4_one 41 = .ok (.imul, 1) := by decide +kernel
theorem dX4_one_42 : decode cX4_one 42 = .ok (.iaload, 1) := by decide +kernel
theorem dX4_one_43 : decode cX4_one 43 = .ok (.tableswitch 111 1 7 #[41, 61, 86, 111, 111, 111, 108], 41) := by decide +kernel
theorem dX4_one_84 : decode cX4_one 84 = .ok (.aload_n 0, 1) := by decide +kernel
theorem dX4_one_85 : decode cX4_one 85 = .ok (.iload_n 2, 1) := by decide +kernel
theorem dX4_one_86 : decode cX4_one 86 = .ok (.iload 4, 2) := by decide +kernel
theorem dX4_one_88 : decode cX4_one 88 = .ok (.invokestatic 73, 3) := by decide +kernel
theorem dX4_one_91 : decode cX4_one 91 = .ok (.iload_n 1, 1) := by decide +kernel
theorem dX4_one_92 : decode cX4_one 92 = .ok (.iload_n 2, 1) := by decide +kernel
theorem dX4_one_93 : decode cX4_one 93 = .ok (.iload_n 3, 1) := by decide +kernel
theorem dX4_one_94 : decode cX4_one 94 = .ok (.invokestatic 73, 3) := by decide +kernel
theorem dX4_one_97 : decode cX4_one 97 = .ok (.iconst (-1), 1) := by decide +kernel
theorem dX4_one_98 : decode cX4_one 98 = .ok (.invokevirtual 77, 3) := by decide +kernel
theorem dX4_one_101 : decode cX4_one 101 = .ok (.goto 79, 3) := by decide +kernel
theorem dX4_one_104 : decode cX4_one 104 = .ok (.aload_n 0, 1) := by decide +kernel
theorem dX4_one_105 : decode cX4_one 105 = .ok (.iload_n 2, 1) := by decide +kernel
theorem dX4_one_106 : decode cX4_one 106 = .ok (.iload 5, 2) := by decide +kernel
theorem dX4_one_108 : decode cX4_one 108 = .ok (.invokestatic 73, 3) := by decide +kernel
theorem dX4_one_111 : decode cX4_one 111 = .ok (.iload_n 1, 1) := by decide +kernel
theorem dX4_one_112 : decode cX4_one 112 = .ok (.iload_n 2, 1) := by decide +kernel
theorem dX4_one_113 : decode cX4_one 113 = .ok (.iload_n 3, 1) := by decide +kernel
theorem dX4_one_114 : decode cX4_one 114 = .ok (.invokestatic 73, 3) := by decide +kernel
theorem dX4_one_117 : decode cX4_one 117 = .ok (.iload_n 2, 1) := by decide +kernel
theorem dX4_one_118 : decode cX4_one 118 = .ok (.iload 4, 2) := by decide +kernel
theorem dX4_one_120 : decode cX4_one 120 = .ok (.invokestatic 73, 3) := by decide +kernel
theorem dX4_one_123 : decode cX4_one 123 = .ok (.invokevirtual 77, 3) := by decide +kernel
theorem dX4_one_126 : decode cX4_one 126 = .ok (.goto 54, 3) := by decide +kernel
theorem dX4_one_129 : decode cX4_one 129 = .ok (.aload_n 0, 1) := by decide +kernel
theorem dX4_one_130 : decode cX4_one 130 = .ok (.iload_n 2, 1) := by decide +kernel
theorem dX4_one_131 : decode cX4_one 131 = .ok (.iload 4, 2) := by decide +kernel
theorem dX4_one_133 : decode cX4_one 133 = .ok (.iload 5, 2) := by decide +kernel
theorem dX4_one_135 : decode cX4_one 135 = .ok (.invokestatic 81, 3) := by decide +kernel
theorem dX4_one_138 : decode cX4_one 138 = .ok (.iload_n 1, 1) := by decide +kernel
theorem dX4_one_139 : decode cX4_one 139 = .ok (.iload_n 2, 1) := by decide +kernel
theorem dX4_one_140 : decode cX4_one 140 = .ok (.iload_n 3, 1) := by decide +kernel
theorem dX4_one_141 : decode cX4_one 141 = .ok (.invokestatic 73, 3) := by decide +kernel
theorem dX4_one_144 : decode cX4_one 144 = .ok (.iconst (-1), 1) := by decide +kernel
theorem dX4_one_145 : decode cX4_one 145 = .ok (.invokevirtual 77, 3) := by decide +kernel
theorem dX4_one_148 : decode cX4_one 148 = .ok (.goto 32, 3) := by decide +kernel
theorem dX4_one_151 : decode cX4_one 151 = .ok (.goto 29, 3) := by decide +kernel
theorem dX4_one_154 : decode cX4_one 154 = .ok (.iconst 0, 1) := by decide +kernel
theorem dX4_one_155 : decode cX4_one 155 = .ok (.istore 6, 2) := by decide +kernel
theorem dX4_one_157 : decode cX4_one 157 = .ok (.iload 6, 2) := by decide +kernel
theorem dX4_one_159 : decode cX4_one 159 = .ok (.aload_n 0, 1) := by decide +kernel
theorem dX4_one_160 : decode cX4_one 160 = .ok (.getfield 13, 3) := by decide +kernel
theorem dX4_one_163 : decode cX4_one 163 = .ok (.if_icmp .ge 17, 3) := by decide +kernel
theorem dX4_one_166 : decode cX4_one 166 = .ok (.aload_n 0, 1) := by decide +kernel
theorem dX4_one_167 : decode cX4_one 167 = .ok (.iload_n 1, 1) := by decide +kernel
theorem dX4_one_168 : decode cX4_one 168 = .ok (.iload_n 2, 1) := by decide +kernel
theorem dX4_one_169 : decode cX4_one 169 = .ok (.iload 6, 2) := by decide +kernel
theorem dX4_one_171 : decode cX4_one 171 = .ok (.invokevirtual 85, 3) := by decide +kernel
theorem dX4_one_174 : decode cX4_one 174 = .ok (.iinc 6 1, 3) := by decide +kernel
theorem dX4_one_177 : decode cX4_one 177 = .ok (.goto (-20), 3) := by decide +kernel
theorem dX4_one_180 : decode cX4_one 180 = .ok (.return_, 1) := by decide +kernel
set_option maxRecDepth 20000 in
theorem ggX4_two_X4_linked : GoodIn wsX4_two wsX4_linked := goodIn_r _ [6] (by decide +kernel) (by decide +kernel)
set_option maxRecDepth 20000 in
theorem gX4_two_X4_linked : GoodIn wsX4_two (va_wsS RX4 81 yX4_linked wsX4_linked) := goodIn_app (goodIn_of _ (by decide +kernel)) ggX4_two_X4_linked
set_option maxRecDepth 20000 in
theorem ggX4_two_X4_code : GoodIn wsX4_two wsX4_code := goodIn_r _ [9] (by decide +kernel) (by decide +kernel)
set_option maxRecDepth 20000 in
theorem gX4_two_X4_code : GoodIn wsX4_two (va_wsS RX4 73 yX4_code wsX4_code) := goodIn_app (goodIn_of _ (by decide +kernel)) ggX4_two_X4_code
set_option maxRecDepth 20000 in
theorem ggX4_two_X4_give : GoodIn wsX4_two wsX4_give := goodIn_r _ [13, 14, 15, 16, 17, 18, 19, 20, 21, 22, 5, 23, 24, 25, 26, 27, 28, 29, 30, 31, 32, 33, 34, 35, 36, 37, 38, 39] (by decide +kernel) (by decide +kernel)
set_option maxRecDepth 20000 in
theorem gX4_two_X4_give : GoodIn wsX4_two (wsV RX4 77 RX4 yX4_give wsX4_give) := goodIn_app (goodIn_of _ (by decide +kernel)) ggX4_two_X4_give
theorem dX4_two_0 : decode cX4_two 0 = .ok (.aload_n 0, 1) := by decide +kernel
theorem dX4_two_1 : decode cX4_two 1 = .ok (.getfield 16, 3) := by decide +kernel
theorem dX4_two_4 : decode cX4_two 4 = .ok (.iconst 4, 1) := by decide +kernel
theorem dX4_two_5 : decode cX4_two 5 = .ok (.iload_n 1, 1) := by decide +kernel
theorem dX4_two_6 : decode cX4_two 6 = .ok (.imul, 1) := by decide +kernel
theorem dX4_two_7 : decode cX4_two 7 = .ok (.iconst 1, 1) := by decide +kernel
theorem dX4_two_8 : decode cX4_two 8 = .ok (.iadd, 1) := by decide +kernel
theorem dX4_two_9 : decode cX4_two 9 = .ok (.iaload, 1) := by decide +kernel
theorem dX4_two_10 : decode cX4_two 10 = .ok (.istore 4, 2) := by decide +kernel
theorem dX4_two_12 : decode cX4_two 12 = .ok (.aload_n 0, 1) := by decide +kernel
theorem dX4_two_13 : decode cX4_two 13 = .ok (.getfield 16, 3) := by decide +kernel
theorem dX4_two_16 : decode cX4_two 16 = .ok (.iconst 4, 1) := by decide +kernel
theorem dX4_two_17 : decode cX4_two 17 = .ok (.iload_n 1, 1) := by decide +kernel
theorem dX4_two_18 : decode cX4_two 18 = .ok (.imul, 1) := by decide +kernel
theorem dX4_two_19 : decode cX4_two 19 = .ok (.iconst 2, 1) := by decide +kernel
theorem dX4_two_20 : decode cX4_two 20 = .ok (.iadd, 1) := by decide +kernel
theorem dX4_two_21 : decode cX4_two 21 = .ok (.iaload, 1) := by decide +kernel
theorem dX4_two_22 : decode cX4_two 22 = .ok (.istore 5, 2) := by decide +kernel
theorem dX4_two_24 : decode cX4_two 24 = .ok (.aload_n 0, 1) := by decide +kernel
theorem dX4_two_25 : decode cX4_two 25 = .ok (.getfield 16, 3) := by decide +kernel
theorem dX4_two_28 : decode cX4_two 28 = .ok (.iconst 4, 1) := by decide +kernel
theorem dX4_two_29 : decode cX4_two 29 = .ok (.iload_n 1, 1) := by decide +kernel
theorem dX4_two_30 : decode cX4_two 30 = .ok (.imul, 1) := by decide +kernel
theorem dX4_two_31 : decode cX4_two 31 = .ok (.iconst 3, 1) := by decide +kernel
theorem dX4_two_32 : decode cX4_two 32 = .ok (.iadd, 1) := by decide +kernel
theorem dX4_two_33 : decode cX4_two 33 = .ok (.iaload, 1) := by decide +kernel
theorem dX4_two_34 : decode cX4_two 34 = .ok (.istore 6, 2) := by decide +kernel
theorem dX4_two_36 : decode cX4_two 36 = .ok (.iload_n 2, 1) := by decide +kernel
theorem dX4_two_37 : decode cX4_two 37 = .ok (.iload 4, 2) := by decide +kernel
theorem dX4_two_39 : decode cX4_two 39 = .ok (.iload_n 3, 1) := by decide +kernel
theorem dX4_two_40 : decode cX4_two 40 = .ok (.invokestatic 81, 3) := by decide +kernel
theorem dX4_two_43 : decode cX4_two 43 = .ok (.istore 7, 2) := by decide +kernel
theorem dX4_two_45 : decode cX4_two 45 = .ok (.aload_n 0, 1) := by decide +kernel
theorem dX4_two_46 : decode cX4_two 46 = .ok (.getfield 16, 3) := by decide +kernel
theorem dX4_two_49 : decode cX4_two 49 = .ok (.iconst 4, 1) := by decide +kernel
theorem dX4_two_50 : decode cX4_two 50 = .ok (.iload_n 1, 1) := by decide +kernel
theorem dX4_two_51 : decode cX4_two 51 = .ok (.imul, 1) := by decide +kernel
theorem dX4_two_52 : decode cX4_two 52 = .ok (.iaload, 1) := by decide +kernel
theorem dX4_two_53 : decode cX4_two 53 = .ok (.lookupswitch 67 #[(4, 27), (5, 49)], 27) := by decide +kernel
theorem dX4_two_80 : decode cX4_two 80 = .ok (.aload_n 0, 1) := by decide +kernel
theorem dX4_two_81 : decode cX4_two 81 = .ok (.iload_n 2, 1) := by decide +kernel
theorem dX4_two_82 : decode cX4_two 82 = .ok (.iload 6, 2) := by decide +kernel
theorem dX4_two_84 : decode cX4_two 84 = .ok (.invokestatic 73, 3) := by decide +kernel
theorem dX4_two_87 : decode cX4_two 87 = .ok (.iload_n 1, 1) := by decide +kernel
theorem dX4_two_88 : decode cX4_two 88 = .ok (.iload 7, 2) := by decide +kernel
theorem dX4_two_90 : decode cX4_two 90 = .ok (.iload_n 3, 1) := by decide +kernel
theorem dX4_two_91 : decode cX4_two 91 = .ok (.iload 5, 2) := by decide +kernel
theorem dX4_two_93 : decode cX4_two 93 = .ok (.invokestatic 73, 3) := by decide +kernel
theorem dX4_two_96 : decode cX4_two 96 = .ok (.invokevirtual 77, 3) := by decide +kernel
theorem dX4_two_99 : decode cX4_two 99 = .ok (.goto 62, 3) := by decide +kernel
theorem dX4_two_102 : decode cX4_two 102 = .ok (.aload_n 0, 1) := by decide +kernel
theorem dX4_two_103 : decode cX4_two 103 = .ok (.iload_n 2, 1) := by decide +kernel
theorem dX4_two_104 : decode cX4_two 104 = .ok (.iload 5, 2) := by decide +kernel
theorem dX4_two_106 : decode cX4_two 106 = .ok (.iload_n 3, 1) := by decide +kernel
theorem dX4_two_107 : decode cX4_two 107 = .ok (.invokestatic 81, 3) := by decide +kernel
theorem dX4_two_110 : decode cX4_two 110 = .ok (.iload_n 1, 1) := by decide +kernel
theorem dX4_two_111 : decode cX4_two 111 = .ok (.iload 7, 2) := by decide +kernel
theorem dX4_two_113 : decode cX4_two 113 = .ok (.iconst (-1), 1) := by decide +kernel
theorem dX4_two_114 : decode cX4_two 114 = .ok (.invokevirtual 77, 3) := by decide +kernel
theorem dX4_two_117 : decode cX4_two 117 = .ok (.goto 44, 3) := by decide +kernel
theorem dX4_two_120 : decode cX4_two 120 = .ok (.iconst 0, 1) := by decide +kernel
theorem dX4_two_121 : decode cX4_two 121 = .ok (.istore 8, 2) := by decide +kernel
theorem dX4_two_123 : decode cX4_two 123 = .ok (.iload 8, 2) := by decide +kernel
theorem dX4_two_125 : decode cX4_two 125 = .ok (.aload_n 0, 1) := by decide +kernel
theorem dX4_two_126 : decode cX4_two 126 = .ok (.getfield 13, 3) := by decide +kernel
theorem dX4_two_129 : decode cX4_two 129 = .ok (.if_icmp .ge 32, 3) := by decide +kernel
theorem dX4_two_132 : decode cX4_two 132 = .ok (.aload_n 0, 1) := by decide +kernel
theorem dX4_two_133 : decode cX4_two 133 = .ok (.iload_n 2, 1) := by decide +kernel
theorem dX4_two_134 : decode cX4_two 134 = .ok (.iload 6, 2) := by decide +kernel
theorem dX4_two_136 : decode cX4_two 136 = .ok (.iload 8, 2) := by decide +kernel
theorem dX4_two_138 : decode cX4_two 138 = .ok (.invokestatic 81, 3) := by decide +kernel
theorem dX4_two_141 : decode cX4_two 141 = .ok (.iload_n 1, 1) := by decide +kernel
theorem dX4_two_142 : decode cX4_two 142 = .ok (.iload 7, 2) := by decide +kernel
theorem dX4_two_144 : decode cX4_two 144 = .ok (.iload_n 3, 1) := by decide +kernel
theorem dX4_two_145 : decode cX4_two 145 = .ok (.iload 5, 2) := by decide +kernel
theorem dX4_two_147 : decode cX4_two 147 = .ok (.iload 8, 2) := by decide +kernel
theorem dX4_two_149 : decode cX4_two 149 = .ok (.invokestatic 81, 3) := by decide +kernel
theorem dX4_two_152 : decode cX4_two 152 = .ok (.invokevirtual 77, 3) := by decide +kernel
theorem dX4_two_155 : decode cX4_two 155 = .ok (.iinc 8 1, 3) := by decide +kernel
theorem dX4_two_158 : decode cX4_two 158 = .ok (.goto (-35), 3) := by decide +kernel
theorem dX4_two_161 : decode cX4_two 161 = .ok (.return_, 1) := by decide +kernel
set_option maxRecDepth 20000 in
theorem ggX4_reckon_X4_code : GoodIn wsX4_reckon wsX4_code := goodIn_r _ [13] (by decide +kernel) (by decide +kernel)
set_option maxRecDepth 20000 in
theorem gX4_reckon_X4_code : GoodIn wsX4_reckon (va_wsS RX4 73 yX4_code wsX4_code) := goodIn_app (goodIn_of _ (by decide +kernel)) ggX4_reckon_X4_code
set_option maxRecDepth 20000 in
theorem ggX4_reckon_X4_start : GoodIn wsX4_reckon wsX4_start := goodIn_r _ [17, 2, 18, 19, 20, 40, 41, 42, 43, 44, 45, 46, 47, 48, 49, 50, 51, 52, 53, 54, 55] (by decide +kernel) (by decide +kernel)
set_option maxRecDepth 20000 in
theorem gX4_reckon_X4_start : GoodIn wsX4_reckon (wsV RX4 89 RX4 yX4_start wsX4_start) := goodIn_app (goodIn_of _ (by decide +kernel)) ggX4_reckon_X4_start
set_option maxRecDepth 20000 in
theorem ggX4_reckon_X4_linked : GoodIn wsX4_reckon wsX4_linked := goodIn_r _ [23] (by decide +kernel) (by decide +kernel)
set_option maxRecDepth 20000 in
theorem gX4_reckon_X4_linked : GoodIn wsX4_reckon (va_wsS RX4 81 yX4_linked wsX4_linked) := goodIn_app (goodIn_of _ (by decide +kernel)) ggX4_reckon_X4_linked
set_option maxRecDepth 20000 in
theorem ggX4_reckon_X4_one : GoodIn wsX4_reckon wsX4_one := goodIn_r _ [27, 5, 3, 10, 11, 12, 13, 28, 29, 30, 31, 2, 18, 19, 20, 7, 6, 32, 33, 34, 35, 21, 22, 23, 36, 37, 38, 39, 40, 41, 42, 43, 44, 45, 46, 47, 48, 49, 50, 51, 52, 53, 54, 55] (by decide +kernel) (by decide +kernel)
set_option maxRecDepth 20000 in
theorem gX4_reckon_X4_one : GoodIn wsX4_reckon (wsV RX4 93 RX4 yX4_one wsX4_one) := goodIn_app (goodIn_of _ (by decide +kernel)) ggX4_reckon_X4_one
set_option maxRecDepth 20000 in
theorem ggX4_reckon_X4_give : GoodIn wsX4_reckon wsX4_give := goodIn_r _ [31, 2, 18, 19, 20, 7, 6, 32, 33, 34, 12, 35, 40, 41, 42, 43, 44, 45, 46, 47, 48, 49, 50, 51, 52, 53, 54, 55] (by decide +kernel) (by decide +kernel)
set_option maxRecDepth 20000 in
theorem gX4_reckon_X4_give : GoodIn wsX4_reckon (wsV RX4 77 RX4 yX4_give wsX4_give) := goodIn_app (goodIn_of _ (by decide +kernel)) ggX4_reckon_X4_give
theorem dX4_reckon_0 : decode cX4_reckon 0 = .ok (.aload_n 0, 1) := by decide +kernel
theorem dX4_reckon_1 : decode cX4_reckon 1 = .ok (.getfield 42, 3) := by decide +kernel
theorem dX4_reckon_4 : decode cX4_reckon 4 = .ok (.ifCond .eq 4, 3) := by decide +kernel
theorem dX4_reckon_7 : decode cX4_reckon 7 = .ok (.return_, 1) := by decide +kernel
theorem dX4_reckon_8 : decode cX4_reckon 8 = .ok (.iconst 0, 1) := by decide +kernel
theorem dX4_reckon_9 : decode cX4_reckon 9 = .ok (.istore_n 1, 1) := by decide +kernel
theorem dX4_reckon_10 : decode cX4_reckon 10 = .ok (.iload_n 1, 1) := by decide +kernel
theorem dX4_reckon_11 : decode cX4_reckon 11 = .ok (.sipush 4032, 3) := by decide +kernel
theorem dX4_reckon_14 : decode cX4_reckon 14 = .ok (.if_icmp .ge 16, 3) := by decide +kernel
theorem dX4_reckon_17 : decode cX4_reckon 17 = .ok (.aload_n 0, 1) := by decide +kernel
theorem dX4_reckon_18 : decode cX4_reckon 18 = .ok (.getfield 20, 3) := by decide +kernel
theorem dX4_reckon_21 : decode cX4_reckon 21 = .ok (.iload_n 1, 1) := by decide +kernel
theorem dX4_reckon_22 : decode cX4_reckon 22 = .ok (.iconst (-1), 1) := by decide +kernel
theorem dX4_reckon_23 : decode cX4_reckon 23 = .ok (.iastore, 1) := by decide +kernel
theorem dX4_reckon_24 : decode cX4_reckon 24 = .ok (.iinc 1 1, 3) := by decide +kernel
theorem dX4_reckon_27 : decode cX4_reckon 27 = .ok (.goto (-17), 3) := by decide +kernel
theorem dX4_reckon_30 : decode cX4_reckon 30 = .ok (.iconst 0, 1) := by decide +kernel
theorem dX4_reckon_31 : decode cX4_reckon 31 = .ok (.istore_n 1, 1) := by decide +kernel
theorem dX4_reckon_32 : decode cX4_reckon 32 = .ok (.iload_n 1, 1) := by decide +kernel
theorem dX4_reckon_33 : decode cX4_reckon 33 = .ok (.aload_n 0, 1) := by decide +kernel
theorem dX4_reckon_34 : decode cX4_reckon 34 = .ok (.getfield 13, 3) := by decide +kernel
theorem dX4_reckon_37 : decode cX4_reckon 37 = .ok (.if_icmp .ge 75, 3) := by decide +kernel
theorem dX4_reckon_40 : decode cX4_reckon 40 = .ok (.aload_n 0, 1) := by decide +kernel
theorem dX4_reckon_41 : decode cX4_reckon 41 = .ok (.iload_n 1, 1) := by decide +kernel
theorem dX4_reckon_42 : decode cX4_reckon 42 = .ok (.iload_n 1, 1) := by decide +kernel
theorem dX4_reckon_43 : decode cX4_reckon 43 = .ok (.invokestatic 73, 3) := by decide +kernel
theorem dX4_reckon_46 : decode cX4_reckon 46 = .ok (.invokevirtual 89, 3) := by decide +kernel
theorem dX4_reckon_49 : decode cX4_reckon 49 = .ok (.aload_n 0, 1) := by decide +kernel
theorem dX4_reckon_50 : decode cX4_reckon 50 = .ok (.iload_n 1, 1) := by decide +kernel
theorem dX4_reckon_51 : decode cX4_reckon 51 = .ok (.iconst 0, 1) := by decide +kernel
theorem dX4_reckon_52 : decode cX4_reckon 52 = .ok (.invokestatic 73, 3) := by decide +kernel
theorem dX4_reckon_55 : decode cX4_reckon 55 = .ok (.invokevirtual 89, 3) := by decide +kernel
theorem dX4_reckon_58 : decode cX4_reckon 58 = .ok (.iconst 0, 1) := by decide +kernel
theorem dX4_reckon_59 : decode cX4_reckon 59 = .ok (.istore_n 2, 1) := by decide +kernel
theorem dX4_reckon_60 : decode cX4_reckon 60 = .ok (.iload_n 2, 1) := by decide +kernel
theorem dX4_reckon_61 : decode cX4_reckon 61 = .ok (.aload_n 0, 1) := by decide +kernel
theorem dX4_reckon_62 : decode cX4_reckon 62 = .ok (.getfield 61, 3) := by decide +kernel
theorem dX4_reckon_65 : decode cX4_reckon 65 = .ok (.if_icmp .ge 41, 3) := by decide +kernel
theorem dX4_reckon_68 : decode cX4_reckon 68 = .ok (.aload_n 0, 1) := by decide +kernel
theorem dX4_reckon_69 : decode cX4_reckon 69 = .ok (.getfield 16, 3) := by decide +kernel
theorem dX4_reckon_72 : decode cX4_reckon 72 = .ok (.iconst 4, 1) := by decide +kernel
theorem dX4_reckon_73 : decode cX4_reckon 73 = .ok (.iload_n 2, 1) := by decide +kernel
theorem dX4_reckon_74 : decode cX4_reckon 74 = .ok (.imul, 1) := by decide +kernel
theorem dX4_reckon_75 : decode cX4_reckon 75 = .ok (.iaload, 1) := by decide +kernel
theorem dX4_reckon_76 : decode cX4_reckon 76 = .ok (.bipush 7, 2) := by decide +kernel
theorem dX4_reckon_78 : decode cX4_reckon 78 = .ok (.if_icmp .ne 22, 3) := by decide +kernel
theorem dX4_reckon_81 : decode cX4_reckon 81 = .ok (.aload_n 0, 1) := by decide +kernel
theorem dX4_reckon_82 : decode cX4_reckon 82 = .ok (.iload_n 1, 1) := by decide +kernel
theorem dX4_reckon_83 : decode cX4_reckon 83 = .ok (.aload_n 0, 1) := by decide +kernel
theorem dX4_reckon_84 : decode cX4_reckon 84 = .ok (.getfield 16, 3) := by decide +kernel
theorem dX4_reckon_87 : decode cX4_reckon 87 = .ok (.iconst 4, 1) := by decide +kernel
theorem dX4_reckon_88 : decode cX4_reckon 88 = .ok (.iload_n 2, 1) := by decide +kernel
theorem dX4_reckon_89 : decode cX4_reckon 89 = .ok (.imul, 1) := by decide +kernel
theorem dX4_reckon_90 : decode cX4_reckon 90 = .ok (.iconst 1, 1) := by decide +kernel
theorem dX4_reckon_91 : decode cX4_reckon 91 = .ok (.iadd, 1) := by decide +kernel
theorem dX4_reckon_92 : decode cX4_reckon 92 = .ok (.iaload, 1) := by decide +kernel
theorem dX4_reckon_93 : decode cX4_reckon 93 = .ok (.iload_n 1, 1) := by decide +kernel
theorem dX4_reckon_94 : decode cX4_reckon 94 = .ok (.invokestatic 81, 3) := by decide +kernel
theorem dX4_reckon_97 : decode cX4_reckon 97 = .ok (.invokevirtual 89, 3) := by decide +kernel
theorem dX4_reckon_100 : decode cX4_reckon 100 = .ok (.iinc 2 1, 3) := by decide +kernel
theorem dX4_reckon_103 : decode cX4_reckon 103 = .ok (.goto (-43), 3) := by decide +kernel
theorem dX4_reckon_106 : decode cX4_reckon 106 = .ok (.iinc 1 1, 3) := by decide +kernel
theorem dX4_reckon_109 : decode cX4_reckon 109 = .ok (.goto (-77), 3) := by decide +kernel
theorem dX4_reckon_112 : decode cX4_reckon 112 = .ok (.aload_n 0, 1) := by decide +kernel
theorem dX4_reckon_113 : decode cX4_reckon 113 = .ok (.iconst 0, 1) := by decide +kernel
theorem dX4_reckon_114 : decode cX4_reckon 114 = .ok (.putfield 64, 3) := by decide +kernel
theorem dX4_reckon_117 : decode cX4_reckon 117 = .ok (.aload_n 0, 1) := by decide +kernel
theorem dX4_reckon_118 : decode cX4_reckon 118 = .ok (.iconst 1, 1) := by decide +kernel
theorem dX4_reckon_119 : decode cX4_reckon 119 = .ok (.putfield 70, 3) := by decide +kernel
theorem dX4_reckon_122 : decode cX4_reckon 122 = .ok (.aload_n 0, 1) := by decide +kernel
theorem dX4_reckon_123 : decode cX4_reckon 123 = .ok (.getfield 70, 3) := by decide +kernel
theorem dX4_reckon_126 : decode cX4_reckon 126 = .ok (.ifCond .le 111, 3) := by decide +kernel
theorem dX4_reckon_129 : decode cX4_reckon 129 = .ok (.aload_n 0, 1) := by decide +kernel
theorem dX4_reckon_130 : decode cX4_reckon 130 = .ok (.iconst 0, 1) := by decide +kernel
theorem dX4_reckon_131 : decode cX4_reckon 131 = .ok (.putfield 70, 3) := by decide +kernel
theorem dX4_reckon_134 : decode cX4_reckon 134 = .ok (.aload_n 0, 1) := by decide +kernel
theorem dX4_reckon_135 : decode cX4_reckon 135 = .ok (.dup, 1) := by decide +kernel
theorem dX4_reckon_136 : decode cX4_reckon 136 = .ok (.getfield 64, 3) := by decide +kernel
theorem dX4_reckon_139 : decode cX4_reckon 139 = .ok (.iconst 1, 1) := by decide +kernel
theorem dX4_reckon_140 : decode cX4_reckon 140 = .ok (.iadd, 1) := by decide +kernel
theorem dX4_reckon_141 : decode cX4_reckon 141 = .ok (.putfield 64, 3) := by decide +kernel
theorem dX4_reckon_144 : decode cX4_reckon 144 = .ok (.iconst 0, 1) := by decide +kernel
theorem dX4_reckon_145 : decode cX4_reckon 145 = .ok (.istore_n 1, 1) := by decide +kernel
theorem dX4_reckon_146 : decode cX4_reckon 146 = .ok (.iload_n 1, 1) := by decide +kernel
theorem dX4_reckon_147 : decode cX4_reckon 147 = .ok (.aload_n 0, 1) := by decide +kernel
theorem dX4_reckon_148 : decode cX4_reckon 148 = .ok (.getfield 13, 3) := by decide +kernel
theorem dX4_reckon_151 : decode cX4_reckon 151 = .ok (.if_icmp .ge 83, 3) := by decide +kernel
theorem dX4_reckon_154 : decode cX4_reckon 154 = .ok (.iconst 0, 1) := by decide +kernel
theorem dX4_reckon_155 : decode cX4_reckon 155 = .ok (.istore_n 2, 1) := by decide +kernel
theorem dX4_reckon_156 : decode cX4_reckon 156 = .ok (.iload_n 2, 1) := by decide +kernel
theorem dX4_reckon_157 : decode cX4_reckon 157 = .ok (.aload_n 0, 1) := by decide +kernel
theorem dX4_reckon_158 : decode cX4_reckon 158 = .ok (.getfield 61, 3) := by decide +kernel
theorem dX4_reckon_161 : decode cX4_reckon 161 = .ok (.if_icmp .ge 15, 3) := by decide +kernel
theorem dX4_reckon_164 : decode cX4_reckon 164 = .ok (.aload_n 0, 1) := by decide +kernel
theorem dX4_reckon_165 : decode cX4_reckon 165 = .ok (.iload_n 2, 1) := by decide +kernel
theorem dX4_reckon_166 : decode cX4_reckon 166 = .ok (.iload_n 1, 1) := by decide +kernel
theorem dX4_reckon_167 : decode cX4_reckon 167 = .ok (.invokevirtual 93, 3) := by decide +kernel
theorem dX4_reckon_170 : decode cX4_reckon 170 = .ok (.iinc 2 1, 3) := by decide +kernel
theorem dX4_reckon_173 : decode cX4_reckon 173 = .ok (.goto (-17), 3) := by decide +kernel
theorem dX4_reckon_176 : decode cX4_reckon 176 = .ok (.iconst 0, 1) := by decide +kernel
theorem dX4_reckon_177 : decode cX4_reckon 177 = .ok (.istore_n 2, 1) := by decide +kernel
theorem dX4_reckon_178 : decode cX4_reckon 178 = .ok (.iload_n 2, 1) := by decide +kernel
theorem dX4_reckon_179 : decode cX4_reckon 179 = .ok (.bipush 6, 2) := by decide +kernel
theorem dX4_reckon_181 : decode cX4_reckon 181 = .ok (.if_icmp .ge 47, 3) := by decide +kernel
theorem dX4_reckon_184 : decode cX4_reckon 184 = .ok (.iconst 0, 1) := by decide +kernel
theorem dX4_reckon_185 : decode cX4_reckon 185 = .ok (.istore_n 3, 1) := by decide +kernel
theorem dX4_reckon_186 : decode cX4_reckon 186 = .ok (.iload_n 3, 1) := by decide +kernel
theorem dX4_reckon_187 : decode cX4_reckon 187 = .ok (.aload_n 0, 1) := by decide +kernel
theorem dX4_reckon_188 : decode cX4_reckon 188 = .ok (.getfield 13, 3) := by decide +kernel
theorem dX4_reckon_191 : decode cX4_reckon 191 = .ok (.if_icmp .ge 31, 3) := by decide +kernel
theorem dX4_reckon_194 : decode cX4_reckon 194 = .ok (.aload_n 0, 1) := by decide +kernel
theorem dX4_reckon_195 : decode cX4_reckon 195 = .ok (.iload_n 1, 1) := by decide +kernel
theorem dX4_reckon_196 : decode cX4_reckon 196 = .ok (.iconst 1, 1) := by decide +kernel
theorem dX4_reckon_197 : decode cX4_reckon 197 = .ok (.invokestatic 73, 3) := by decide +kernel
theorem dX4_reckon_200 : decode cX4_reckon 200 = .ok (.bipush 100, 2) := by decide +kernel
theorem dX4_reckon_202 : decode cX4_reckon 202 = .ok (.iload_n 1, 1) := by decide +kernel
theorem dX4_reckon_203 : decode cX4_reckon 203 = .ok (.iload_n 2, 1) := by decide +kernel
theorem dX4_reckon_204 : decode cX4_reckon 204 = .ok (.iload_n 3, 1) := by decide +kernel
theorem dX4_reckon_205 : decode cX4_reckon 205 = .ok (.invokestatic 81, 3) := by decide +kernel
theorem dX4_reckon_208 : decode cX4_reckon 208 = .ok (.iload_n 3, 1) := by decide +kernel
theorem dX4_reckon_209 : decode cX4_reckon 209 = .ok (.iconst 1, 1) := by decide +kernel
theorem dX4_reckon_210 : decode cX4_reckon 210 = .ok (.invokestatic 73, 3) := by decide +kernel
theorem dX4_reckon_213 : decode cX4_reckon 213 = .ok (.invokevirtual 77, 3) := by decide +kernel
theorem dX4_reckon_216 : decode cX4_reckon 216 = .ok (.iinc 3 1, 3) := by decide +kernel
theorem dX4_reckon_219 : decode cX4_reckon 219 = .ok (.goto (-33), 3) := by decide +kernel
theorem dX4_reckon_222 : decode cX4_reckon 222 = .ok (.iinc 2 1, 3) := by decide +kernel
theorem dX4_reckon_225 : decode cX4_reckon 225 = .ok (.goto (-47), 3) := by decide +kernel
theorem dX4_reckon_228 : decode cX4_reckon 228 = .ok (.iinc 1 1, 3) := by decide +kernel
theorem dX4_reckon_231 : decode cX4_reckon 231 = .ok (.goto (-85), 3) := by decide +kernel
theorem dX4_reckon_234 : decode cX4_reckon 234 = .ok (.goto (-112), 3) := by decide +kernel
theorem dX4_reckon_237 : decode cX4_reckon 237 = .ok (.aload_n 0, 1) := by decide +kernel
theorem dX4_reckon_238 : decode cX4_reckon 238 = .ok (.iconst 0, 1) := by decide +kernel
theorem dX4_reckon_239 : decode cX4_reckon 239 = .ok (.putfield 97, 3) := by decide +kernel
theorem dX4_reckon_242 : decode cX4_reckon 242 = .ok (.iconst 0, 1) := by decide +kernel
theorem dX4_reckon_243 : decode cX4_reckon 243 = .ok (.istore_n 1, 1) := by decide +kernel
theorem dX4_reckon_244 : decode cX4_reckon 244 = .ok (.iload_n 1, 1) := by decide +kernel
theorem dX4_reckon_245 : decode cX4_reckon 245 = .ok (.aload_n 0, 1) := by decide +kernel
theorem dX4_reckon_246 : decode cX4_reckon 246 = .ok (.getfield 64, 3) := by decide +kernel
theorem dX4_reckon_249 : decode cX4_reckon 249 = .ok (.if_icmp .ge 57, 3) := by decide +kernel
theorem dX4_reckon_252 : decode cX4_reckon 252 = .ok (.iconst 0, 1) := by decide +kernel
theorem dX4_reckon_253 : decode cX4_reckon 253 = .ok (.istore_n 2, 1) := by decide +kernel
theorem dX4_reckon_254 : decode cX4_reckon 254 = .ok (.iload_n 2, 1) := by decide +kernel
theorem dX4_reckon_255 : decode cX4_reckon 255 = .ok (.sipush 4032, 3) := by decide +kernel
theorem dX4_reckon_258 : decode cX4_reckon 258 = .ok (.if_icmp .ge 42, 3) := by decide +kernel
theorem dX4_reckon_261 : decode cX4_reckon 261 = .ok (.aload_n 0, 1) := by decide +kernel
theorem dX4_reckon_262 : decode cX4_reckon 262 = .ok (.getfield 20, 3) := by decide +kernel
theorem dX4_reckon_265 : decode cX4_reckon 265 = .ok (.iload_n 2, 1) := by decide +kernel
theorem dX4_reckon_266 : decode cX4_reckon 266 = .ok (.iaload, 1) := by decide +kernel
theorem dX4_reckon_267 : decode cX4_reckon 267 = .ok (.iload_n 1, 1) := by decide +kernel
theorem dX4_reckon_268 : decode cX4_reckon 268 = .ok (.if_icmp .eq 6, 3) := by decide +kernel
theorem dX4_reckon_271 : decode cX4_reckon 271 = .ok (.goto 23, 3) := by decide +kernel
theorem dX4_reckon_274 : decode cX4_reckon 274 = .ok (.aload_n 0, 1) := by decide +kernel
theorem dX4_reckon_275 : decode cX4_reckon 275 = .ok (.getfield 32, 3) := by decide +kernel
theorem dX4_reckon_278 : decode cX4_reckon 278 = .ok (.aload_n 0, 1) := by decide +kernel
theorem dX4_reckon_279 : decode cX4_reckon 279 = .ok (.getfield 97, 3) := by decide +kernel
theorem dX4_reckon_282 : decode cX4_reckon 282 = .ok (.iload_n 2, 1) := by decide +kernel
theorem dX4_reckon_283 : decode cX4_reckon 283 = .ok (.iastore, 1) := by decide +kernel
theorem dX4_reckon_284 : decode cX4_reckon 284 = .ok (.aload_n 0, 1) := by decide +kernel
theorem dX4_reckon_285 : decode cX4_reckon 285 = .ok (.dup, 1) := by decide +kernel
theorem dX4_reckon_286 : decode cX4_reckon 286 = .ok (.getfield 97, 3) := by decide +kernel
theorem dX4_reckon_289 : decode cX4_reckon 289 = .ok (.iconst 1, 1) := by decide +kernel
theorem dX4_reckon_290 : decode cX4_reckon 290 = .ok (.iadd, 1) := by decide +kernel
theorem dX4_reckon_291 : decode cX4_reckon 291 = .ok (.putfield 97, 3) := by decide +kernel
theorem dX4_reckon_294 : decode cX4_reckon 294 = .ok (.iinc 2 1, 3) := by decide +kernel
theorem dX4_reckon_297 : decode cX4_reckon 297 = .ok (.goto (-43), 3) := by decide +kernel
theorem dX4_reckon_300 : decode cX4_reckon 300 = .ok (.iinc 1 1, 3) := by decide +kernel
theorem dX4_reckon_303 : decode cX4_reckon 303 = .ok (.goto (-59), 3) := by decide +kernel
theorem dX4_reckon_306 : decode cX4_reckon 306 = .ok (.aload_n 0, 1) := by decide +kernel
theorem dX4_reckon_307 : decode cX4_reckon 307 = .ok (.iconst 1, 1) := by decide +kernel
theorem dX4_reckon_308 : decode cX4_reckon 308 = .ok (.putfield 42, 3) := by decide +kernel
theorem dX4_reckon_311 : decode cX4_reckon 311 = .ok (.return_, 1) := by decide +kernel
set_option maxRecDepth 20000 in
theorem ggX4_follows_X4_reckon : GoodIn wsX4_follows wsX4_reckon := goodIn_r _ [6, 7, 1, 8, 9, 10, 11, 12, 13, 14, 15, 16, 5, 17, 18, 19, 20, 21, 22, 23, 24, 25, 26, 27, 28, 29, 30, 31, 32, 33, 34, 35, 36, 37, 38, 39, 40, 41, 42, 43, 44, 45, 46, 47, 48, 49, 50, 51, 52, 53, 54, 55, 56, 57, 58, 59] (by decide +kernel) (by decide +kernel)
set_option maxRecDepth 20000 in
theorem gX4_follows_X4_reckon : GoodIn wsX4_follows (wsV RX4 100 RX4 yX4_reckon wsX4_reckon) := goodIn_app (goodIn_of _ (by decide +kernel)) ggX4_follows_X4_reckon
theorem dX4_follows_0 : decode cX4_follows 0 = .ok (.aload_n 0, 1) := by decide +kernel
theorem dX4_follows_1 : decode cX4_follows 1 = .ok (.invokevirtual 100, 3) := by decide +kernel
theorem dX4_follows_4 : decode cX4_follows 4 = .ok (.iload_n 1, 1) := by decide +kernel
theorem dX4_follows_5 : decode cX4_follows 5 = .ok (.ifCond .lt 23, 3) := by decide +kernel
theorem dX4_follows_8 : decode cX4_follows 8 = .ok (.iload_n 1, 1) := by decide +kernel
theorem dX4_follows_9 : decode cX4_follows 9 = .ok (.sipush 4032, 3) := by decide +kernel
theorem dX4_follows_12 : decode cX4_follows 12 = .ok (.if_icmp .ge 16, 3) := by decide +kernel
theorem dX4_follows_15 : decode cX4_follows 15 = .ok (.aload_n 0, 1) := by decide +kernel
theorem dX4_follows_16 : decode cX4_follows 16 = .ok (.getfield 20, 3) := by decide +kernel
theorem dX4_follows_19 : decode cX4_follows 19 = .ok (.iload_n 1, 1) := by decide +kernel
theorem dX4_follows_20 : decode cX4_follows 20 = .ok (.iaload, 1) := by decide +kernel
theorem dX4_follows_21 : decode cX4_follows 21 = .ok (.ifCond .lt 7, 3) := by decide +kernel
theorem dX4_follows_24 : decode cX4_follows 24 = .ok (.iconst 1, 1) := by decide +kernel
theorem dX4_follows_25 : decode cX4_follows 25 = .ok (.goto 4, 3) := by decide +kernel
theorem dX4_follows_28 : decode cX4_follows 28 = .ok (.iconst 0, 1) := by decide +kernel
theorem dX4_follows_29 : decode cX4_follows 29 = .ok (.ireturn, 1) := by decide +kernel
set_option maxRecDepth 20000 in
theorem ggX4_sub_X4_isClass : GoodIn wsX4_sub wsX4_isClass := goodIn_r _ [6, 7, 53, 54, 55, 56, 57, 58, 59, 60, 61, 62, 63, 64, 65, 66, 67, 68] (by decide +kernel) (by decide +kernel)
set_option maxRecDepth 20000 in
theorem gX4_sub_X4_isClass : GoodIn wsX4_sub (wsV RX4 46 RX4 yX4_isClass wsX4_isClass) := goodIn_app (goodIn_of _ (by decide +kernel)) ggX4_sub_X4_isClass
set_option maxRecDepth 20000 in
theorem ggX4_sub_X4_code : GoodIn wsX4_sub wsX4_code := goodIn_r _ [10] (by decide +kernel) (by decide +kernel)
set_option maxRecDepth 20000 in
theorem gX4_sub_X4_code : GoodIn wsX4_sub (va_wsS RX4 73 yX4_code wsX4_code) := goodIn_app (goodIn_of _ (by decide +kernel)) ggX4_sub_X4_code
set_option maxRecDepth 20000 in
theorem ggX4_sub_X4_follows : GoodIn wsX4_sub wsX4_follows := goodIn_r _ [14, 15, 16, 17, 18, 5, 19, 20, 7, 21, 22, 23, 24, 25, 26, 8, 9, 10, 27, 28, 29, 30, 31, 32, 33, 34, 35, 36, 37, 38, 39, 40, 41, 42, 43, 44, 45, 46, 47, 48, 49, 50, 51, 52, 53, 54, 55, 56, 57, 58, 59, 60, 61, 62, 63, 64, 65, 66, 67, 68] (by decide +kernel) (by decide +kernel)
set_option maxRecDepth 20000 in
theorem gX4_sub_X4_follows : GoodIn wsX4_sub (wsV RX4 103 RX4 yX4_follows wsX4_follows) := goodIn_app (goodIn_of _ (by decide +kernel)) ggX4_sub_X4_follows
theorem dX4_sub_0 : decode cX4_sub 0 = .ok (.aload_n 0, 1) := by decide +kernel
theorem dX4_sub_1 : decode cX4_sub 1 = .ok (.iconst 0, 1) := by decide +kernel
theorem dX4_sub_2 : decode cX4_sub 2 = .ok (.putfield 1, 3) := by decide +kernel
theorem dX4_sub_5 : decode cX4_sub 5 = .ok (.aload_n 0, 1) := by decide +kernel
theorem dX4_sub_6 : decode cX4_sub 6 = .ok (.iload_n 1, 1) := by decide +kernel
theorem dX4_sub_7 : decode cX4_sub 7 = .ok (.invokevirtual 46, 3) := by decide +kernel
theorem dX4_sub_10 : decode cX4_sub 10 = .ok (.ifCond .eq 11, 3) := by decide +kernel
theorem dX4_sub_13 : decode cX4_sub 13 = .ok (.aload_n 0, 1) := by decide +kernel
theorem dX4_sub_14 : decode cX4_sub 14 = .ok (.iload_n 2, 1) := by decide +kernel
theorem dX4_sub_15 : decode cX4_sub 15 = .ok (.invokevirtual 46, 3) := by decide +kernel
theorem dX4_sub_18 : decode cX4_sub 18 = .ok (.ifCond .ne 7, 3) := by decide +kernel
theorem dX4_sub_21 : decode cX4_sub 21 = .ok (.iconst (-1), 1) := by decide +kernel
theorem dX4_sub_22 : decode cX4_sub 22 = .ok (.goto 20, 3) := by decide +kernel
theorem dX4_sub_25 : decode cX4_sub 25 = .ok (.aload_n 0, 1) := by decide +kernel
theorem dX4_sub_26 : decode cX4_sub 26 = .ok (.iload_n 1, 1) := by decide +kernel
theorem dX4_sub_27 : decode cX4_sub 27 = .ok (.iload_n 2, 1) := by decide +kernel
theorem dX4_sub_28 : decode cX4_sub 28 = .ok (.invokestatic 73, 3) := by decide +kernel
theorem dX4_sub_31 : decode cX4_sub 31 = .ok (.invokevirtual 103, 3) := by decide +kernel
theorem dX4_sub_34 : decode cX4_sub 34 = .ok (.ifCond .eq 7, 3) := by decide +kernel
theorem dX4_sub_37 : decode cX4_sub 37 = .ok (.iconst 1, 1) := by decide +kernel
theorem dX4_sub_38 : decode cX4_sub 38 = .ok (.goto 4, 3) := by decide +kernel
theorem dX4_sub_41 : decode cX4_sub 41 = .ok (.iconst 0, 1) := by decide +kernel
theorem dX4_sub_42 : decode cX4_sub 42 = .ok (.ireturn, 1) := by decide +kernel
set_option maxRecDepth 20000 in
theorem ggX4_link_X4_isClass : GoodIn wsX4_link wsX4_isClass := goodIn_r _ [6, 7, 56, 57, 58, 59, 60, 61, 62, 63, 64, 65, 66, 67, 68, 69, 70, 71] (by decide +kernel) (by decide +kernel)
set_option maxRecDepth 20000 in
theorem gX4_link_X4_isClass : GoodIn wsX4_link (wsV RX4 46 RX4 yX4_isClass wsX4_isClass) := goodIn_app (goodIn_of _ (by decide +kernel)) ggX4_link_X4_isClass
set_option maxRecDepth 20000 in
theorem ggX4_link_X4_isRole : GoodIn wsX4_link wsX4_isRole := goodIn_r _ [10] (by decide +kernel) (by decide +kernel)
set_option maxRecDepth 20000 in
theorem gX4_link_X4_isRole : GoodIn wsX4_link (va_wsS RX4 50 yX4_isRole wsX4_isRole) := goodIn_app (goodIn_of _ (by decide +kernel)) ggX4_link_X4_isRole
set_option maxRecDepth 20000 in
theorem ggX4_link_X4_linked : GoodIn wsX4_link wsX4_linked := goodIn_r _ [13] (by decide +kernel) (by decide +kernel)
set_option maxRecDepth 20000 in
theorem gX4_link_X4_linked : GoodIn wsX4_link (va_wsS RX4 81 yX4_linked wsX4_linked) := goodIn_app (goodIn_of _ (by decide +kernel)) ggX4_link_X4_linked
set_option maxRecDepth 20000 in
theorem ggX4_link_X4_follows : GoodIn wsX4_link wsX4_follows := goodIn_r _ [17, 18, 19, 20, 21, 5, 22, 23, 7, 24, 25, 26, 27, 28, 29, 30, 31, 32, 33, 34, 35, 36, 37, 38, 39, 11, 12, 13, 40, 41, 42, 43, 44, 45, 46, 47, 48, 49, 50, 51, 52, 53, 54, 55, 56, 57, 58, 59, 60, 61, 62, 63, 64, 65, 66, 67, 68, 69, 70, 71] (by decide +kernel) (by decide +kernel)
set_option maxRecDepth 20000 in
theorem gX4_link_X4_follows : GoodIn wsX4_link (wsV RX4 103 RX4 yX4_follows wsX4_follows) := goodIn_app (goodIn_of _ (by decide +kernel)) ggX4_link_X4_follows
theorem dX4_link_0 : decode cX4_link 0 = .ok (.aload_n 0, 1) := by decide +kernel
theorem dX4_link_1 : decode cX4_link 1 = .ok (.iconst 0, 1) := by decide +kernel
theorem dX4_link_2 : decode cX4_link 2 = .ok (.putfield 1, 3) := by decide +kernel
theorem dX4_link_5 : decode cX4_link 5 = .ok (.aload_n 0, 1) := by decide +kernel
theorem dX4_link_6 : decode cX4_link 6 = .ok (.iload_n 1, 1) := by decide +kernel
theorem dX4_link_7 : decode cX4_link 7 = .ok (.invokevirtual 46, 3) := by decide +kernel
theorem dX4_link_10 : decode cX4_link 10 = .ok (.ifCond .eq 18, 3) := by decide +kernel
theorem dX4_link_13 : decode cX4_link 13 = .ok (.aload_n 0, 1) := by decide +kernel
theorem dX4_link_14 : decode cX4_link 14 = .ok (.iload_n 3, 1) := by decide +kernel
theorem dX4_link_15 : decode cX4_link 15 = .ok (.invokevirtual 46, 3) := by decide +kernel
theorem dX4_link_18 : decode cX4_link 18 = .ok (.ifCond .eq 10, 3) := by decide +kernel
theorem dX4_link_21 : decode cX4_link 21 = .ok (.iload_n 2, 1) := by decide +kernel
theorem dX4_link_22 : decode cX4_link 22 = .ok (.invokestatic 50, 3) := by decide +kernel
theorem dX4_link_25 : decode cX4_link 25 = .ok (.ifCond .ne 7, 3) := by decide +kernel
theorem dX4_link_28 : decode cX4_link 28 = .ok (.iconst (-1), 1) := by decide +kernel
theorem dX4_link_29 : decode cX4_link 29 = .ok (.goto 21, 3) := by decide +kernel
theorem dX4_link_32 : decode cX4_link 32 = .ok (.aload_n 0, 1) := by decide +kernel
theorem dX4_link_33 : decode cX4_link 33 = .ok (.iload_n 1, 1) := by decide +kernel
theorem dX4_link_34 : decode cX4_link 34 = .ok (.iload_n 2, 1) := by decide +kernel
theorem dX4_link_35 : decode cX4_link 35 = .ok (.iload_n 3, 1) := by decide +kernel
theorem dX4_link_36 : decode cX4_link 36 = .ok (.invokestatic 81, 3) := by decide +kernel
theorem dX4_link_39 : decode cX4_link 39 = .ok (.invokevirtual 103, 3) := by decide +kernel
theorem dX4_link_42 : decode cX4_link 42 = .ok (.ifCond .eq 7, 3) := by decide +kernel
theorem dX4_link_45 : decode cX4_link 45 = .ok (.iconst 1, 1) := by decide +kernel
theorem dX4_link_46 : decode cX4_link 46 = .ok (.goto 4, 3) := by decide +kernel
theorem dX4_link_49 : decode cX4_link 49 = .ok (.iconst 0, 1) := by decide +kernel
theorem dX4_link_50 : decode cX4_link 50 = .ok (.ireturn, 1) := by decide +kernel
set_option maxRecDepth 20000 in
theorem ggX4_rounds_X4_reckon : GoodIn wsX4_rounds wsX4_reckon := goodIn_r _ [7, 8, 9, 10, 11, 12, 2, 13, 14, 15, 16, 17, 6, 18, 19, 20, 21, 22, 23, 24, 25, 26, 27, 28, 29, 30, 31, 32, 33, 34, 35, 36, 37, 38, 39, 40, 41, 42, 43, 44, 45, 46, 47, 48, 49, 50, 51, 52, 53, 54, 55, 56, 57, 58, 59, 60] (by decide +kernel) (by decide +kernel)
set_option maxRecDepth 20000 in
theorem gX4_rounds_X4_reckon : GoodIn wsX4_rounds (wsV RX4 100 RX4 yX4_reckon wsX4_reckon) := goodIn_app (goodIn_of _ (by decide +kernel)) ggX4_rounds_X4_reckon
theorem dX4_rounds_0 : decode cX4_rounds 0 = .ok (.aload_n 0, 1) := by decide +kernel
theorem dX4_rounds_1 : decode cX4_rounds 1 = .ok (.iconst 0, 1) := by decide +kernel
theorem dX4_rounds_2 : decode cX4_rounds 2 = .ok (.putfield 1, 3) := by decide +kernel
theorem dX4_rounds_5 : decode cX4_rounds 5 = .ok (.aload_n 0, 1) := by decide +kernel
theorem dX4_rounds_6 : decode cX4_rounds 6 = .ok (.invokevirtual 100, 3) := by decide +kernel
theorem dX4_rounds_9 : decode cX4_rounds 9 = .ok (.aload_n 0, 1) := by decide +kernel
theorem dX4_rounds_10 : decode cX4_rounds 10 = .ok (.getfield 64, 3) := by decide +kernel
theorem dX4_rounds_13 : decode cX4_rounds 13 = .ok (.ireturn, 1) := by decide +kernel
set_option maxRecDepth 20000 in
theorem ggX4_facts_X4_reckon : GoodIn wsX4_facts wsX4_reckon := goodIn_r _ [7, 8, 9, 10, 11, 12, 13, 14, 2, 15, 16, 17, 6, 18, 19, 20, 21, 22, 23, 24, 25, 26, 27, 28, 29, 30, 31, 32, 33, 34, 35, 36, 37, 38, 39, 40, 41, 42, 43, 44, 45, 46, 47, 48, 49, 50, 51, 52, 53, 54, 55, 56, 57, 58, 59, 60] (by decide +kernel) (by decide +kernel)
set_option maxRecDepth 20000 in
theorem gX4_facts_X4_reckon : GoodIn wsX4_facts (wsV RX4 100 RX4 yX4_reckon wsX4_reckon) := goodIn_app (goodIn_of _ (by decide +kernel)) ggX4_facts_X4_reckon
theorem dX4_facts_0 : decode cX4_facts 0 = .ok (.aload_n 0, 1) := by decide +kernel
theorem dX4_facts_1 : decode cX4_facts 1 = .ok (.iconst 0, 1) := by decide +kernel
theorem dX4_facts_2 : decode cX4_facts 2 = .ok (.putfield 1, 3) := by decide +kernel
theorem dX4_facts_5 : decode cX4_facts 5 = .ok (.aload_n 0, 1) := by decide +kernel
theorem dX4_facts_6 : decode cX4_facts 6 = .ok (.invokevirtual 100, 3) := by decide +kernel
theorem dX4_facts_9 : decode cX4_facts 9 = .ok (.aload_n 0, 1) := by decide +kernel
theorem dX4_facts_10 : decode cX4_facts 10 = .ok (.getfield 97, 3) := by decide +kernel
theorem dX4_facts_13 : decode cX4_facts 13 = .ok (.ireturn, 1) := by decide +kernel
set_option maxRecDepth 20000 in
theorem ggX4_fact_X4_reckon : GoodIn wsX4_fact wsX4_reckon := goodIn_r _ [8, 9, 10, 11, 12, 13, 14, 15, 1, 3, 16, 17, 7, 18, 19, 20, 21, 22, 23, 24, 25, 26, 27, 28, 29, 30, 31, 32, 33, 34, 35, 36, 37, 38, 39, 40, 41, 42, 43, 44, 45, 46, 47, 48, 49, 50, 51, 52, 53, 54, 55, 56, 57, 58, 59, 60] (by decide +kernel) (by decide +kernel)
set_option maxRecDepth 20000 in
theorem gX4_fact_X4_reckon : GoodIn wsX4_fact (wsV RX4 100 RX4 yX4_reckon wsX4_reckon) := goodIn_app (goodIn_of _ (by decide +kernel)) ggX4_fact_X4_reckon
theorem dX4_fact_0 : decode cX4_fact 0 = .ok (.aload_n 0, 1) := by decide +kernel
theorem dX4_fact_1 : decode cX4_fact 1 = .ok (.invokevirtual 100, 3) := by decide +kernel
theorem dX4_fact_4 : decode cX4_fact 4 = .ok (.aload_n 0, 1) := by decide +kernel
theorem dX4_fact_5 : decode cX4_fact 5 = .ok (.iload_n 1, 1) := by decide +kernel
theorem dX4_fact_6 : decode cX4_fact 6 = .ok (.ifCond .lt 15, 3) := by decide +kernel
theorem dX4_fact_9 : decode cX4_fact 9 = .ok (.iload_n 1, 1) := by decide +kernel
theorem dX4_fact_10 : decode cX4_fact 10 = .ok (.aload_n 0, 1) := by decide +kernel
theorem dX4_fact_11 : decode cX4_fact 11 = .ok (.getfield 97, 3) := by decide +kernel
theorem dX4_fact_14 : decode cX4_fact 14 = .ok (.if_icmp .ge 7, 3) := by decide +kernel
theorem dX4_fact_17 : decode cX4_fact 17 = .ok (.iconst 0, 1) := by decide +kernel
theorem dX4_fact_18 : decode cX4_fact 18 = .ok (.goto 4, 3) := by decide +kernel
theorem dX4_fact_21 : decode cX4_fact 21 = .ok (.iconst 1, 1) := by decide +kernel
theorem dX4_fact_22 : decode cX4_fact 22 = .ok (.putfield 1, 3) := by decide +kernel
theorem dX4_fact_25 : decode cX4_fact 25 = .ok (.aload_n 0, 1) := by decide +kernel
theorem dX4_fact_26 : decode cX4_fact 26 = .ok (.getfield 1, 3) := by decide +kernel
theorem dX4_fact_29 : decode cX4_fact 29 = .ok (.ifCond .ne 12, 3) := by decide +kernel
theorem dX4_fact_32 : decode cX4_fact 32 = .ok (.aload_n 0, 1) := by decide +kernel
theorem dX4_fact_33 : decode cX4_fact 33 = .ok (.getfield 32, 3) := by decide +kernel
theorem dX4_fact_36 : decode cX4_fact 36 = .ok (.iload_n 1, 1) := by decide +kernel
theorem dX4_fact_37 : decode cX4_fact 37 = .ok (.iaload, 1) := by decide +kernel
theorem dX4_fact_38 : decode cX4_fact 38 = .ok (.goto 4, 3) := by decide +kernel
theorem dX4_fact_41 : decode cX4_fact 41 = .ok (.iconst 0, 1) := by decide +kernel
theorem dX4_fact_42 : decode cX4_fact 42 = .ok (.ireturn, 1) := by decide +kernel
set_option maxRecDepth 20000 in
theorem ggX4_told_X4_follows : GoodIn wsX4_told wsX4_follows := goodIn_r _ [10, 2, 11, 12, 13, 9, 14, 15, 16, 17, 18, 19, 20, 21, 22, 23, 24, 25, 26, 27, 28, 29, 3, 4, 5, 30, 31, 32, 33, 34, 35, 36, 37, 38, 39, 40, 41, 42, 43, 44, 45, 46, 47, 48, 49, 50, 51, 52, 53, 54, 55, 56, 57, 58, 59, 60, 61, 62, 63, 64] (by decide +kernel) (by decide +kernel)
set_option maxRecDepth 20000 in
theorem gX4_told_X4_follows : GoodIn wsX4_told (wsV RX4 103 RX4 yX4_follows wsX4_follows) := goodIn_app (goodIn_of _ (by decide +kernel)) ggX4_told_X4_follows
theorem dX4_told_0 : decode cX4_told 0 = .ok (.aload_n 0, 1) := by decide +kernel
theorem dX4_told_1 : decode cX4_told 1 = .ok (.iconst 0, 1) := by decide +kernel
theorem dX4_told_2 : decode cX4_told 2 = .ok (.putfield 1, 3) := by decide +kernel
theorem dX4_told_5 : decode cX4_told 5 = .ok (.aload_n 0, 1) := by decide +kernel
theorem dX4_told_6 : decode cX4_told 6 = .ok (.iload_n 1, 1) := by decide +kernel
theorem dX4_told_7 : decode cX4_told 7 = .ok (.invokevirtual 103, 3) := by decide +kernel
theorem dX4_told_10 : decode cX4_told 10 = .ok (.ifCond .ne 5, 3) := by decide +kernel
theorem dX4_told_13 : decode cX4_told 13 = .ok (.iconst (-1), 1) := by decide +kernel
theorem dX4_told_14 : decode cX4_told 14 = .ok (.ireturn, 1) := by decide +kernel
theorem dX4_told_15 : decode cX4_told 15 = .ok (.iload_n 2, 1) := by decide +kernel
theorem dX4_told_16 : decode cX4_told 16 = .ok (.tableswitch 60 0 3 #[32, 39, 46, 53], 32) := by decide +kernel
theorem dX4_told_48 : decode cX4_told 48 = .ok (.aload_n 0, 1) := by decide +kernel
theorem dX4_told_49 : decode cX4_told 49 = .ok (.getfield 20, 3) := by decide +kernel
theorem dX4_told_52 : decode cX4_told 52 = .ok (.iload_n 1, 1) := by decide +kernel
theorem dX4_told_53 : decode cX4_told 53 = .ok (.iaload, 1) := by decide +kernel
theorem dX4_told_54 : decode cX4_told 54 = .ok (.ireturn, 1) := by decide +kernel
theorem dX4_told_55 : decode cX4_told 55 = .ok (.aload_n 0, 1) := by decide +kernel
theorem dX4_told_56 : decode cX4_told 56 = .ok (.getfield 23, 3) := by decide +kernel
theorem dX4_told_59 : decode cX4_told 59 = .ok (.iload_n 1, 1) := by decide +kernel
theorem dX4_told_60 : decode cX4_told 60 = .ok (.iaload, 1) := by decide +kernel
theorem dX4_told_61 : decode cX4_told 61 = .ok (.ireturn, 1) := by decide +kernel
theorem dX4_told_62 : decode cX4_told 62 = .ok (.aload_n 0, 1) := by decide +kernel
theorem dX4_told_63 : decode cX4_told 63 = .ok (.getfield 26, 3) := by decide +kernel
theorem dX4_told_66 : decode cX4_told 66 = .ok (.iload_n 1, 1) := by decide +kernel
theorem dX4_told_67 : decode cX4_told 67 = .ok (.iaload, 1) := by decide +kernel
theorem dX4_told_68 : decode cX4_told 68 = .ok (.ireturn, 1) := by decide +kernel
theorem dX4_told_69 : decode cX4_told 69 = .ok (.aload_n 0, 1) := by decide +kernel
theorem dX4_told_70 : decode cX4_told 70 = .ok (.getfield 29, 3) := by decide +kernel
theorem dX4_told_73 : decode cX4_told 73 = .ok (.iload_n 1, 1) := by decide +kernel
theorem dX4_told_74 : decode cX4_told 74 = .ok (.iaload, 1) := by decide +kernel
theorem dX4_told_75 : decode cX4_told 75 = .ok (.ireturn, 1) := by decide +kernel
theorem dX4_told_76 : decode cX4_told 76 = .ok (.iconst (-1), 1) := by decide +kernel
theorem dX4_told_77 : decode cX4_told 77 = .ok (.ireturn, 1) := by decide +kernel
set_option maxRecDepth 20000 in
theorem ggX4_trace_X4_follows : GoodIn wsX4_trace wsX4_follows := goodIn_r _ [13, 14, 15, 16, 17, 12, 18, 19, 20, 21, 22, 23, 24, 6, 7, 25, 26, 27, 28, 29, 30, 31, 32, 4, 5, 33, 34, 35, 36, 37, 38, 39, 40, 41, 42, 43, 44, 45, 46, 47, 48, 49, 50, 51, 56, 57, 58, 59, 60, 61, 62, 63, 64, 65, 66, 67, 68, 69, 70, 71] (by decide +kernel) (by decide +kernel)
set_option maxRecDepth 20000 in
theorem gX4_trace_X4_follows : GoodIn wsX4_trace (wsV RX4 103 RX4 yX4_follows wsX4_follows) := goodIn_app (goodIn_of _ (by decide +kernel)) ggX4_trace_X4_follows
set_option maxRecDepth 20000 in
theorem ggX4_trace_X4_want : GoodIn wsX4_trace wsX4_want := goodIn_r _ [55, 3, 56, 57, 58, 59, 60, 61, 62, 63, 64, 65, 66, 67, 68, 69, 70, 71] (by decide +kernel) (by decide +kernel)
set_option maxRecDepth 20000 in
theorem gX4_trace_X4_want : GoodIn wsX4_trace (wsV RX4 109 RX4 yX4_want wsX4_want) := goodIn_app (goodIn_of _ (by decide +kernel)) ggX4_trace_X4_want
theorem dX4_trace_0 : decode cX4_trace 0 = .ok (.aload_n 0, 1) := by decide +kernel
theorem dX4_trace_1 : decode cX4_trace 1 = .ok (.iconst 0, 1) := by decide +kernel
theorem dX4_trace_2 : decode cX4_trace 2 = .ok (.putfield 1, 3) := by decide +kernel
theorem dX4_trace_5 : decode cX4_trace 5 = .ok (.aload_n 0, 1) := by decide +kernel
theorem dX4_trace_6 : decode cX4_trace 6 = .ok (.iconst 0, 1) := by decide +kernel
theorem dX4_trace_7 : decode cX4_trace 7 = .ok (.putfield 106, 3) := by decide +kernel
theorem dX4_trace_10 : decode cX4_trace 10 = .ok (.aload_n 0, 1) := by decide +kernel
theorem dX4_trace_11 : decode cX4_trace 11 = .ok (.iload_n 1, 1) := by decide +kernel
theorem dX4_trace_12 : decode cX4_trace 12 = .ok (.invokevirtual 103, 3) := by decide +kernel
theorem dX4_trace_15 : decode cX4_trace 15 = .ok (.ifCond .ne 5, 3) := by decide +kernel
theorem dX4_trace_18 : decode cX4_trace 18 = .ok (.iconst 0, 1) := by decide +kernel
theorem dX4_trace_19 : decode cX4_trace 19 = .ok (.ireturn, 1) := by decide +kernel
theorem dX4_trace_20 : decode cX4_trace 20 = .ok (.iconst 0, 1) := by decide +kernel
theorem dX4_trace_21 : decode cX4_trace 21 = .ok (.istore_n 2, 1) := by decide +kernel
theorem dX4_trace_22 : decode cX4_trace 22 = .ok (.iload_n 2, 1) := by decide +kernel
theorem dX4_trace_23 : decode cX4_trace 23 = .ok (.sipush 4032, 3) := by decide +kernel
theorem dX4_trace_26 : decode cX4_trace 26 = .ok (.if_icmp .ge 25, 3) := by decide +kernel
theorem dX4_trace_29 : decode cX4_trace 29 = .ok (.aload_n 0, 1) := by decide +kernel
theorem dX4_trace_30 : decode cX4_trace 30 = .ok (.getfield 38, 3) := by decide +kernel
theorem dX4_trace_33 : decode cX4_trace 33 = .ok (.iload_n 2, 1) := by decide +kernel
theorem dX4_trace_34 : decode cX4_trace 34 = .ok (.iload_n 2, 1) := by decide +kernel
theorem dX4_trace_35 : decode cX4_trace 35 = .ok (.iload_n 1, 1) := by decide +kernel
theorem dX4_trace_36 : decode cX4_trace 36 = .ok (.if_icmp .ne 7, 3) := by decide +kernel
theorem dX4_trace_39 : decode cX4_trace 39 = .ok (.iconst 1, 1) := by decide +kernel
theorem dX4_trace_40 : decode cX4_trace 40 = .ok (.goto 4, 3) := by decide +kernel
theorem dX4_trace_43 : decode cX4_trace 43 = .ok (.iconst 0, 1) := by decide +kernel
theorem dX4_trace_44 : decode cX4_trace 44 = .ok (.bastore, 1) := by decide +kernel
theorem dX4_trace_45 : decode cX4_trace 45 = .ok (.iinc 2 1, 3) := by decide +kernel
theorem dX4_trace_48 : decode cX4_trace 48 = .ok (.goto (-26), 3) := by decide +kernel
theorem dX4_trace_51 : decode cX4_trace 51 = .ok (.iconst 1, 1) := by decide +kernel
theorem dX4_trace_52 : decode cX4_trace 52 = .ok (.istore_n 2, 1) := by decide +kernel
theorem dX4_trace_53 : decode cX4_trace 53 = .ok (.iload_n 2, 1) := by decide +kernel
theorem dX4_trace_54 : decode cX4_trace 54 = .ok (.ifCond .eq 102, 3) := by decide +kernel
theorem dX4_trace_57 : decode cX4_trace 57 = .ok (.iconst 0, 1) := by decide +kernel
theorem dX4_trace_58 : decode cX4_trace 58 = .ok (.istore_n 2, 1) := by decide +kernel
theorem dX4_trace_59 : decode cX4_trace 59 = .ok (.iconst 0, 1) := by decide +kernel
theorem dX4_trace_60 : decode cX4_trace 60 = .ok (.istore_n 3, 1) := by decide +kernel
theorem dX4_trace_61 : decode cX4_trace 61 = .ok (.iload_n 3, 1) := by decide +kernel
theorem dX4_trace_62 : decode cX4_trace 62 = .ok (.sipush 4032, 3) := by decide +kernel
theorem dX4_trace_65 : decode cX4_trace 65 = .ok (.if_icmp .ge 41, 3) := by decide +kernel
theorem dX4_trace_68 : decode cX4_trace 68 = .ok (.aload_n 0, 1) := by decide +kernel
theorem dX4_trace_69 : decode cX4_trace 69 = .ok (.getfield 38, 3) := by decide +kernel
theorem dX4_trace_72 : decode cX4_trace 72 = .ok (.iload_n 3, 1) := by decide +kernel
theorem dX4_trace_73 : decode cX4_trace 73 = .ok (.baload, 1) := by decide +kernel
theorem dX4_trace_74 : decode cX4_trace 74 = .ok (.ifCond .eq 16, 3) := by decide +kernel
theorem dX4_trace_77 : decode cX4_trace 77 = .ok (.aload_n 0, 1) := by decide +kernel
theorem dX4_trace_78 : decode cX4_trace 78 = .ok (.aload_n 0, 1) := by decide +kernel
theorem dX4_trace_79 : decode cX4_trace 79 = .ok (.getfield 26, 3) := by decide +kernel
theorem dX4_trace_82 : decode cX4_trace 82 = .ok (.iload_n 3, 1) := by decide +kernel
theorem dX4_trace_83 : decode cX4_trace 83 = .ok (.iaload, 1) := by decide +kernel
theorem dX4_trace_84 : decode cX4_trace 84 = .ok (.invokevirtual 109, 3) := by decide +kernel
theorem dX4_trace_87 : decode cX4_trace 87 = .ok (.ifCond .ne 7, 3) := by decide +kernel
theorem dX4_trace_90 : decode cX4_trace 90 = .ok (.iload_n 2, 1) := by decide +kernel
theorem dX4_trace_91 : decode cX4_trace 91 = .ok (.ifCond .eq 7, 3) := by decide +kernel
theorem dX4_trace_94 : decode cX4_trace 94 = .ok (.iconst 1, 1) := by decide +kernel
theorem dX4_trace_95 : decode cX4_trace 95 = .ok (.goto 4, 3) := by decide +kernel
theorem dX4_trace_98 : decode cX4_trace 98 = .ok (.iconst 0, 1) := by decide +kernel
theorem dX4_trace_99 : decode cX4_trace 99 = .ok (.istore_n 2, 1) := by decide +kernel
theorem dX4_trace_100 : decode cX4_trace 100 = .ok (.iinc 3 1, 3) := by decide +kernel
theorem dX4_trace_103 : decode cX4_trace 103 = .ok (.goto (-42), 3) := by decide +kernel
theorem dX4_trace_106 : decode cX4_trace 106 = .ok (.iconst 0, 1) := by decide +kernel
theorem dX4_trace_107 : decode cX4_trace 107 = .ok (.istore_n 3, 1) := by decide +kernel
theorem dX4_trace_108 : decode cX4_trace 108 = .ok (.iload_n 3, 1) := by decide +kernel
theorem dX4_trace_109 : decode cX4_trace 109 = .ok (.sipush 4032, 3) := by decide +kernel
theorem dX4_trace_112 : decode cX4_trace 112 = .ok (.if_icmp .ge 41, 3) := by decide +kernel
theorem dX4_trace_115 : decode cX4_trace 115 = .ok (.aload_n 0, 1) := by decide +kernel
theorem dX4_trace_116 : decode cX4_trace 116 = .ok (.getfield 38, 3) := by decide +kernel
theorem dX4_trace_119 : decode cX4_trace 119 = .ok (.iload_n 3, 1) := by decide +kernel
theorem dX4_trace_120 : decode cX4_trace 120 = .ok (.baload, 1) := by decide +kernel
theorem dX4_trace_121 : decode cX4_trace 121 = .ok (.ifCond .eq 16, 3) := by decide +kernel
theorem dX4_trace_124 : decode cX4_trace 124 = .ok (.aload_n 0, 1) := by decide +kernel
theorem dX4_trace_125 : decode cX4_trace 125 = .ok (.aload_n 0, 1) := by decide +kernel
theorem dX4_trace_126 : decode cX4_trace 126 = .ok (.getfield 29, 3) := by decide +kernel
theorem dX4_trace_129 : decode cX4_trace 129 = .ok (.iload_n 3, 1) := by decide +kernel
theorem dX4_trace_130 : decode cX4_trace 130 = .ok (.iaload, 1) := by decide +kernel
theorem dX4_trace_131 : decode cX4_trace 131 = .ok (.invokevirtual 109, 3) := by decide +kernel
theorem dX4_trace_134 : decode cX4_trace 134 = .ok (.ifCond .ne 7, 3) := by decide +kernel
theorem dX4_trace_137 : decode cX4_trace 137 = .ok (.iload_n 2, 1) := by decide +kernel
theorem dX4_trace_138 : decode cX4_trace 138 = .ok (.ifCond .eq 7, 3) := by decide +kernel
theorem dX4_trace_141 : decode cX4_trace 141 = .ok (.iconst 1, 1) := by decide +kernel
theorem dX4_trace_142 : decode cX4_trace 142 = .ok (.goto 4, 3) := by decide +kernel
theorem dX4_trace_145 : decode cX4_trace 145 = .ok (.iconst 0, 1) := by decide +kernel
theorem dX4_trace_146 : decode cX4_trace 146 = .ok (.istore_n 2, 1) := by decide +kernel
theorem dX4_trace_147 : decode cX4_trace 147 = .ok (.iinc 3 1, 3) := by decide +kernel
theorem dX4_trace_150 : decode cX4_trace 150 = .ok (.goto (-42), 3) := by decide +kernel
theorem dX4_trace_153 : decode cX4_trace 153 = .ok (.goto (-100), 3) := by decide +kernel
theorem dX4_trace_156 : decode cX4_trace 156 = .ok (.iconst 0, 1) := by decide +kernel
theorem dX4_trace_157 : decode cX4_trace 157 = .ok (.istore_n 3, 1) := by decide +kernel
theorem dX4_trace_158 : decode cX4_trace 158 = .ok (.iload_n 3, 1) := by decide +kernel
theorem dX4_trace_159 : decode cX4_trace 159 = .ok (.aload_n 0, 1) := by decide +kernel
theorem dX4_trace_160 : decode cX4_trace 160 = .ok (.getfield 97, 3) := by decide +kernel
theorem dX4_trace_163 : decode cX4_trace 163 = .ok (.if_icmp .ge 51, 3) := by decide +kernel
theorem dX4_trace_166 : decode cX4_trace 166 = .ok (.aload_n 0, 1) := by decide +kernel
theorem dX4_trace_167 : decode cX4_trace 167 = .ok (.getfield 38, 3) := by decide +kernel
theorem dX4_trace_170 : decode cX4_trace 170 = .ok (.aload_n 0, 1) := by decide +kernel
theorem dX4_trace_171 : decode cX4_trace 171 = .ok (.getfield 32, 3) := by decide +kernel
theorem dX4_trace_174 : decode cX4_trace 174 = .ok (.iload_n 3, 1) := by decide +kernel
theorem dX4_trace_175 : decode cX4_trace 175 = .ok (.iaload, 1) := by decide +kernel
theorem dX4_trace_176 : decode cX4_trace 176 = .ok (.baload, 1) := by decide +kernel
theorem dX4_trace_177 : decode cX4_trace 177 = .ok (.ifCond .ne 6, 3) := by decide +kernel
theorem dX4_trace_180 : decode cX4_trace 180 = .ok (.goto 28, 3) := by decide +kernel
theorem dX4_trace_183 : decode cX4_trace 183 = .ok (.aload_n 0, 1) := by decide +kernel
theorem dX4_trace_184 : decode cX4_trace 184 = .ok (.getfield 35, 3) := by decide +kernel
theorem dX4_trace_187 : decode cX4_trace 187 = .ok (.aload_n 0, 1) := by decide +kernel
theorem dX4_trace_188 : decode cX4_trace 188 = .ok (.getfield 106, 3) := by decide +kernel
theorem dX4_trace_191 : decode cX4_trace 191 = .ok (.aload_n 0, 1) := by decide +kernel
theorem dX4_trace_192 : decode cX4_trace 192 = .ok (.getfield 32, 3) := by decide +kernel
theorem dX4_trace_195 : decode cX4_trace 195 = .ok (.iload_n 3, 1) := by decide +kernel
theorem dX4_trace_196 : decode cX4_trace 196 = .ok (.iaload, 1) := by decide +kernel
theorem dX4_trace_197 : decode cX4_trace 197 = .ok (.iastore, 1) := by decide +kernel
theorem dX4_trace_198 : decode cX4_trace 198 = .ok (.aload_n 0, 1) := by decide +kernel
theorem dX4_trace_199 : decode cX4_trace 199 = .ok (.dup, 1) := by decide +kernel
theorem dX4_trace_200 : decode cX4_trace 200 = .ok (.getfield 106, 3) := by decide +kernel
theorem dX4_trace_203 : decode cX4_trace 203 = .ok (.iconst 1, 1) := by decide +kernel
theorem dX4_trace_204 : decode cX4_trace 204 = .ok (.iadd, 1) := by decide +kernel
theorem dX4_trace_205 : decode cX4_trace 205 = .ok (.putfield 106, 3) := by decide +kernel
theorem dX4_trace_208 : decode cX4_trace 208 = .ok (.iinc 3 1, 3) := by decide +kernel
theorem dX4_trace_211 : decode cX4_trace 211 = .ok (.goto (-53), 3) := by decide +kernel
theorem dX4_trace_214 : decode cX4_trace 214 = .ok (.aload_n 0, 1) := by decide +kernel
theorem dX4_trace_215 : decode cX4_trace 215 = .ok (.getfield 106, 3) := by decide +kernel
theorem dX4_trace_218 : decode cX4_trace 218 = .ok (.ireturn, 1) := by decide +kernel
theorem dX4_want_0 : decode cX4_want 0 = .ok (.iload_n 1, 1) := by decide +kernel
theorem dX4_want_1 : decode cX4_want 1 = .ok (.ifCond .lt 12, 3) := by decide +kernel
theorem dX4_want_4 : decode cX4_want 4 = .ok (.aload_n 0, 1) := by decide +kernel
theorem dX4_want_5 : decode cX4_want 5 = .ok (.getfield 38, 3) := by decide +kernel
theorem dX4_want_8 : decode cX4_want 8 = .ok (.iload_n 1, 1) := by decide +kernel
theorem dX4_want_9 : decode cX4_want 9 = .ok (.baload, 1) := by decide +kernel
theorem dX4_want_10 : decode cX4_want 10 = .ok (.ifCond .eq 5, 3) := by decide +kernel
theorem dX4_want_13 : decode cX4_want 13 = .ok (.iconst 0, 1) := by decide +kernel
theorem dX4_want_14 : decode cX4_want 14 = .ok (.ireturn, 1) := by decide +kernel
theorem dX4_want_15 : decode cX4_want 15 = .ok (.aload_n 0, 1) := by decide +kernel
theorem dX4_want_16 : decode cX4_want 16 = .ok (.getfield 38, 3) := by decide +kernel
theorem dX4_want_19 : decode cX4_want 19 = .ok (.iload_n 1, 1) := by decide +kernel
theorem dX4_want_20 : decode cX4_want 20 = .ok (.iconst 1, 1) := by decide +kernel
theorem dX4_want_21 : decode cX4_want 21 = .ok (.bastore, 1) := by decide +kernel
theorem dX4_want_22 : decode cX4_want 22 = .ok (.iconst 1, 1) := by decide +kernel
theorem dX4_want_23 : decode cX4_want 23 = .ok (.ireturn, 1) := by decide +kernel
theorem dX4_row_0 : decode cX4_row 0 = .ok (.aload_n 0, 1) := by decide +kernel
theorem dX4_row_1 : decode cX4_row 1 = .ok (.iconst 0, 1) := by decide +kernel
theorem dX4_row_2 : decode cX4_row 2 = .ok (.putfield 1, 3) := by decide +kernel
theorem dX4_row_5 : decode cX4_row 5 = .ok (.iload_n 1, 1) := by decide +kernel
theorem dX4_row_6 : decode cX4_row 6 = .ok (.ifCond .lt 20, 3) := by decide +kernel
theorem dX4_row_9 : decode cX4_row 9 = .ok (.iload_n 1, 1) := by decide +kernel
theorem dX4_row_10 : decode cX4_row 10 = .ok (.aload_n 0, 1) := by decide +kernel
theorem dX4_row_11 : decode cX4_row 11 = .ok (.getfield 106, 3) := by decide +kernel
theorem dX4_row_14 : decode cX4_row 14 = .ok (.if_icmp .ge 12, 3) := by decide +kernel
theorem dX4_row_17 : decode cX4_row 17 = .ok (.aload_n 0, 1) := by decide +kernel
theorem dX4_row_18 : decode cX4_row 18 = .ok (.getfield 35, 3) := by decide +kernel
theorem dX4_row_21 : decode cX4_row 21 = .ok (.iload_n 1, 1) := by decide +kernel
theorem dX4_row_22 : decode cX4_row 22 = .ok (.iaload, 1) := by decide +kernel
theorem dX4_row_23 : decode cX4_row 23 = .ok (.goto 4, 3) := by decide +kernel
theorem dX4_row_26 : decode cX4_row 26 = .ok (.iconst (-1), 1) := by decide +kernel
theorem dX4_row_27 : decode cX4_row 27 = .ok (.ireturn, 1) := by decide +kernel
set_option maxRecDepth 20000 in
theorem ggX4_empty_X4_sub : GoodIn wsX4_empty wsX4_sub := goodIn_r _ [6, 1, 7, 8, 9, 5, 10, 11, 12, 13, 14, 15, 16, 17, 18, 19, 20, 21, 22, 23, 24, 25, 26, 27, 28, 29, 30, 31, 32, 33, 34, 35, 36, 37, 38, 39, 40, 41, 42, 43, 44, 45, 46, 47, 48, 49, 50, 51, 52, 53, 54, 55, 56, 57, 58, 59, 60, 61, 62, 63, 64, 65, 66, 67, 68, 69, 70, 71, 72] (by decide +kernel) (by decide +kernel)
set_option maxRecDepth 20000 in
theorem gX4_empty_X4_sub : GoodIn wsX4_empty (wsV RX4 112 RX4 yX4_sub wsX4_sub) := goodIn_app (goodIn_of _ (by decide +kernel)) ggX4_empty_X4_sub
theorem dX4_empty_0 : decode cX4_empty 0 = .ok (.aload_n 0, 1) := by decide +kernel
theorem dX4_empty_1 : decode cX4_empty 1 = .ok (.iconst 0, 1) := by decide +kernel
theorem dX4_empty_2 : decode cX4_empty 2 = .ok (.putfield 1, 3) := by decide +kernel
theorem dX4_empty_5 : decode cX4_empty 5 = .ok (.aload_n 0, 1) := by decide +kernel
theorem dX4_empty_6 : decode cX4_empty 6 = .ok (.iload_n 1, 1) := by decide +kernel
theorem dX4_empty_7 : decode cX4_empty 7 = .ok (.iconst 1, 1) := by decide +kernel
theorem dX4_empty_8 : decode cX4_empty 8 = .ok (.invokevirtual 112, 3) := by decide +kernel
theorem dX4_empty_11 : decode cX4_empty 11 = .ok (.ireturn, 1) := by decide +kernel
set_option maxRecDepth 20000 in
theorem ggX4_both_X4_code : GoodIn wsX4_both wsX4_code := goodIn_r _ [4] (by decide +kernel) (by decide +kernel)
set_option maxRecDepth 20000 in
theorem gX4_both_X4_code : GoodIn wsX4_both (va_wsS RX4 73 yX4_code wsX4_code) := goodIn_app (goodIn_of _ (by decide +kernel)) ggX4_both_X4_code
set_option maxRecDepth 20000 in
theorem ggX4_both_X4_follows : GoodIn wsX4_both wsX4_follows := goodIn_r _ [8, 9, 10, 11, 12, 3, 13, 14, 15, 16, 17, 18, 19, 20, 21, 1, 2, 4, 22, 23, 24, 25, 26, 27, 28, 29, 30, 31, 32, 33, 34, 35, 36, 37, 38, 39, 40, 41, 42, 43, 44, 45, 46, 47, 48, 49, 50, 51, 52, 53, 54, 55, 56, 57, 58, 59, 60, 61, 62, 63] (by decide +kernel) (by decide +kernel)
set_option maxRecDepth 20000 in
theorem gX4_both_X4_follows : GoodIn wsX4_both (wsV RX4 103 RX4 yX4_follows wsX4_follows) := goodIn_app (goodIn_of _ (by decide +kernel)) ggX4_both_X4_follows
theorem dX4_both_0 : decode cX4_both 0 = .ok (.aload_n 0, 1) := by decide +kernel
theorem dX4_both_1 : decode cX4_both 1 = .ok (.iload_n 1, 1) := by decide +kernel
theorem dX4_both_2 : decode cX4_both 2 = .ok (.iload_n 2, 1) := by decide +kernel
theorem dX4_both_3 : decode cX4_both 3 = .ok (.invokestatic 73, 3) := by decide +kernel
theorem dX4_both_6 : decode cX4_both 6 = .ok (.invokevirtual 103, 3) := by decide +kernel
theorem dX4_both_9 : decode cX4_both 9 = .ok (.ifCond .eq 19, 3) := by decide +kernel
theorem dX4_both_12 : decode cX4_both 12 = .ok (.aload_n 0, 1) := by decide +kernel
theorem dX4_both_13 : decode cX4_both 13 = .ok (.iload_n 2, 1) := by decide +kernel
theorem dX4_both_14 : decode cX4_both 14 = .ok (.iload_n 1, 1) := by decide +kernel
theorem dX4_both_15 : decode cX4_both 15 = .ok (.invokestatic 73, 3) := by decide +kernel
theorem dX4_both_18 : decode cX4_both 18 = .ok (.invokevirtual 103, 3) := by decide +kernel
theorem dX4_both_21 : decode cX4_both 21 = .ok (.ifCond .eq 7, 3) := by decide +kernel
theorem dX4_both_24 : decode cX4_both 24 = .ok (.iconst 1, 1) := by decide +kernel
theorem dX4_both_25 : decode cX4_both 25 = .ok (.goto 4, 3) := by decide +kernel
theorem dX4_both_28 : decode cX4_both 28 = .ok (.iconst 0, 1) := by decide +kernel
theorem dX4_both_29 : decode cX4_both 29 = .ok (.ireturn, 1) := by decide +kernel
set_option maxRecDepth 20000 in
theorem ggX4_same_X4_isClass : GoodIn wsX4_same wsX4_isClass := goodIn_r _ [6, 7, 57, 58, 59, 60, 61, 62, 63, 64, 65, 66, 67, 68, 69, 70, 71, 72] (by decide +kernel) (by decide +kernel)
set_option maxRecDepth 20000 in
theorem gX4_same_X4_isClass : GoodIn wsX4_same (wsV RX4 46 RX4 yX4_isClass wsX4_isClass) := goodIn_app (goodIn_of _ (by decide +kernel)) ggX4_same_X4_isClass
set_option maxRecDepth 20000 in
theorem ggX4_same_X4_both : GoodIn wsX4_same wsX4_both := goodIn_r _ [11, 12, 13, 5, 14, 15, 16, 17, 18, 19, 20, 21, 22, 23, 24, 7, 25, 26, 27, 28, 29, 30, 31, 32, 33, 34, 35, 36, 37, 38, 39, 40, 41, 42, 43, 44, 45, 46, 47, 48, 49, 50, 51, 52, 53, 54, 55, 56, 57, 58, 59, 60, 61, 62, 63, 64, 65, 66, 67, 68, 69, 70, 71, 72] (by decide +kernel) (by decide +kernel)
set_option maxRecDepth 20000 in
theorem gX4_same_X4_both : GoodIn wsX4_same (wsV RX4 115 RX4 yX4_both wsX4_both) := goodIn_app (goodIn_of _ (by decide +kernel)) ggX4_same_X4_both
theorem dX4_same_0 : decode cX4_same 0 = .ok (.aload_n 0, 1) := by decide +kernel
theorem dX4_same_1 : decode cX4_same 1 = .ok (.iconst 0, 1) := by decide +kernel
theorem dX4_same_2 : decode cX4_same 2 = .ok (.putfield 1, 3) := by decide +kernel
theorem dX4_same_5 : decode cX4_same 5 = .ok (.aload_n 0, 1) := by decide +kernel
theorem dX4_same_6 : decode cX4_same 6 = .ok (.iload_n 1, 1) := by decide +kernel
theorem dX4_same_7 : decode cX4_same 7 = .ok (.invokevirtual 46, 3) := by decide +kernel
theorem dX4_same_10 : decode cX4_same 10 = .ok (.ifCond .ne 5, 3) := by decide +kernel
theorem dX4_same_13 : decode cX4_same 13 = .ok (.iconst (-1), 1) := by decide +kernel
theorem dX4_same_14 : decode cX4_same 14 = .ok (.ireturn, 1) := by decide +kernel
theorem dX4_same_15 : decode cX4_same 15 = .ok (.iconst 0, 1) := by decide +kernel
theorem dX4_same_16 : decode cX4_same 16 = .ok (.istore_n 2, 1) := by decide +kernel
theorem dX4_same_17 : decode cX4_same 17 = .ok (.aload_n 0, 1) := by decide +kernel
theorem dX4_same_18 : decode cX4_same 18 = .ok (.iload_n 1, 1) := by decide +kernel
theorem dX4_same_19 : decode cX4_same 19 = .ok (.iload_n 2, 1) := by decide +kernel
theorem dX4_same_20 : decode cX4_same 20 = .ok (.invokevirtual 115, 3) := by decide +kernel
theorem dX4_same_23 : decode cX4_same 23 = .ok (.ifCond .ne 9, 3) := by decide +kernel
theorem dX4_same_26 : decode cX4_same 26 = .ok (.iinc 2 1, 3) := by decide +kernel
theorem dX4_same_29 : decode cX4_same 29 = .ok (.goto (-12), 3) := by decide +kernel
theorem dX4_same_32 : decode cX4_same 32 = .ok (.iload_n 2, 1) := by decide +kernel
theorem dX4_same_33 : decode cX4_same 33 = .ok (.ireturn, 1) := by decide +kernel
set_option maxRecDepth 20000 in
theorem ggX4_isAbove_X4_code : GoodIn wsX4_isAbove wsX4_code := goodIn_r _ [4] (by decide +kernel) (by decide +kernel)
set_option maxRecDepth 20000 in
theorem gX4_isAbove_X4_code : GoodIn wsX4_isAbove (va_wsS RX4 73 yX4_code wsX4_code) := goodIn_app (goodIn_of _ (by decide +kernel)) ggX4_isAbove_X4_code
set_option maxRecDepth 20000 in
theorem ggX4_isAbove_X4_follows : GoodIn wsX4_isAbove wsX4_follows := goodIn_r _ [8, 9, 10, 11, 12, 3, 13, 14, 15, 16, 17, 18, 19, 20, 21, 1, 2, 4, 22, 23, 24, 25, 26, 27, 28, 29, 30, 31, 32, 33, 34, 35, 36, 37, 38, 39, 40, 41, 42, 43, 44, 45, 46, 47, 52, 53, 54, 55, 56, 57, 58, 59, 60, 61, 62, 63, 64, 65, 66, 67] (by decide +kernel) (by decide +kernel)
set_option maxRecDepth 20000 in
theorem gX4_isAbove_X4_follows : GoodIn wsX4_isAbove (wsV RX4 103 RX4 yX4_follows wsX4_follows) := goodIn_app (goodIn_of _ (by decide +kernel)) ggX4_isAbove_X4_follows
set_option maxRecDepth 20000 in
theorem ggX4_isAbove_X4_both : GoodIn wsX4_isAbove wsX4_both := goodIn_r _ [51, 1, 2, 3, 4, 5, 6, 7, 8, 9, 10, 11, 12, 13, 14, 15, 16, 17, 18, 19, 20, 21, 22, 23, 24, 25, 26, 27, 28, 29, 30, 31, 32, 33, 34, 35, 36, 37, 38, 39, 40, 41, 42, 43, 44, 45, 46, 47, 52, 53, 54, 55, 56, 57, 58, 59, 60, 61, 62, 63, 64, 65, 66, 67] (by decide +kernel) (by decide +kernel)
set_option maxRecDepth 20000 in
theorem gX4_isAbove_X4_both : GoodIn wsX4_isAbove (wsV RX4 115 RX4 yX4_both wsX4_both) := goodIn_app (goodIn_of _ (by decide +kernel)) ggX4_isAbove_X4_both
theorem dX4_isAbove_0 : decode cX4_isAbove 0 = .ok (.aload_n 0, 1) := by decide +kernel
theorem dX4_isAbove_1 : decode cX4_isAbove 1 = .ok (.iload_n 1, 1) := by decide +kernel
theorem dX4_isAbove_2 : decode cX4_isAbove 2 = .ok (.iload_n 2, 1) := by decide +kernel
theorem dX4_isAbove_3 : decode cX4_isAbove 3 = .ok (.invokestatic 73, 3) := by decide +kernel
theorem dX4_isAbove_6 : decode cX4_isAbove 6 = .ok (.invokevirtual 103, 3) := by decide +kernel
theorem dX4_isAbove_9 : decode cX4_isAbove 9 = .ok (.ifCond .eq 16, 3) := by decide +kernel
theorem dX4_isAbove_12 : decode cX4_isAbove 12 = .ok (.aload_n 0, 1) := by decide +kernel
theorem dX4_isAbove_13 : decode cX4_isAbove 13 = .ok (.iload_n 1, 1) := by decide +kernel
theorem dX4_isAbove_14 : decode cX4_isAbove 14 = .ok (.iload_n 2, 1) := by decide +kernel
theorem dX4_isAbove_15 : decode cX4_isAbove 15 = .ok (.invokevirtual 115, 3) := by decide +kernel
theorem dX4_isAbove_18 : decode cX4_isAbove 18 = .ok (.ifCond .ne 7, 3) := by decide +kernel
theorem dX4_isAbove_21 : decode cX4_isAbove 21 = .ok (.iconst 1, 1) := by decide +kernel
theorem dX4_isAbove_22 : decode cX4_isAbove 22 = .ok (.goto 4, 3) := by decide +kernel
theorem dX4_isAbove_25 : decode cX4_isAbove 25 = .ok (.iconst 0, 1) := by decide +kernel
theorem dX4_isAbove_26 : decode cX4_isAbove 26 = .ok (.ireturn, 1) := by decide +kernel
set_option maxRecDepth 20000 in
theorem ggX4_isParent_X4_isAbove : GoodIn wsX4_isParent wsX4_isAbove := goodIn_r _ [6, 7, 8, 5, 9, 10, 11, 12, 13, 14, 15, 16, 17, 18, 19, 1, 20, 21, 22, 23, 24, 25, 26, 27, 28, 29, 30, 31, 32, 33, 34, 35, 36, 37, 38, 39, 40, 41, 42, 43, 44, 45, 46, 47, 48, 49, 50, 51, 52, 53, 54, 55, 65, 66, 67, 68, 69, 70, 71, 72, 73, 74, 75, 76, 77, 78, 79, 80] (by decide +kernel) (by decide +kernel)
set_option maxRecDepth 20000 in
theorem gX4_isParent_X4_isAbove : GoodIn wsX4_isParent (wsV RX4 118 RX4 yX4_isAbove wsX4_isAbove) := goodIn_app (goodIn_of _ (by decide +kernel)) ggX4_isParent_X4_isAbove
set_option maxRecDepth 20000 in
theorem ggX4_isParent_X4_same : GoodIn wsX4_isParent wsX4_same := goodIn_r _ [59, 60, 61, 62, 63, 5, 64, 1, 52, 53, 54, 55, 7, 8, 9, 10, 11, 12, 13, 14, 15, 16, 17, 18, 19, 20, 21, 22, 23, 24, 25, 26, 27, 28, 29, 30, 31, 32, 33, 34, 35, 36, 37, 38, 39, 40, 41, 42, 43, 44, 45, 46, 47, 48, 49, 50, 51, 65, 66, 67, 68, 69, 70, 71, 72, 73, 74, 75, 76, 77, 78, 79, 80] (by decide +kernel) (by decide +kernel)
set_option maxRecDepth 20000 in
theorem gX4_isParent_X4_same : GoodIn wsX4_isParent (wsV RX4 121 RX4 yX4_same wsX4_same) := goodIn_app (goodIn_of _ (by decide +kernel)) ggX4_isParent_X4_same
theorem dX4_isParent_0 : decode cX4_isParent 0 = .ok (.aload_n 0, 1) := by decide +kernel
theorem dX4_isParent_1 : decode cX4_isParent 1 = .ok (.iload_n 1, 1) := by decide +kernel
theorem dX4_isParent_2 : decode cX4_isParent 2 = .ok (.iload_n 2, 1) := by decide +kernel
theorem dX4_isParent_3 : decode cX4_isParent 3 = .ok (.invokevirtual 118, 3) := by decide +kernel
theorem dX4_isParent_6 : decode cX4_isParent 6 = .ok (.ifCond .eq 12, 3) := by decide +kernel
theorem dX4_isParent_9 : decode cX4_isParent 9 = .ok (.aload_n 0, 1) := by decide +kernel
theorem dX4_isParent_10 : decode cX4_isParent 10 = .ok (.iload_n 2, 1) := by decide +kernel
theorem dX4_isParent_11 : decode cX4_isParent 11 = .ok (.invokevirtual 121, 3) := by decide +kernel
theorem dX4_isParent_14 : decode cX4_isParent 14 = .ok (.iload_n 2, 1) := by decide +kernel
theorem dX4_isParent_15 : decode cX4_isParent 15 = .ok (.if_icmp .eq 5, 3) := by decide +kernel
theorem dX4_isParent_18 : decode cX4_isParent 18 = .ok (.iconst 0, 1) := by decide +kernel
theorem dX4_isParent_19 : decode cX4_isParent 19 = .ok (.ireturn, 1) := by decide +kernel
theorem dX4_isParent_20 : decode cX4_isParent 20 = .ok (.iconst 0, 1) := by decide +kernel
theorem dX4_isParent_21 : decode cX4_isParent 21 = .ok (.istore_n 3, 1) := by decide +kernel
theorem dX4_isParent_22 : decode cX4_isParent 22 = .ok (.iload_n 3, 1) := by decide +kernel
theorem dX4_isParent_23 : decode cX4_isParent 23 = .ok (.aload_n 0, 1) := by decide +kernel
theorem dX4_isParent_24 : decode cX4_isParent 24 = .ok (.getfield 13, 3) := by decide +kernel
theorem dX4_isParent_27 : decode cX4_isParent 27 = .ok (.if_icmp .ge 29, 3) := by decide +kernel
theorem dX4_isParent_30 : decode cX4_isParent 30 = .ok (.aload_n 0, 1) := by decide +kernel
theorem dX4_isParent_31 : decode cX4_isParent 31 = .ok (.iload_n 1, 1) := by decide +kernel
theorem dX4_isParent_32 : decode cX4_isParent 32 = .ok (.iload_n 3, 1) := by decide +kernel
theorem dX4_isParent_33 : decode cX4_isParent 33 = .ok (.invokevirtual 118, 3) := by decide +kernel
theorem dX4_isParent_36 : decode cX4_isParent 36 = .ok (.ifCond .eq 14, 3) := by decide +kernel
theorem dX4_isParent_39 : decode cX4_isParent 39 = .ok (.aload_n 0, 1) := by decide +kernel
theorem dX4_isParent_40 : decode cX4_isParent 40 = .ok (.iload_n 3, 1) := by decide +kernel
theorem dX4_isParent_41 : decode cX4_isParent 41 = .ok (.iload_n 2, 1) := by decide +kernel
theorem dX4_isParent_42 : decode cX4_isParent 42 = .ok (.invokevirtual 118, 3) := by decide +kernel
theorem dX4_isParent_45 : decode cX4_isParent 45 = .ok (.ifCond .eq 5, 3) := by decide +kernel
theorem dX4_isParent_48 : decode cX4_isParent 48 = .ok (.iconst 0, 1) := by decide +kernel
theorem dX4_isParent_49 : decode cX4_isParent 49 = .ok (.ireturn, 1) := by decide +kernel
theorem dX4_isParent_50 : decode cX4_isParent 50 = .ok (.iinc 3 1, 3) := by decide +kernel
theorem dX4_isParent_53 : decode cX4_isParent 53 = .ok (.goto (-31), 3) := by decide +kernel
theorem dX4_isParent_56 : decode cX4_isParent 56 = .ok (.iconst 1, 1) := by decide +kernel
theorem dX4_isParent_57 : decode cX4_isParent 57 = .ok (.ireturn, 1) := by decide +kernel
set_option maxRecDepth 20000 in
theorem ggX4_parent_X4_isClass : GoodIn wsX4_parent wsX4_isClass := goodIn_r _ [7, 2, 69, 70, 71, 72, 73, 74, 75, 76, 77, 78, 79, 80, 81, 82, 83, 84] (by decide +kernel) (by decide +kernel)
set_option maxRecDepth 20000 in
theorem gX4_parent_X4_isClass : GoodIn wsX4_parent (wsV RX4 46 RX4 yX4_isClass wsX4_isClass) := goodIn_app (goodIn_of _ (by decide +kernel)) ggX4_parent_X4_isClass
set_option maxRecDepth 20000 in
theorem ggX4_parent_X4_code : GoodIn wsX4_parent wsX4_code := goodIn_r _ [10] (by decide +kernel) (by decide +kernel)
set_option maxRecDepth 20000 in
theorem gX4_parent_X4_code : GoodIn wsX4_parent (va_wsS RX4 73 yX4_code wsX4_code) := goodIn_app (goodIn_of _ (by decide +kernel)) ggX4_parent_X4_code
set_option maxRecDepth 20000 in
theorem ggX4_parent_X4_follows : GoodIn wsX4_parent wsX4_follows := goodIn_r _ [14, 15, 16, 17, 18, 6, 19, 20, 2, 21, 22, 23, 24, 25, 26, 8, 9, 10, 27, 28, 29, 30, 31, 32, 33, 34, 35, 36, 37, 38, 39, 40, 41, 42, 43, 44, 45, 46, 47, 48, 49, 50, 51, 52, 69, 70, 71, 72, 73, 74, 75, 76, 77, 78, 79, 80, 81, 82, 83, 84] (by decide +kernel) (by decide +kernel)
set_option maxRecDepth 20000 in
theorem gX4_parent_X4_follows : GoodIn wsX4_parent (wsV RX4 103 RX4 yX4_follows wsX4_follows) := goodIn_app (goodIn_of _ (by decide +kernel)) ggX4_parent_X4_follows
set_option maxRecDepth 20000 in
theorem ggX4_parent_X4_isParent : GoodIn wsX4_parent wsX4_isParent := goodIn_r _ [56, 2, 57, 58, 59, 6, 60, 8, 9, 10, 11, 12, 13, 14, 15, 16, 17, 18, 19, 20, 21, 22, 23, 24, 25, 26, 27, 28, 29, 30, 31, 32, 33, 34, 35, 36, 37, 38, 39, 40, 41, 42, 43, 44, 45, 46, 47, 48, 49, 50, 51, 52, 61, 62, 63, 64, 65, 66, 67, 68, 1, 3, 4, 5, 7, 69, 70, 71, 72, 73, 74, 75, 76, 77, 78, 79, 80, 81, 82, 83, 84] (by decide +kernel) (by decide +kernel)
set_option maxRecDepth 20000 in
theorem gX4_parent_X4_isParent : GoodIn wsX4_parent (wsV RX4 124 RX4 yX4_isParent wsX4_isParent) := goodIn_app (goodIn_of _ (by decide +kernel)) ggX4_parent_X4_isParent
theorem dX4_parent_0 : decode cX4_parent 0 = .ok (.aload_n 0, 1) := by decide +kernel
theorem dX4_parent_1 : decode cX4_parent 1 = .ok (.iconst 0, 1) := by decide +kernel
theorem dX4_parent_2 : decode cX4_parent 2 = .ok (.putfield 1, 3) := by decide +kernel
theorem dX4_parent_5 : decode cX4_parent 5 = .ok (.aload_n 0, 1) := by decide +kernel
theorem dX4_parent_6 : decode cX4_parent 6 = .ok (.iload_n 1, 1) := by decide +kernel
theorem dX4_parent_7 : decode cX4_parent 7 = .ok (.invokevirtual 46, 3) := by decide +kernel
theorem dX4_parent_10 : decode cX4_parent 10 = .ok (.ifCond .eq 19, 3) := by decide +kernel
theorem dX4_parent_13 : decode cX4_parent 13 = .ok (.iload_n 2, 1) := by decide +kernel
theorem dX4_parent_14 : decode cX4_parent 14 = .ok (.ifCond .lt 15, 3) := by decide +kernel
theorem dX4_parent_17 : decode cX4_parent 17 = .ok (.aload_n 0, 1) := by decide +kernel
theorem dX4_parent_18 : decode cX4_parent 18 = .ok (.iload_n 1, 1) := by decide +kernel
theorem dX4_parent_19 : decode cX4_parent 19 = .ok (.iconst 1, 1) := by decide +kernel
theorem dX4_parent_20 : decode cX4_parent 20 = .ok (.invokestatic 73, 3) := by decide +kernel
theorem dX4_parent_23 : decode cX4_parent 23 = .ok (.invokevirtual 103, 3) := by decide +kernel
theorem dX4_parent_26 : decode cX4_parent 26 = .ok (.ifCond .eq 5, 3) := by decide +kernel
theorem dX4_parent_29 : decode cX4_parent 29 = .ok (.iconst (-1), 1) := by decide +kernel
theorem dX4_parent_30 : decode cX4_parent 30 = .ok (.ireturn, 1) := by decide +kernel
theorem dX4_parent_31 : decode cX4_parent 31 = .ok (.iload_n 2, 1) := by decide +kernel
theorem dX4_parent_32 : decode cX4_parent 32 = .ok (.istore_n 3, 1) := by decide +kernel
theorem dX4_parent_33 : decode cX4_parent 33 = .ok (.iconst 0, 1) := by decide +kernel
theorem dX4_parent_34 : decode cX4_parent 34 = .ok (.istore 4, 2) := by decide +kernel
theorem dX4_parent_36 : decode cX4_parent 36 = .ok (.iload 4, 2) := by decide +kernel
theorem dX4_parent_38 : decode cX4_parent 38 = .ok (.aload_n 0, 1) := by decide +kernel
theorem dX4_parent_39 : decode cX4_parent 39 = .ok (.getfield 13, 3) := by decide +kernel
theorem dX4_parent_42 : decode cX4_parent 42 = .ok (.if_icmp .ge 32, 3) := by decide +kernel
theorem dX4_parent_45 : decode cX4_parent 45 = .ok (.aload_n 0, 1) := by decide +kernel
theorem dX4_parent_46 : decode cX4_parent 46 = .ok (.iload_n 1, 1) := by decide +kernel
theorem dX4_parent_47 : decode cX4_parent 47 = .ok (.iload 4, 2) := by decide +kernel
theorem dX4_parent_49 : decode cX4_parent 49 = .ok (.invokevirtual 124, 3) := by decide +kernel
theorem dX4_parent_52 : decode cX4_parent 52 = .ok (.ifCond .ne 6, 3) := by decide +kernel
theorem dX4_parent_55 : decode cX4_parent 55 = .ok (.goto 13, 3) := by decide +kernel
theorem dX4_parent_58 : decode cX4_parent 58 = .ok (.iload_n 3, 1) := by decide +kernel
theorem dX4_parent_59 : decode cX4_parent 59 = .ok (.ifCond .ne 6, 3) := by decide +kernel
theorem dX4_parent_62 : decode cX4_parent 62 = .ok (.iload 4, 2) := by decide +kernel
theorem dX4_parent_64 : decode cX4_parent 64 = .ok (.ireturn, 1) := by decide +kernel
theorem dX4_parent_65 : decode cX4_parent 65 = .ok (.iinc 3 (-1), 3) := by decide +kernel
theorem dX4_parent_68 : decode cX4_parent 68 = .ok (.iinc 4 1, 3) := by decide +kernel
theorem dX4_parent_71 : decode cX4_parent 71 = .ok (.goto (-35), 3) := by decide +kernel
theorem dX4_parent_74 : decode cX4_parent 74 = .ok (.iconst (-1), 1) := by decide +kernel
theorem dX4_parent_75 : decode cX4_parent 75 = .ok (.ireturn, 1) := by decide +kernel
theorem dJx00060_init_a7421_0 : decode cJx00060_init_a7421 0 = .ok (.aload_n 0, 1) := by decide +kernel
theorem dJx00060_init_a7421_1 : decode cJx00060_init_a7421 1 = .ok (.aload_n 1, 1) := by decide +kernel
theorem dJx00060_init_a7421_2 : decode cJx00060_init_a7421 2 = .ok (.invokespecial 7, 3) := by decide +kernel
theorem dJx00060_init_a7421_5 : decode cJx00060_init_a7421 5 = .ok (.return_, 1) := by decide +kernel
theorem dJ7_fill_d0a16_0 : decode cJ7_fill_d0a16 0 = .ok (.iconst 0, 1) := by decide +kernel
theorem dJ7_fill_d0a16_1 : decode cJ7_fill_d0a16 1 = .ok (.istore_n 3, 1) := by decide +kernel
theorem dJ7_fill_d0a16_2 : decode cJ7_fill_d0a16 2 = .ok (.aload_n 0, 1) := by decide +kernel
theorem dJ7_fill_d0a16_3 : decode cJ7_fill_d0a16 3 = .ok (.arraylength, 1) := by decide +kernel
theorem dJ7_fill_d0a16_4 : decode cJ7_fill_d0a16 4 = .ok (.istore 4, 2) := by decide +kernel
theorem dJ7_fill_d0a16_6 : decode cJ7_fill_d0a16 6 = .ok (.iload_n 3, 1) := by decide +kernel
theorem dJ7_fill_d0a16_7 : decode cJ7_fill_d0a16 7 = .ok (.iload 4, 2) := by decide +kernel
theorem dJ7_fill_d0a16_9 : decode cJ7_fill_d0a16 9 = .ok (.if_icmp .ge 13, 3) := by decide +kernel
theorem dJ7_fill_d0a16_12 : decode cJ7_fill_d0a16 12 = .ok (.aload_n 0, 1) := by decide +kernel
theorem dJ7_fill_d0a16_13 : decode cJ7_fill_d0a16 13 = .ok (.iload_n 3, 1) := by decide +kernel
theorem dJ7_fill_d0a16_14 : decode cJ7_fill_d0a16 14 = .ok (.lload_n 1, 1) := by decide +kernel
theorem dJ7_fill_d0a16_15 : decode cJ7_fill_d0a16 15 = .ok (.lastore, 1) := by decide +kernel
theorem dJ7_fill_d0a16_16 : decode cJ7_fill_d0a16 16 = .ok (.iinc 3 1, 3) := by decide +kernel
theorem dJ7_fill_d0a16_19 : decode cJ7_fill_d0a16 19 = .ok (.goto (-13), 3) := by decide +kernel
theorem dJ7_fill_d0a16_22 : decode cJ7_fill_d0a16 22 = .ok (.return_, 1) := by decide +kernel
theorem dJ7_fill_53178_0 : decode cJ7_fill_53178 0 = .ok (.iconst 0, 1) := by decide +kernel
theorem dJ7_fill_53178_1 : decode cJ7_fill_53178 1 = .ok (.istore_n 2, 1) := by decide +kernel
theorem dJ7_fill_53178_2 : decode cJ7_fill_53178 2 = .ok (.aload_n 0, 1) := by decide +kernel
theorem dJ7_fill_53178_3 : decode cJ7_fill_53178 3 = .ok (.arraylength, 1) := by decide +kernel
theorem dJ7_fill_53178_4 : decode cJ7_fill_53178 4 = .ok (.istore_n 3, 1) := by decide +kernel
theorem dJ7_fill_53178_5 : decode cJ7_fill_53178 5 = .ok (.iload_n 2, 1) := by decide +kernel
theorem dJ7_fill_53178_6 : decode cJ7_fill_53178 6 = .ok (.iload_n 3, 1) := by decide +kernel
theorem dJ7_fill_53178_7 : decode cJ7_fill_53178 7 = .ok (.if_icmp .ge 13, 3) := by decide +kernel
theorem dJ7_fill_53178_10 : decode cJ7_fill_53178 10 = .ok (.aload_n 0, 1) := by decide +kernel
theorem dJ7_fill_53178_11 : decode cJ7_fill_53178 11 = .ok (.iload_n 2, 1) := by decide +kernel
theorem dJ7_fill_53178_12 : decode cJ7_fill_53178 12 = .ok (.iload_n 1, 1) := by decide +kernel
theorem dJ7_fill_53178_13 : decode cJ7_fill_53178 13 = .ok (.iastore, 1) := by decide +kernel
theorem dJ7_fill_53178_14 : decode cJ7_fill_53178 14 = .ok (.iinc 2 1, 3) := by decide +kernel
theorem dJ7_fill_53178_17 : decode cJ7_fill_53178 17 = .ok (.goto (-12), 3) := by decide +kernel
theorem dJ7_fill_53178_20 : decode cJ7_fill_53178 20 = .ok (.return_, 1) := by decide +kernel
set_option maxRecDepth 20000 in
theorem ggL_fact_X3_fact : GoodIn wsL_fact wsX3_fact := goodIn_r _ [5, 6, 7, 8, 9, 10, 11, 4, 12, 13, 14, 15, 16, 17, 18, 19, 20, 21, 22, 23, 24, 25, 26, 27, 28, 29, 30, 31, 32, 33, 34, 35, 36, 37, 38, 39, 40, 41, 42, 43, 44, 45, 46, 47, 48, 49, 50, 51, 52, 53, 54, 55, 56, 57, 58, 59, 60, 61, 62, 63, 64, 65, 66, 67, 68, 69, 70, 71, 72, 73, 74, 75, 76, 77, 78, 79, 80, 81, 82, 83, 84, 85, 86, 87, 88, 89, 90, 91, 92, 93, 94, 95, 96, 97, 98, 99, 100, 101, 102, 103, 104, 105, 106, 107, 108, 109, 110, 111, 112, 113, 114, 115, 116, 117, 118] (by decide +kernel) (by decide +kernel)
set_option maxRecDepth 20000 in
theorem gL_fact_X3_fact : GoodIn wsL_fact (wsV RL 7 RX3 yX3_fact wsX3_fact) := goodIn_app (goodIn_of _ (by decide +kernel)) ggL_fact_X3_fact
theorem dL_fact_0 : decode cL_fact 0 = .ok (.aload_n 2, 1) := by decide +kernel
theorem dL_fact_1 : decode cL_fact 1 = .ok (.iconst 0, 1) := by decide +kernel
theorem dL_fact_2 : decode cL_fact 2 = .ok (.aload_n 0, 1) := by decide +kernel
theorem dL_fact_3 : decode cL_fact 3 = .ok (.iload_n 1, 1) := by decide +kernel
theorem dL_fact_4 : decode cL_fact 4 = .ok (.invokevirtual 7, 3) := by decide +kernel
theorem dL_fact_7 : decode cL_fact 7 = .ok (.i2l, 1) := by decide +kernel
theorem dL_fact_8 : decode cL_fact 8 = .ok (.lastore, 1) := by decide +kernel
theorem dL_fact_9 : decode cL_fact 9 = .ok (.goto 6, 3) := by decide +kernel
theorem dL_fact_12 : decode cL_fact 12 = .ok (.astore_n 3, 1) := by decide +kernel
theorem dL_fact_13 : decode cL_fact 13 = .ok (.iconst 1, 1) := by decide +kernel
theorem dL_fact_14 : decode cL_fact 14 = .ok (.ireturn, 1) := by decide +kernel
theorem dL_fact_15 : decode cL_fact 15 = .ok (.iconst 0, 1) := by decide +kernel
theorem dL_fact_16 : decode cL_fact 16 = .ok (.ireturn, 1) := by decide +kernel
set_option maxRecDepth 20000 in
theorem ggL_law_X3_init : GoodIn wsL_law wsX3_init := goodIn_r _ [9, 10, 11, 12, 13, 14, 15, 16, 17, 18, 19, 20, 21, 22, 23, 24, 25, 26, 27, 28, 29, 30, 31, 32, 33, 34, 35, 36, 37, 38, 39, 40, 6, 41, 42, 43, 44, 45, 46, 47, 48, 49, 50, 51, 52, 427, 428, 429, 430, 431, 406, 407, 408, 409, 410, 432, 433, 434, 435, 436, 437, 438, 439, 440, 441, 442] (by decide +kernel) (by decide +kernel)
set_option maxRecDepth 20000 in
theorem gL_law_X3_init : GoodIn wsL_law (wsX3_init) := ggL_law_X3_init
set_option maxRecDepth 20000 in
theorem ggL_law_X4_init : GoodIn wsL_law wsX4_init := goodIn_r _ [55, 56, 11, 12, 57, 30, 58, 59, 60, 61, 62, 63, 64, 65, 66, 411, 412, 413, 414, 415, 416, 417, 418, 419, 420, 421, 422, 423, 424, 425, 426] (by decide +kernel) (by decide +kernel)
set_option maxRecDepth 20000 in
theorem gL_law_X4_init : GoodIn wsL_law (wsX4_init) := ggL_law_X4_init
set_option maxRecDepth 20000 in
theorem ggL_law_X3_grow : GoodIn wsL_law wsX3_grow := goodIn_r _ [70, 25, 26, 406, 407, 408, 409, 410] (by decide +kernel) (by decide +kernel)
set_option maxRecDepth 20000 in
theorem gL_law_X3_grow : GoodIn wsL_law (wsV RL 19 RX3 yX3_grow wsX3_grow) := goodIn_app (goodIn_of _ (by decide +kernel)) ggL_law_X3_grow
set_option maxRecDepth 20000 in
theorem ggL_law_X4_grow : GoodIn wsL_law wsX4_grow := goodIn_r _ [74, 75, 57, 76, 411, 412, 413, 414, 415, 416, 417, 418, 419, 420, 421, 422, 423, 424, 425, 426] (by decide +kernel) (by decide +kernel)
set_option maxRecDepth 20000 in
theorem gL_law_X4_grow : GoodIn wsL_law (wsV RL 23 RX4 yX4_grow wsX4_grow) := goodIn_app (goodIn_of _ (by decide +kernel)) ggL_law_X4_grow
set_option maxRecDepth 20000 in
theorem ggL_law_X3_axiom : GoodIn wsL_law wsX3_axiom := goodIn_r _ [80, 16, 26, 81, 82, 83, 2, 84, 85, 86, 87, 88, 25, 89, 90, 91, 92, 15, 93, 94, 35, 31, 32, 33, 34, 406, 407, 408, 409, 410, 427, 428, 429, 430, 431] (by decide +kernel) (by decide +kernel)
set_option maxRecDepth 20000 in
theorem gL_law_X3_axiom : GoodIn wsL_law (wsV RL 24 RX3 yX3_axiom wsX3_axiom) := goodIn_app (goodIn_of _ (by decide +kernel)) ggL_law_X3_axiom
set_option maxRecDepth 20000 in
theorem ggL_law_X4_axiom : GoodIn wsL_law wsX4_axiom := goodIn_r _ [98, 75, 99, 58, 76, 100, 101, 5, 102, 103, 104, 105, 106, 107, 108, 109, 110, 57, 111, 112, 113, 411, 412, 413, 414, 415, 416, 417, 418, 419, 420, 421, 422, 423, 424, 425, 426] (by decide +kernel) (by decide +kernel)
set_option maxRecDepth 20000 in
theorem gL_law_X4_axiom : GoodIn wsL_law (wsV RL 28 RX4 yX4_axiom wsX4_axiom) := goodIn_app (goodIn_of _ (by decide +kernel)) ggL_law_X4_axiom
set_option maxRecDepth 20000 in
theorem ggL_law_X3_drop : GoodIn wsL_law wsX3_drop := goodIn_r _ [117, 16, 26, 118, 15, 119, 120, 35, 31, 32, 33, 34, 121, 122, 123, 124, 125, 126, 127, 128, 406, 407, 408, 409, 410, 427, 428, 429, 430, 431] (by decide +kernel) (by decide +kernel)
set_option maxRecDepth 20000 in
theorem gL_law_X3_drop : GoodIn wsL_law (wsV RL 29 RX3 yX3_drop wsX3_drop) := goodIn_app (goodIn_of _ (by decide +kernel)) ggL_law_X3_drop
set_option maxRecDepth 20000 in
theorem ggL_law_X4_drop : GoodIn wsL_law wsX4_drop := goodIn_r _ [132, 75, 99, 58, 76, 411, 412, 413, 414, 415, 416, 417, 418, 419, 420, 421, 422, 423, 424, 425, 426] (by decide +kernel) (by decide +kernel)
set_option maxRecDepth 20000 in
theorem gL_law_X4_drop : GoodIn wsL_law (wsV RL 32 RX4 yX4_drop wsX4_drop) := goodIn_app (goodIn_of _ (by decide +kernel)) ggL_law_X4_drop
set_option maxRecDepth 20000 in
theorem ggL_law_X3_sub : GoodIn wsL_law wsX3_sub := goodIn_r _ [136, 85, 86, 87, 2, 88, 25, 137, 138, 139, 140, 26, 20, 16, 141, 19, 142, 143, 46, 40, 39, 144, 126, 127, 128, 145, 146, 147, 148, 41, 149, 43, 44, 45, 150, 151, 152, 153, 154, 155, 156, 157, 158, 159, 160, 161, 162, 163, 164, 165, 166, 167, 168, 169, 170, 171, 172, 173, 174, 175, 176, 177, 178, 179, 180, 181, 182, 183, 184, 185, 186, 42, 187, 188, 189, 190, 191, 192, 193, 194, 195, 196, 197, 198, 199, 200, 201, 202, 203, 204, 205, 206, 207, 208, 209, 406, 407, 408, 409, 410, 432, 433, 434, 435, 436, 437, 438, 439, 427, 428, 429, 430, 431] (by decide +kernel) (by decide +kernel)
set_option maxRecDepth 20000 in
theorem gL_law_X3_sub : GoodIn wsL_law (wsV RL 33 RX3 yX3_sub wsX3_sub) := goodIn_app (goodIn_of _ (by decide +kernel)) ggL_law_X3_sub
set_option maxRecDepth 20000 in
theorem ggL_law_X4_sub : GoodIn wsL_law wsX4_sub := goodIn_r _ [213, 75, 107, 108, 109, 5, 110, 57, 214, 215, 216, 217, 218, 219, 220, 59, 221, 222, 223, 224, 76, 99, 58, 225, 226, 227, 63, 228, 229, 230, 231, 60, 61, 62, 232, 233, 234, 235, 236, 237, 238, 239, 240, 241, 242, 243, 244, 245, 246, 247, 248, 249, 250, 411, 412, 413, 414, 415, 416, 417, 418, 419, 420, 421, 422, 423, 424, 425, 426] (by decide +kernel) (by decide +kernel)
set_option maxRecDepth 20000 in
theorem gL_law_X4_sub : GoodIn wsL_law (wsV RL 37 RX4 yX4_sub wsX4_sub) := goodIn_app (goodIn_of _ (by decide +kernel)) ggL_law_X4_sub
set_option maxRecDepth 20000 in
theorem ggL_law_X3_link : GoodIn wsL_law wsX3_link := goodIn_r _ [254, 85, 86, 87, 2, 88, 25, 89, 90, 91, 137, 138, 139, 140, 26, 20, 16, 141, 19, 142, 143, 46, 40, 39, 144, 126, 127, 128, 145, 146, 147, 148, 41, 149, 43, 44, 45, 150, 151, 152, 153, 154, 155, 156, 157, 158, 159, 160, 161, 162, 163, 164, 165, 166, 167, 168, 169, 170, 171, 172, 173, 174, 175, 176, 177, 178, 179, 180, 181, 182, 183, 184, 185, 186, 42, 187, 188, 189, 190, 191, 192, 193, 194, 195, 196, 197, 198, 199, 200, 201, 202, 203, 204, 205, 206, 255, 207, 208, 209, 406, 407, 408, 409, 410, 432, 433, 434, 435, 436, 437, 438, 439, 427, 428, 429, 430, 431] (by decide +kernel) (by decide +kernel)
set_option maxRecDepth 20000 in
theorem gL_law_X3_link : GoodIn wsL_law (wsV RL 38 RX3 yX3_link wsX3_link) := goodIn_app (goodIn_of _ (by decide +kernel)) ggL_law_X3_link
set_option maxRecDepth 20000 in
theorem ggL_law_X4_link : GoodIn wsL_law wsX4_link := goodIn_r _ [259, 75, 107, 108, 109, 5, 110, 57, 111, 112, 113, 232, 233, 234, 217, 218, 219, 220, 59, 221, 222, 223, 224, 76, 99, 58, 225, 226, 227, 63, 214, 215, 216, 228, 229, 230, 231, 60, 61, 62, 235, 236, 237, 238, 239, 240, 241, 242, 243, 244, 245, 246, 247, 248, 249, 250, 411, 412, 413, 414, 415, 416, 417, 418, 419, 420, 421, 422, 423, 424, 425, 426] (by decide +kernel) (by decide +kernel)
set_option maxRecDepth 20000 in
theorem gL_law_X4_link : GoodIn wsL_law (wsV RL 42 RX4 yX4_link wsX4_link) := goodIn_app (goodIn_of _ (by decide +kernel)) ggL_law_X4_link
set_option maxRecDepth 20000 in
theorem ggL_law_X3_rounds : GoodIn wsL_law wsX3_rounds := goodIn_r _ [263, 137, 138, 139, 2, 140, 26, 20, 16, 25, 141, 19, 142, 143, 46, 40, 39, 144, 126, 127, 128, 145, 146, 147, 148, 41, 149, 43, 44, 45, 150, 151, 152, 153, 154, 155, 156, 157, 158, 159, 160, 161, 162, 163, 164, 165, 166, 167, 168, 169, 170, 171, 172, 173, 174, 175, 176, 177, 178, 179, 180, 181, 182, 183, 184, 185, 186, 42, 187, 188, 189, 190, 191, 192, 193, 194, 195, 196, 197, 198, 199, 200, 201, 202, 203, 204, 205, 206, 432, 433, 434, 435, 436, 437, 438, 439, 406, 407, 408, 409, 410, 427, 428, 429, 430, 431] (by decide +kernel) (by decide +kernel)
set_option maxRecDepth 20000 in
theorem gL_law_X3_rounds : GoodIn wsL_law (wsV RL 43 RX3 yX3_rounds wsX3_rounds) := goodIn_app (goodIn_of _ (by decide +kernel)) ggL_law_X3_rounds
set_option maxRecDepth 20000 in
theorem ggL_law_X4_rounds : GoodIn wsL_law wsX4_rounds := goodIn_r _ [267, 75, 225, 221, 222, 223, 5, 224, 76, 59, 57, 99, 58, 226, 227, 63, 214, 215, 216, 228, 229, 230, 231, 60, 61, 62, 232, 233, 234, 235, 236, 237, 238, 239, 240, 241, 242, 243, 244, 245, 246, 247, 248, 249, 250, 411, 412, 413, 414, 415, 416, 417, 418, 419, 420, 421, 422, 423, 424, 425, 426] (by decide +kernel) (by decide +kernel)
set_option maxRecDepth 20000 in
theorem gL_law_X4_rounds : GoodIn wsL_law (wsV RL 46 RX4 yX4_rounds wsX4_rounds) := goodIn_app (goodIn_of _ (by decide +kernel)) ggL_law_X4_rounds
set_option maxRecDepth 20000 in
theorem ggL_law_X3_facts : GoodIn wsL_law wsX3_facts := goodIn_r _ [271, 137, 138, 139, 2, 140, 26, 20, 16, 25, 141, 19, 142, 143, 46, 40, 39, 144, 126, 127, 128, 145, 146, 147, 148, 41, 149, 43, 44, 45, 150, 151, 152, 153, 154, 155, 156, 157, 158, 159, 160, 161, 162, 163, 164, 165, 166, 167, 168, 169, 170, 171, 172, 173, 174, 175, 176, 177, 178, 179, 180, 181, 182, 183, 184, 185, 186, 42, 187, 188, 189, 190, 191, 192, 193, 194, 195, 196, 197, 198, 199, 200, 201, 202, 203, 204, 205, 206, 432, 433, 434, 435, 436, 437, 438, 439, 406, 407, 408, 409, 410, 427, 428, 429, 430, 431] (by decide +kernel) (by decide +kernel)
set_option maxRecDepth 20000 in
theorem gL_law_X3_facts : GoodIn wsL_law (wsV RL 47 RX3 yX3_facts wsX3_facts) := goodIn_app (goodIn_of _ (by decide +kernel)) ggL_law_X3_facts
set_option maxRecDepth 20000 in
theorem ggL_law_X4_facts : GoodIn wsL_law wsX4_facts := goodIn_r _ [275, 75, 227, 221, 222, 223, 5, 224, 76, 59, 57, 99, 58, 225, 226, 63, 214, 215, 216, 228, 229, 230, 231, 60, 61, 62, 232, 233, 234, 235, 236, 237, 238, 239, 240, 241, 242, 243, 244, 245, 246, 247, 248, 249, 250, 411, 412, 413, 414, 415, 416, 417, 418, 419, 420, 421, 422, 423, 424, 425, 426] (by decide +kernel) (by decide +kernel)
set_option maxRecDepth 20000 in
theorem gL_law_X4_facts : GoodIn wsL_law (wsV RL 50 RX4 yX4_facts wsX4_facts) := goodIn_app (goodIn_of _ (by decide +kernel)) ggL_law_X4_facts
set_option maxRecDepth 20000 in
theorem ggL_law_L_fact : GoodIn wsL_law wsL_fact := goodIn_r _ [279, 280, 281, 282, 2, 283, 284, 285, 286, 137, 138, 139, 140, 26, 20, 16, 25, 141, 19, 142, 143, 46, 40, 39, 144, 126, 127, 128, 145, 146, 147, 148, 41, 149, 43, 44, 45, 150, 151, 152, 153, 154, 155, 156, 157, 158, 159, 160, 161, 162, 163, 164, 165, 166, 167, 168, 169, 170, 171, 172, 173, 174, 175, 176, 177, 178, 179, 180, 181, 182, 183, 184, 185, 186, 42, 187, 188, 189, 190, 191, 192, 193, 194, 195, 196, 197, 198, 199, 200, 201, 202, 203, 204, 205, 206, 432, 433, 434, 435, 436, 437, 438, 439, 443, 444, 445, 446, 447, 448, 406, 407, 408, 409, 410, 427, 428, 429, 430, 431] (by decide +kernel) (by decide +kernel)
set_option maxRecDepth 20000 in
theorem gL_law_L_fact : GoodIn wsL_law (va_wsS RL 51 yL_fact wsL_fact) := goodIn_app (goodIn_of _ (by decide +kernel)) ggL_law_L_fact
set_option maxRecDepth 20000 in
theorem ggL_law_X4_fact : GoodIn wsL_law wsX4_fact := goodIn_r _ [290, 227, 75, 63, 221, 222, 223, 5, 224, 76, 59, 57, 99, 58, 225, 226, 214, 215, 216, 228, 229, 230, 231, 60, 61, 62, 232, 233, 234, 235, 236, 237, 238, 239, 240, 241, 242, 243, 244, 245, 246, 247, 248, 249, 250, 411, 412, 413, 414, 415, 416, 417, 418, 419, 420, 421, 422, 423, 424, 425, 426] (by decide +kernel) (by decide +kernel)
set_option maxRecDepth 20000 in
theorem gL_law_X4_fact : GoodIn wsL_law (wsV RL 56 RX4 yX4_fact wsX4_fact) := goodIn_app (goodIn_of _ (by decide +kernel)) ggL_law_X4_fact
set_option maxRecDepth 20000 in
theorem ggL_law_X4_thrown : GoodIn wsL_law wsX4_thrown := goodIn_r _ [294, 75, 411, 412, 413, 414, 415, 416, 417, 418, 419, 420, 421, 422, 423, 424, 425, 426] (by decide +kernel) (by decide +kernel)
set_option maxRecDepth 20000 in
theorem gL_law_X4_thrown : GoodIn wsL_law (wsV RL 57 RX4 yX4_thrown wsX4_thrown) := goodIn_app (goodIn_of _ (by decide +kernel)) ggL_law_X4_thrown
set_option maxRecDepth 20000 in
theorem ggL_law_X3_told : GoodIn wsL_law wsX3_told := goodIn_r _ [298, 137, 138, 139, 2, 140, 26, 20, 16, 25, 141, 19, 142, 143, 46, 40, 39, 144, 126, 127, 128, 145, 146, 147, 148, 41, 149, 43, 44, 45, 150, 151, 152, 153, 154, 155, 156, 157, 158, 159, 160, 161, 162, 163, 164, 165, 166, 167, 168, 169, 170, 171, 172, 173, 174, 175, 176, 177, 178, 179, 180, 181, 182, 183, 184, 185, 186, 42, 187, 188, 189, 190, 191, 192, 193, 194, 195, 196, 197, 198, 199, 200, 201, 202, 203, 204, 205, 206, 299, 300, 301, 302, 303, 304, 305, 306, 307, 308, 309, 310, 311, 312, 313, 406, 407, 408, 409, 410, 432, 433, 434, 435, 436, 437, 438, 439, 427, 428, 429, 430, 431] (by decide +kernel) (by decide +kernel)
set_option maxRecDepth 20000 in
theorem gL_law_X3_told : GoodIn wsL_law (wsV RL 60 RX3 yX3_told wsX3_told) := goodIn_app (goodIn_of _ (by decide +kernel)) ggL_law_X3_told
set_option maxRecDepth 20000 in
theorem ggL_law_X4_told : GoodIn wsL_law wsX4_told := goodIn_r _ [317, 75, 59, 60, 61, 62, 217, 218, 219, 5, 220, 221, 222, 223, 224, 76, 57, 99, 58, 225, 226, 227, 63, 214, 215, 216, 228, 229, 230, 231, 232, 233, 234, 235, 236, 237, 238, 239, 240, 241, 242, 243, 244, 245, 246, 247, 248, 249, 250, 411, 412, 413, 414, 415, 416, 417, 418, 419, 420, 421, 422, 423, 424, 425, 426] (by decide +kernel) (by decide +kernel)
set_option maxRecDepth 20000 in
theorem gL_law_X4_told : GoodIn wsL_law (wsV RL 63 RX4 yX4_told wsX4_told) := goodIn_app (goodIn_of _ (by decide +kernel)) ggL_law_X4_told
set_option maxRecDepth 20000 in
theorem ggL_law_X3_trace : GoodIn wsL_law wsX3_trace := goodIn_r _ [321, 24, 137, 138, 139, 2, 140, 26, 20, 16, 25, 141, 19, 142, 143, 46, 40, 39, 144, 126, 127, 128, 145, 146, 147, 148, 41, 149, 43, 44, 45, 150, 151, 152, 153, 154, 155, 156, 157, 158, 159, 160, 161, 162, 163, 164, 165, 166, 167, 168, 169, 170, 171, 172, 173, 174, 175, 176, 177, 178, 179, 180, 181, 182, 183, 184, 185, 186, 42, 187, 188, 189, 190, 191, 192, 193, 194, 195, 196, 197, 198, 199, 200, 201, 202, 203, 204, 205, 206, 322, 23, 323, 324, 52, 51, 50, 299, 300, 301, 325, 326, 327, 328, 329, 330, 331, 332, 333, 308, 309, 310, 311, 312, 313, 406, 407, 408, 409, 410, 440, 441, 442, 432, 433, 434, 435, 436, 437, 438, 439, 427, 428, 429, 430, 431] (by decide +kernel) (by decide +kernel)
set_option maxRecDepth 20000 in
theorem gL_law_X3_trace : GoodIn wsL_law (wsV RL 64 RX3 yX3_trace wsX3_trace) := goodIn_app (goodIn_of _ (by decide +kernel)) ggL_law_X3_trace
set_option maxRecDepth 20000 in
theorem ggL_law_X4_trace : GoodIn wsL_law wsX4_trace := goodIn_r _ [337, 75, 338, 66, 61, 62, 227, 63, 64, 217, 218, 219, 5, 220, 59, 221, 222, 223, 224, 76, 57, 99, 58, 225, 226, 214, 215, 216, 228, 229, 230, 231, 60, 232, 233, 234, 235, 236, 237, 238, 239, 240, 241, 242, 243, 244, 245, 246, 247, 248, 249, 250, 339, 340, 341, 342, 411, 412, 413, 414, 415, 416, 417, 418, 419, 420, 421, 422, 423, 424, 425, 426] (by decide +kernel) (by decide +kernel)
set_option maxRecDepth 20000 in
theorem gL_law_X4_trace : GoodIn wsL_law (wsV RL 67 RX4 yX4_trace wsX4_trace) := goodIn_app (goodIn_of _ (by decide +kernel)) ggL_law_X4_trace
set_option maxRecDepth 20000 in
theorem ggL_law_X3_row : GoodIn wsL_law wsX3_row := goodIn_r _ [346, 24, 406, 407, 408, 409, 410, 440, 441, 442] (by decide +kernel) (by decide +kernel)
set_option maxRecDepth 20000 in
theorem gL_law_X3_row : GoodIn wsL_law (wsV RL 68 RX3 yX3_row wsX3_row) := goodIn_app (goodIn_of _ (by decide +kernel)) ggL_law_X3_row
set_option maxRecDepth 20000 in
theorem ggL_law_X4_row : GoodIn wsL_law wsX4_row := goodIn_r _ [350, 75, 338, 64, 411, 412, 413, 414, 415, 416, 417, 418, 419, 420, 421, 422, 423, 424, 425, 426] (by decide +kernel) (by decide +kernel)
set_option maxRecDepth 20000 in
theorem gL_law_X4_row : GoodIn wsL_law (wsV RL 71 RX4 yX4_row wsX4_row) := goodIn_app (goodIn_of _ (by decide +kernel)) ggL_law_X4_row
set_option maxRecDepth 20000 in
theorem ggL_law_X3_empty : GoodIn wsL_law wsX3_empty := goodIn_r _ [354, 355, 134, 135, 2, 136, 85, 86, 87, 88, 25, 137, 138, 139, 140, 26, 20, 16, 141, 19, 142, 143, 46, 40, 39, 144, 126, 127, 128, 145, 146, 147, 148, 41, 149, 43, 44, 45, 150, 151, 152, 153, 154, 155, 156, 157, 158, 159, 160, 161, 162, 163, 164, 165, 166, 167, 168, 169, 170, 171, 172, 173, 174, 175, 176, 177, 178, 179, 180, 181, 182, 183, 184, 185, 186, 42, 187, 188, 189, 190, 191, 192, 193, 194, 195, 196, 197, 198, 199, 200, 201, 202, 203, 204, 205, 206, 207, 208, 209, 406, 407, 408, 409, 410, 432, 433, 434, 435, 436, 437, 438, 439, 427, 428, 429, 430, 431] (by decide +kernel) (by decide +kernel)
set_option maxRecDepth 20000 in
theorem gL_law_X3_empty : GoodIn wsL_law (wsV RL 72 RX3 yX3_empty wsX3_empty) := goodIn_app (goodIn_of _ (by decide +kernel)) ggL_law_X3_empty
set_option maxRecDepth 20000 in
theorem ggL_law_X4_empty : GoodIn wsL_law wsX4_empty := goodIn_r _ [359, 75, 360, 211, 212, 5, 213, 107, 108, 109, 110, 57, 214, 215, 216, 217, 218, 219, 220, 59, 221, 222, 223, 224, 76, 99, 58, 225, 226, 227, 63, 228, 229, 230, 231, 60, 61, 62, 232, 233, 234, 235, 236, 237, 238, 239, 240, 241, 242, 243, 244, 245, 246, 247, 248, 249, 250, 411, 412, 413, 414, 415, 416, 417, 418, 419, 420, 421, 422, 423, 424, 425, 426] (by decide +kernel) (by decide +kernel)
set_option maxRecDepth 20000 in
theorem gL_law_X4_empty : GoodIn wsL_law (wsV RL 75 RX4 yX4_empty wsX4_empty) := goodIn_app (goodIn_of _ (by decide +kernel)) ggL_law_X4_empty
set_option maxRecDepth 20000 in
theorem ggL_law_X3_same : GoodIn wsL_law wsX3_same := goodIn_r _ [364, 85, 86, 87, 2, 88, 25, 137, 138, 139, 140, 26, 20, 16, 141, 19, 142, 143, 46, 40, 39, 144, 126, 127, 128, 145, 146, 147, 148, 41, 149, 43, 44, 45, 150, 151, 152, 153, 154, 155, 156, 157, 158, 159, 160, 161, 162, 163, 164, 165, 166, 167, 168, 169, 170, 171, 172, 173, 174, 175, 176, 177, 178, 179, 180, 181, 182, 183, 184, 185, 186, 42, 187, 188, 189, 190, 191, 192, 193, 194, 195, 196, 197, 198, 199, 200, 201, 202, 203, 204, 205, 206, 365, 366, 367, 368, 369, 370, 371, 372, 207, 208, 209, 406, 407, 408, 409, 410, 432, 433, 434, 435, 436, 437, 438, 439, 427, 428, 429, 430, 431] (by decide +kernel) (by decide +kernel)
set_option maxRecDepth 20000 in
theorem gL_law_X3_same : GoodIn wsL_law (wsV RL 76 RX3 yX3_same wsX3_same) := goodIn_app (goodIn_of _ (by decide +kernel)) ggL_law_X3_same
set_option maxRecDepth 20000 in
theorem ggL_law_X4_same : GoodIn wsL_law wsX4_same := goodIn_r _ [376, 75, 107, 108, 109, 5, 110, 57, 377, 378, 379, 380, 214, 215, 216, 217, 218, 219, 220, 59, 221, 222, 223, 224, 76, 99, 58, 225, 226, 227, 63, 228, 229, 230, 231, 60, 61, 62, 232, 233, 234, 235, 236, 237, 238, 239, 240, 241, 242, 243, 244, 245, 246, 247, 248, 249, 250, 411, 412, 413, 414, 415, 416, 417, 418, 419, 420, 421, 422, 423, 424, 425, 426] (by decide +kernel) (by decide +kernel)
set_option maxRecDepth 20000 in
theorem gL_law_X4_same : GoodIn wsL_law (wsV RL 79 RX4 yX4_same wsX4_same) := goodIn_app (goodIn_of _ (by decide +kernel)) ggL_law_X4_same
set_option maxRecDepth 20000 in
theorem ggL_law_X3_parent : GoodIn wsL_law wsX3_parent := goodIn_r _ [384, 85, 86, 87, 2, 88, 25, 137, 138, 139, 140, 26, 20, 16, 141, 19, 142, 143, 46, 40, 39, 144, 126, 127, 128, 145, 146, 147, 148, 41, 149, 43, 44, 45, 150, 151, 152, 153, 154, 155, 156, 157, 158, 159, 160, 161, 162, 163, 164, 165, 166, 167, 168, 169, 170, 171, 172, 173, 174, 175, 176, 177, 178, 179, 180, 181, 182, 183, 184, 185, 186, 42, 187, 188, 189, 190, 191, 192, 193, 194, 195, 196, 197, 198, 199, 200, 201, 202, 203, 204, 205, 206, 385, 386, 387, 372, 207, 208, 209, 388, 389, 390, 391, 392, 365, 366, 367, 368, 369, 370, 371, 406, 407, 408, 409, 410, 432, 433, 434, 435, 436, 437, 438, 439, 427, 428, 429, 430, 431] (by decide +kernel) (by decide +kernel)
set_option maxRecDepth 20000 in
theorem gL_law_X3_parent : GoodIn wsL_law (wsV RL 80 RX3 yX3_parent wsX3_parent) := goodIn_app (goodIn_of _ (by decide +kernel)) ggL_law_X3_parent
set_option maxRecDepth 20000 in
theorem ggL_law_X4_parent : GoodIn wsL_law wsX4_parent := goodIn_r _ [396, 75, 57, 107, 108, 109, 5, 110, 214, 215, 216, 217, 218, 219, 220, 59, 221, 222, 223, 224, 76, 99, 58, 225, 226, 227, 63, 228, 229, 230, 231, 60, 61, 62, 232, 233, 234, 235, 236, 237, 238, 239, 240, 241, 242, 243, 244, 245, 246, 247, 248, 249, 250, 397, 398, 399, 400, 401, 402, 403, 404, 377, 378, 379, 380, 405, 374, 375, 376, 411, 412, 413, 414, 415, 416, 417, 418, 419, 420, 421, 422, 423, 424, 425, 426] (by decide +kernel) (by decide +kernel)
set_option maxRecDepth 20000 in
theorem gL_law_X4_parent : GoodIn wsL_law (wsV RL 83 RX4 yX4_parent wsX4_parent) := goodIn_app (goodIn_of _ (by decide +kernel)) ggL_law_X4_parent
theorem dL_law_0 : decode cL_law 0 = .ok (.new 8, 3) := by decide +kernel
theorem dL_law_3 : decode cL_law 3 = .ok (.dup, 1) := by decide +kernel
theorem dL_law_4 : decode cL_law 4 = .ok (.invokespecial 15, 3) := by decide +kernel
theorem dL_law_7 : decode cL_law 7 = .ok (.astore_n 1, 1) := by decide +kernel
theorem dL_law_8 : decode cL_law 8 = .ok (.new 16, 3) := by decide +kernel
theorem dL_law_11 : decode cL_law 11 = .ok (.dup, 1) := by decide +kernel
theorem dL_law_12 : decode cL_law 12 = .ok (.invokespecial 18, 3) := by decide +kernel
theorem dL_law_15 : decode cL_law 15 = .ok (.astore_n 2, 1) := by decide +kernel
theorem dL_law_16 : decode cL_law 16 = .ok (.iconst 1, 1) := by decide +kernel
theorem dL_law_17 : decode cL_law 17 = .ok (.newarray .long, 2) := by decide +kernel
theorem dL_law_19 : decode cL_law 19 = .ok (.astore_n 3, 1) := by decide +kernel
theorem dL_law_20 : decode cL_law 20 = .ok (.iconst 0, 1) := by decide +kernel
theorem dL_law_21 : decode cL_law 21 = .ok (.istore 4, 2) := by decide +kernel
theorem dL_law_23 : decode cL_law 23 = .ok (.iload 4, 2) := by decide +kernel
theorem dL_law_25 : decode cL_law 25 = .ok (.aload_n 0, 1) := by decide +kernel
theorem dL_law_26 : decode cL_law 26 = .ok (.arraylength, 1) := by decide +kernel
theorem dL_law_27 : decode cL_law 27 = .ok (.iconst 5, 1) := by decide +kernel
theorem dL_law_28 : decode cL_law 28 = .ok (.isub, 1) := by decide +kernel
theorem dL_law_29 : decode cL_law 29 = .ok (.if_icmp .gt 526, 3) := by decide +kernel
theorem dL_law_32 : decode cL_law 32 = .ok (.aload_n 0, 1) := by decide +kernel
theorem dL_law_33 : decode cL_law 33 = .ok (.iload 4, 2) := by decide +kernel
theorem dL_law_35 : decode cL_law 35 = .ok (.iaload, 1) := by decide +kernel
theorem dL_law_36 : decode cL_law 36 = .ok (.bipush 15, 2) := by decide +kernel
theorem dL_law_38 : decode cL_law 38 = .ok (.iand, 1) := by decide +kernel
theorem dL_law_39 : decode cL_law 39 = .ok (.tableswitch 510 0 13 #[69, 82, 143, 168, 205, 254, 267, 280, 336, 373, 398, 423, 448, 473], 69) := by decide +kernel
theorem dL_law_108 : decode cL_law 108 = .ok (.aload_n 1, 1) := by decide +kernel
theorem dL_law_109 : decode cL_law 109 = .ok (.invokevirtual 19, 3) := by decide +kernel
theorem dL_law_112 : decode cL_law 112 = .ok (.aload_n 2, 1) := by decide +kernel
theorem dL_law_113 : decode cL_law 113 = .ok (.invokevirtual 23, 3) := by decide +kernel
theorem dL_law_116 : decode cL_law 116 = .ok (.if_icmp .eq 433, 3) := by decide +kernel
theorem dL_law_119 : decode cL_law 119 = .ok (.iconst 0, 1) := by decide +kernel
theorem dL_law_120 : decode cL_law 120 = .ok (.ireturn, 1) := by decide +kernel
theorem dL_law_121 : decode cL_law 121 = .ok (.aload_n 1, 1) := by decide +kernel
theorem dL_law_122 : decode cL_law 122 = .ok (.aload_n 0, 1) := by decide +kernel
theorem dL_law_123 : decode cL_law 123 = .ok (.iload 4, 2) := by decide +kernel
theorem dL_law_125 : decode cL_law 125 = .ok (.iconst 1, 1) := by decide +kernel
theorem dL_law_126 : decode cL_law 126 = .ok (.iadd, 1) := by decide +kernel
theorem dL_law_127 : decode cL_law 127 = .ok (.iaload, 1) := by decide +kernel
theorem dL_law_128 : decode cL_law 128 = .ok (.aload_n 0, 1) := by decide +kernel
theorem dL_law_129 : decode cL_law 129 = .ok (.iload 4, 2) := by decide +kernel
theorem dL_law_131 : decode cL_law 131 = .ok (.iconst 2, 1) := by decide +kernel
theorem dL_law_132 : decode cL_law 132 = .ok (.iadd, 1) := by decide +kernel
theorem dL_law_133 : decode cL_law 133 = .ok (.iaload, 1) := by decide +kernel
theorem dL_law_134 : decode cL_law 134 = .ok (.aload_n 0, 1) := by decide +kernel
theorem dL_law_135 : decode cL_law 135 = .ok (.iload 4, 2) := by decide +kernel
theorem dL_law_137 : decode cL_law 137 = .ok (.iconst 3, 1) := by decide +kernel
theorem dL_law_138 : decode cL_law 138 = .ok (.iadd, 1) := by decide +kernel
theorem dL_law_139 : decode cL_law 139 = .ok (.iaload, 1) := by decide +kernel
theorem dL_law_140 : decode cL_law 140 = .ok (.aload_n 0, 1) := by decide +kernel
theorem dL_law_141 : decode cL_law 141 = .ok (.iload 4, 2) := by decide +kernel
theorem dL_law_143 : decode cL_law 143 = .ok (.iconst 4, 1) := by decide +kernel
theorem dL_law_144 : decode cL_law 144 = .ok (.iadd, 1) := by decide +kernel
theorem dL_law_145 : decode cL_law 145 = .ok (.iaload, 1) := by decide +kernel
theorem dL_law_146 : decode cL_law 146 = .ok (.invokevirtual 24, 3) := by decide +kernel
theorem dL_law_149 : decode cL_law 149 = .ok (.aload_n 2, 1) := by decide +kernel
theorem dL_law_150 : decode cL_law 150 = .ok (.aload_n 0, 1) := by decide +kernel
theorem dL_law_151 : decode cL_law 151 = .ok (.iload 4, 2) := by decide +kernel
theorem dL_law_153 : decode cL_law 153 = .ok (.iconst 1, 1) := by decide +kernel
theorem dL_law_154 : decode cL_law 154 = .ok (.iadd, 1) := by decide +kernel
theorem dL_law_155 : decode cL_law 155 = .ok (.iaload, 1) := by decide +kernel
theorem dL_law_156 : decode cL_law 156 = .ok (.aload_n 0, 1) := by decide +kernel
theorem dL_law_157 : decode cL_law 157 = .ok (.iload 4, 2) := by decide +kernel
theorem dL_law_159 : decode cL_law 159 = .ok (.iconst 2, 1) := by decide +kernel
theorem dL_law_160 : decode cL_law 160 = .ok (.iadd, 1) := by decide +kernel
theorem dL_law_161 : decode cL_law 161 = .ok (.iaload, 1) := by decide +kernel
theorem dL_law_162 : decode cL_law 162 = .ok (.aload_n 0, 1) := by decide +kernel
theorem dL_law_163 : decode cL_law 163 = .ok (.iload 4, 2) := by decide +kernel
theorem dL_law_165 : decode cL_law 165 = .ok (.iconst 3, 1) := by decide +kernel
theorem dL_law_166 : decode cL_law 166 = .ok (.iadd, 1) := by decide +kernel
theorem dL_law_167 : decode cL_law 167 = .ok (.iaload, 1) := by decide +kernel
theorem dL_law_168 : decode cL_law 168 = .ok (.aload_n 0, 1) := by decide +kernel
theorem dL_law_169 : decode cL_law 169 = .ok (.iload 4, 2) := by decide +kernel
theorem dL_law_171 : decode cL_law 171 = .ok (.iconst 4, 1) := by decide +kernel
theorem dL_law_172 : decode cL_law 172 = .ok (.iadd, 1) := by decide +kernel
theorem dL_law_173 : decode cL_law 173 = .ok (.iaload, 1) := by decide +kernel
theorem dL_law_174 : decode cL_law 174 = .ok (.invokevirtual 28, 3) := by decide +kernel
theorem dL_law_177 : decode cL_law 177 = .ok (.if_icmp .eq 372, 3) := by decide +kernel
theorem dL_law_180 : decode cL_law 180 = .ok (.iconst 0, 1) := by decide +kernel
theorem dL_law_181 : decode cL_law 181 = .ok (.ireturn, 1) := by decide +kernel
theorem dL_law_182 : decode cL_law 182 = .ok (.aload_n 1, 1) := by decide +kernel
theorem dL_law_183 : decode cL_law 183 = .ok (.aload_n 0, 1) := by decide +kernel
theorem dL_law_184 : decode cL_law 184 = .ok (.iload 4, 2) := by decide +kernel
theorem dL_law_186 : decode cL_law 186 = .ok (.iconst 1, 1) := by decide +kernel
theorem dL_law_187 : decode cL_law 187 = .ok (.iadd, 1) := by decide +kernel
theorem dL_law_188 : decode cL_law 188 = .ok (.iaload, 1) := by decide +kernel
theorem dL_law_189 : decode cL_law 189 = .ok (.invokevirtual 29, 3) := by decide +kernel
theorem dL_law_192 : decode cL_law 192 = .ok (.aload_n 2, 1) := by decide +kernel
theorem dL_law_193 : decode cL_law 193 = .ok (.aload_n 0, 1) := by decide +kernel
theorem dL_law_194 : decode cL_law 194 = .ok (.iload 4, 2) := by decide +kernel
theorem dL_law_196 : decode cL_law 196 = .ok (.iconst 1, 1) := by decide +kernel
theorem dL_law_197 : decode cL_law 197 = .ok (.iadd, 1) := by decide +kernel
theorem dL_law_198 : decode cL_law 198 = .ok (.iaload, 1) := by decide +kernel
theorem dL_law_199 : decode cL_law 199 = .ok (.invokevirtual 32, 3) := by decide +kernel
theorem dL_law_202 : decode cL_law 202 = .ok (.if_icmp .eq 347, 3) := by decide +kernel
theorem dL_law_205 : decode cL_law 205 = .ok (.iconst 0, 1) := by decide +kernel
theorem dL_law_206 : decode cL_law 206 = .ok (.ireturn, 1) := by decide +kernel
theorem dL_law_207 : decode cL_law 207 = .ok (.aload_n 1, 1) := by decide +kernel
theorem dL_law_208 : decode cL_law 208 = .ok (.aload_n 0, 1) := by decide +kernel
theorem dL_law_209 : decode cL_law 209 = .ok (.iload 4, 2) := by decide +kernel
theorem dL_law_211 : decode cL_law 211 = .ok (.iconst 1, 1) := by decide +kernel
theorem dL_law_212 : decode cL_law 212 = .ok (.iadd, 1) := by decide +kernel
theorem dL_law_213 : decode cL_law 213 = .ok (.iaload, 1) := by decide +kernel
theorem dL_law_214 : decode cL_law 214 = .ok (.aload_n 0, 1) := by decide +kernel
theorem dL_law_215 : decode cL_law 215 = .ok (.iload 4, 2) := by decide +kernel
theorem dL_law_217 : decode cL_law 217 = .ok (.iconst 2, 1) := by decide +kernel
theorem dL_law_218 : decode cL_law 218 = .ok (.iadd, 1) := by decide +kernel
theorem dL_law_219 : decode cL_law 219 = .ok (.iaload, 1) := by decide +kernel
theorem dL_law_220 : decode cL_law 220 = .ok (.invokevirtual 33, 3) := by decide +kernel
theorem dL_law_223 : decode cL_law 223 = .ok (.aload_n 2, 1) := by decide +kernel
theorem dL_law_224 : decode cL_law 224 = .ok (.aload_n 0, 1) := by decide +kernel
theorem dL_law_225 : decode cL_law 225 = .ok (.iload 4, 2) := by decide +kernel
theorem dL_law_227 : decode cL_law 227 = .ok (.iconst 1, 1) := by decide +kernel
theorem dL_law_228 : decode cL_law 228 = .ok (.iadd, 1) := by decide +kernel
theorem dL_law_229 : decode cL_law 229 = .ok (.iaload, 1) := by decide +kernel
theorem dL_law_230 : decode cL_law 230 = .ok (.aload_n 0, 1) := by decide +kernel
theorem dL_law_231 : decode cL_law 231 = .ok (.iload 4, 2) := by decide +kernel
theorem dL_law_233 : decode cL_law 233 = .ok (.iconst 2, 1) := by decide +kernel
theorem dL_law_234 : decode cL_law 234 = .ok (.iadd, 1) := by decide +kernel
theorem dL_law_235 : decode cL_law 235 = .ok (.iaload, 1) := by decide +kernel
theorem dL_law_236 : decode cL_law 236 = .ok (.invokevirtual 37, 3) := by decide +kernel
theorem dL_law_239 : decode cL_law 239 = .ok (.if_icmp .eq 310, 3) := by decide +kernel
theorem dL_law_242 : decode cL_law 242 = .ok (.iconst 0, 1) := by decide +kernel
theorem dL_law_243 : decode cL_law 243 = .ok (.ireturn, 1) := by decide +kernel
theorem dL_law_244 : decode cL_law 244 = .ok (.aload_n 1, 1) := by decide +kernel
theorem dL_law_245 : decode cL_law 245 = .ok (.aload_n 0, 1) := by decide +kernel
theorem dL_law_246 : decode cL_law 246 = .ok (.iload 4, 2) := by decide +kernel
theorem dL_law_248 : decode cL_law 248 = .ok (.iconst 1, 1) := by decide +kernel
theorem dL_law_249 : decode cL_law 249 = .ok (.iadd, 1) := by decide +kernel
theorem dL_law_250 : decode cL_law 250 = .ok (.iaload, 1) := by decide +kernel
theorem dL_law_251 : decode cL_law 251 = .ok (.aload_n 0, 1) := by decide +kernel
theorem dL_law_252 : decode cL_law 252 = .ok (.iload 4, 2) := by decide +kernel
theorem dL_law_254 : decode cL_law 254 = .ok (.iconst 2, 1) := by decide +kernel
theorem dL_law_255 : decode cL_law 255 = .ok (.iadd, 1) := by decide +kernel
theorem dL_law_256 : decode cL_law 256 = .ok (.iaload, 1) := by decide +kernel
theorem dL_law_257 : decode cL_law 257 = .ok (.aload_n 0, 1) := by decide +kernel
theorem dL_law_258 : decode cL_law 258 = .ok (.iload 4, 2) := by decide +kernel
theorem dL_law_260 : decode cL_law 260 = .ok (.iconst 3, 1) := by decide +kernel
theorem dL_law_261 : decode cL_law 261 = .ok (.iadd, 1) := by decide +kernel
theorem dL_law_262 : decode cL_law 262 = .ok (.iaload, 1) := by decide +kernel
theorem dL_law_263 : decode cL_law 263 = .ok (.invokevirtual 38, 3) := by decide +kernel
theorem dL_law_266 : decode cL_law 266 = .ok (.aload_n 2, 1) := by decide +kernel
theorem dL_law_267 : decode cL_law 267 = .ok (.aload_n 0, 1) := by decide +kernel
theorem dL_law_268 : decode cL_law 268 = .ok (.iload 4, 2) := by decide +kernel
theorem dL_law_270 : decode cL_law 270 = .ok (.iconst 1, 1) := by decide +kernel
theorem dL_law_271 : decode cL_law 271 = .ok (.iadd, 1) := by decide +kernel
theorem dL_law_272 : decode cL_law 272 = .ok (.iaload, 1) := by decide +kernel
theorem dL_law_273 : decode cL_law 273 = .ok (.aload_n 0, 1) := by decide +kernel
theorem dL_law_274 : decode cL_law 274 = .ok (.iload 4, 2) := by decide +kernel
theorem dL_law_276 : decode cL_law 276 = .ok (.iconst 2, 1) := by decide +kernel
theorem dL_law_277 : decode cL_law 277 = .ok (.iadd, 1) := by decide +kernel
theorem dL_law_278 : decode cL_law 278 = .ok (.iaload, 1) := by decide +kernel
theorem dL_law_279 : decode cL_law 279 = .ok (.aload_n 0, 1) := by decide +kernel
theorem dL_law_280 : decode cL_law 280 = .ok (.iload 4, 2) := by decide +kernel
theorem dL_law_282 : decode cL_law 282 = .ok (.iconst 3, 1) := by decide +kernel
theorem dL_law_283 : decode cL_law 283 = .ok (.iadd, 1) := by decide +kernel
theorem dL_law_284 : decode cL_law 284 = .ok (.iaload, 1) := by decide +kernel
theorem dL_law_285 : decode cL_law 285 = .ok (.invokevirtual 42, 3) := by decide +kernel
theorem dL_law_288 : decode cL_law 288 = .ok (.if_icmp .eq 261, 3) := by decide +kernel
theorem dL_law_291 : decode cL_law 291 = .ok (.iconst 0, 1) := by decide +kernel
theorem dL_law_292 : decode cL_law 292 = .ok (.ireturn, 1) := by decide +kernel
theorem dL_law_293 : decode cL_law 293 = .ok (.aload_n 1, 1) := by decide +kernel
theorem dL_law_294 : decode cL_law 294 = .ok (.invokevirtual 43, 3) := by decide +kernel
theorem dL_law_297 : decode cL_law 297 = .ok (.aload_n 2, 1) := by decide +kernel
theorem dL_law_298 : decode cL_law 298 = .ok (.invokevirtual 46, 3) := by decide +kernel
theorem dL_law_301 : decode cL_law 301 = .ok (.if_icmp .eq 248, 3) := by decide +kernel
theorem dL_law_304 : decode cL_law 304 = .ok (.iconst 0, 1) := by decide +kernel
theorem dL_law_305 : decode cL_law 305 = .ok (.ireturn, 1) := by decide +kernel
theorem dL_law_306 : decode cL_law 306 = .ok (.aload_n 1, 1) := by decide +kernel
theorem dL_law_307 : decode cL_law 307 = .ok (.invokevirtual 47, 3) := by decide +kernel
theorem dL_law_310 : decode cL_law 310 = .ok (.aload_n 2, 1) := by decide +kernel
theorem dL_law_311 : decode cL_law 311 = .ok (.invokevirtual 50, 3) := by decide +kernel
theorem dL_law_314 : decode cL_law 314 = .ok (.if_icmp .eq 235, 3) := by decide +kernel
theorem dL_law_317 : decode cL_law 317 = .ok (.iconst 0, 1) := by decide +kernel
theorem dL_law_318 : decode cL_law 318 = .ok (.ireturn, 1) := by decide +kernel
theorem dL_law_319 : decode cL_law 319 = .ok (.aload_n 1, 1) := by decide +kernel
theorem dL_law_320 : decode cL_law 320 = .ok (.aload_n 0, 1) := by decide +kernel
theorem dL_law_321 : decode cL_law 321 = .ok (.iload 4, 2) := by decide +kernel
theorem dL_law_323 : decode cL_law 323 = .ok (.iconst 1, 1) := by decide +kernel
theorem dL_law_324 : decode cL_law 324 = .ok (.iadd, 1) := by decide +kernel
theorem dL_law_325 : decode cL_law 325 = .ok (.iaload, 1) := by decide +kernel
theorem dL_law_326 : decode cL_law 326 = .ok (.aload_n 3, 1) := by decide +kernel
theorem dL_law_327 : decode cL_law 327 = .ok (.invokestatic 51, 3) := by decide +kernel
theorem dL_law_330 : decode cL_law 330 = .ok (.istore 5, 2) := by decide +kernel
theorem dL_law_332 : decode cL_law 332 = .ok (.aload_n 2, 1) := by decide +kernel
theorem dL_law_333 : decode cL_law 333 = .ok (.aload_n 0, 1) := by decide +kernel
theorem dL_law_334 : decode cL_law 334 = .ok (.iload 4, 2) := by decide +kernel
theorem dL_law_336 : decode cL_law 336 = .ok (.iconst 1, 1) := by decide +kernel
theorem dL_law_337 : decode cL_law 337 = .ok (.iadd, 1) := by decide +kernel
theorem dL_law_338 : decode cL_law 338 = .ok (.iaload, 1) := by decide +kernel
theorem dL_law_339 : decode cL_law 339 = .ok (.invokevirtual 56, 3) := by decide +kernel
theorem dL_law_342 : decode cL_law 342 = .ok (.istore 6, 2) := by decide +kernel
theorem dL_law_344 : decode cL_law 344 = .ok (.aload_n 2, 1) := by decide +kernel
theorem dL_law_345 : decode cL_law 345 = .ok (.invokevirtual 57, 3) := by decide +kernel
theorem dL_law_348 : decode cL_law 348 = .ok (.iload 5, 2) := by decide +kernel
theorem dL_law_350 : decode cL_law 350 = .ok (.if_icmp .eq 5, 3) := by decide +kernel
theorem dL_law_353 : decode cL_law 353 = .ok (.iconst 0, 1) := by decide +kernel
theorem dL_law_354 : decode cL_law 354 = .ok (.ireturn, 1) := by decide +kernel
theorem dL_law_355 : decode cL_law 355 = .ok (.iload 5, 2) := by decide +kernel
theorem dL_law_357 : decode cL_law 357 = .ok (.ifCond .ne 15, 3) := by decide +kernel
theorem dL_law_360 : decode cL_law 360 = .ok (.aload_n 3, 1) := by decide +kernel
theorem dL_law_361 : decode cL_law 361 = .ok (.iconst 0, 1) := by decide +kernel
theorem dL_law_362 : decode cL_law 362 = .ok (.laload, 1) := by decide +kernel
theorem dL_law_363 : decode cL_law 363 = .ok (.iload 6, 2) := by decide +kernel
theorem dL_law_365 : decode cL_law 365 = .ok (.i2l, 1) := by decide +kernel
theorem dL_law_366 : decode cL_law 366 = .ok (.lcmp, 1) := by decide +kernel
theorem dL_law_367 : decode cL_law 367 = .ok (.ifCond .eq 5, 3) := by decide +kernel
theorem dL_law_370 : decode cL_law 370 = .ok (.iconst 0, 1) := by decide +kernel
theorem dL_law_371 : decode cL_law 371 = .ok (.ireturn, 1) := by decide +kernel
theorem dL_law_372 : decode cL_law 372 = .ok (.goto 177, 3) := by decide +kernel
theorem dL_law_375 : decode cL_law 375 = .ok (.aload_n 1, 1) := by decide +kernel
theorem dL_law_376 : decode cL_law 376 = .ok (.aload_n 0, 1) := by decide +kernel
theorem dL_law_377 : decode cL_law 377 = .ok (.iload 4, 2) := by decide +kernel
theorem dL_law_379 : decode cL_law 379 = .ok (.iconst 1, 1) := by decide +kernel
theorem dL_law_380 : decode cL_law 380 = .ok (.iadd, 1) := by decide +kernel
theorem dL_law_381 : decode cL_law 381 = .ok (.iaload, 1) := by decide +kernel
theorem dL_law_382 : decode cL_law 382 = .ok (.aload_n 0, 1) := by decide +kernel
theorem dL_law_383 : decode cL_law 383 = .ok (.iload 4, 2) := by decide +kernel
theorem dL_law_385 : decode cL_law 385 = .ok (.iconst 2, 1) := by decide +kernel
theorem dL_law_386 : decode cL_law 386 = .ok (.iadd, 1) := by decide +kernel
theorem dL_law_387 : decode cL_law 387 = .ok (.iaload, 1) := by decide +kernel
theorem dL_law_388 : decode cL_law 388 = .ok (.invokevirtual 60, 3) := by decide +kernel
theorem dL_law_391 : decode cL_law 391 = .ok (.aload_n 2, 1) := by decide +kernel
theorem dL_law_392 : decode cL_law 392 = .ok (.aload_n 0, 1) := by decide +kernel
theorem dL_law_393 : decode cL_law 393 = .ok (.iload 4, 2) := by decide +kernel
theorem dL_law_395 : decode cL_law 395 = .ok (.iconst 1, 1) := by decide +kernel
theorem dL_law_396 : decode cL_law 396 = .ok (.iadd, 1) := by decide +kernel
theorem dL_law_397 : decode cL_law 397 = .ok (.iaload, 1) := by decide +kernel
theorem dL_law_398 : decode cL_law 398 = .ok (.aload_n 0, 1) := by decide +kernel
theorem dL_law_399 : decode cL_law 399 = .ok (.iload 4, 2) := by decide +kernel
theorem dL_law_401 : decode cL_law 401 = .ok (.iconst 2, 1) := by decide +kernel
theorem dL_law_402 : decode cL_law 402 = .ok (.iadd, 1) := by decide +kernel
theorem dL_law_403 : decode cL_law 403 = .ok (.iaload, 1) := by decide +kernel
theorem dL_law_404 : decode cL_law 404 = .ok (.invokevirtual 63, 3) := by decide +kernel
theorem dL_law_407 : decode cL_law 407 = .ok (.if_icmp .eq 142, 3) := by decide +kernel
theorem dL_law_410 : decode cL_law 410 = .ok (.iconst 0, 1) := by decide +kernel
theorem dL_law_411 : decode cL_law 411 = .ok (.ireturn, 1) := by decide +kernel
theorem dL_law_412 : decode cL_law 412 = .ok (.aload_n 1, 1) := by decide +kernel
theorem dL_law_413 : decode cL_law 413 = .ok (.aload_n 0, 1) := by decide +kernel
theorem dL_law_414 : decode cL_law 414 = .ok (.iload 4, 2) := by decide +kernel
theorem dL_law_416 : decode cL_law 416 = .ok (.iconst 1, 1) := by decide +kernel
theorem dL_law_417 : decode cL_law 417 = .ok (.iadd, 1) := by decide +kernel
theorem dL_law_418 : decode cL_law 418 = .ok (.iaload, 1) := by decide +kernel
theorem dL_law_419 : decode cL_law 419 = .ok (.invokevirtual 64, 3) := by decide +kernel
theorem dL_law_422 : decode cL_law 422 = .ok (.aload_n 2, 1) := by decide +kernel
theorem dL_law_423 : decode cL_law 423 = .ok (.aload_n 0, 1) := by decide +kernel
theorem dL_law_424 : decode cL_law 424 = .ok (.iload 4, 2) := by decide +kernel
theorem dL_law_426 : decode cL_law 426 = .ok (.iconst 1, 1) := by decide +kernel
theorem dL_law_427 : decode cL_law 427 = .ok (.iadd, 1) := by decide +kernel
theorem dL_law_428 : decode cL_law 428 = .ok (.iaload, 1) := by decide +kernel
theorem dL_law_429 : decode cL_law 429 = .ok (.invokevirtual 67, 3) := by decide +kernel
theorem dL_law_432 : decode cL_law 432 = .ok (.if_icmp .eq 117, 3) := by decide +kernel
theorem dL_law_435 : decode cL_law 435 = .ok (.iconst 0, 1) := by decide +kernel
theorem dL_law_436 : decode cL_law 436 = .ok (.ireturn, 1) := by decide +kernel
theorem dL_law_437 : decode cL_law 437 = .ok (.aload_n 1, 1) := by decide +kernel
theorem dL_law_438 : decode cL_law 438 = .ok (.aload_n 0, 1) := by decide +kernel
theorem dL_law_439 : decode cL_law 439 = .ok (.iload 4, 2) := by decide +kernel
theorem dL_law_441 : decode cL_law 441 = .ok (.iconst 1, 1) := by decide +kernel
theorem dL_law_442 : decode cL_law 442 = .ok (.iadd, 1) := by decide +kernel
theorem dL_law_443 : decode cL_law 443 = .ok (.iaload, 1) := by decide +kernel
theorem dL_law_444 : decode cL_law 444 = .ok (.invokevirtual 68, 3) := by decide +kernel
theorem dL_law_447 : decode cL_law 447 = .ok (.aload_n 2, 1) := by decide +kernel
theorem dL_law_448 : decode cL_law 448 = .ok (.aload_n 0, 1) := by decide +kernel
theorem dL_law_449 : decode cL_law 449 = .ok (.iload 4, 2) := by decide +kernel
theorem dL_law_451 : decode cL_law 451 = .ok (.iconst 1, 1) := by decide +kernel
theorem dL_law_452 : decode cL_law 452 = .ok (.iadd, 1) := by decide +kernel
theorem dL_law_453 : decode cL_law 453 = .ok (.iaload, 1) := by decide +kernel
theorem dL_law_454 : decode cL_law 454 = .ok (.invokevirtual 71, 3) := by decide +kernel
theorem dL_law_457 : decode cL_law 457 = .ok (.if_icmp .eq 92, 3) := by decide +kernel
theorem dL_law_460 : decode cL_law 460 = .ok (.iconst 0, 1) := by decide +kernel
theorem dL_law_461 : decode cL_law 461 = .ok (.ireturn, 1) := by decide +kernel
theorem dL_law_462 : decode cL_law 462 = .ok (.aload_n 1, 1) := by decide +kernel
theorem dL_law_463 : decode cL_law 463 = .ok (.aload_n 0, 1) := by decide +kernel
theorem dL_law_464 : decode cL_law 464 = .ok (.iload 4, 2) := by decide +kernel
theorem dL_law_466 : decode cL_law 466 = .ok (.iconst 1, 1) := by decide +kernel
theorem dL_law_467 : decode cL_law 467 = .ok (.iadd, 1) := by decide +kernel
theorem dL_law_468 : decode cL_law 468 = .ok (.iaload, 1) := by decide +kernel
theorem dL_law_469 : decode cL_law 469 = .ok (.invokevirtual 72, 3) := by decide +kernel
theorem dL_law_472 : decode cL_law 472 = .ok (.aload_n 2, 1) := by decide +kernel
theorem dL_law_473 : decode cL_law 473 = .ok (.aload_n 0, 1) := by decide +kernel
theorem dL_law_474 : decode cL_law 474 = .ok (.iload 4, 2) := by decide +kernel
theorem dL_law_476 : decode cL_law 476 = .ok (.iconst 1, 1) := by decide +kernel
theorem dL_law_477 : decode cL_law 477 = .ok (.iadd, 1) := by decide +kernel
theorem dL_law_478 : decode cL_law 478 = .ok (.iaload, 1) := by decide +kernel
theorem dL_law_479 : decode cL_law 479 = .ok (.invokevirtual 75, 3) := by decide +kernel
theorem dL_law_482 : decode cL_law 482 = .ok (.if_icmp .eq 67, 3) := by decide +kernel
theorem dL_law_485 : decode cL_law 485 = .ok (.iconst 0, 1) := by decide +kernel
theorem dL_law_486 : decode cL_law 486 = .ok (.ireturn, 1) := by decide +kernel
theorem dL_law_487 : decode cL_law 487 = .ok (.aload_n 1, 1) := by decide +kernel
theorem dL_law_488 : decode cL_law 488 = .ok (.aload_n 0, 1) := by decide +kernel
theorem dL_law_489 : decode cL_law 489 = .ok (.iload 4, 2) := by decide +kernel
theorem dL_law_491 : decode cL_law 491 = .ok (.iconst 1, 1) := by decide +kernel
theorem dL_law_492 : decode cL_law 492 = .ok (.iadd, 1) := by decide +kernel
theorem dL_law_493 : decode cL_law 493 = .ok (.iaload, 1) := by decide +kernel
theorem dL_law_494 : decode cL_law 494 = .ok (.invokevirtual 76, 3) := by decide +kernel
theorem dL_law_497 : decode cL_law 497 = .ok (.aload_n 2, 1) := by decide +kernel
theorem dL_law_498 : decode cL_law 498 = .ok (.aload_n 0, 1) := by decide +kernel
theorem dL_law_499 : decode cL_law 499 = .ok (.iload 4, 2) := by decide +kernel
theorem dL_law_501 : decode cL_law 501 = .ok (.iconst 1, 1) := by decide +kernel
theorem dL_law_502 : decode cL_law 502 = .ok (.iadd, 1) := by decide +kernel
theorem dL_law_503 : decode cL_law 503 = .ok (.iaload, 1) := by decide +kernel
theorem dL_law_504 : decode cL_law 504 = .ok (.invokevirtual 79, 3) := by decide +kernel
theorem dL_law_507 : decode cL_law 507 = .ok (.if_icmp .eq 42, 3) := by decide +kernel
theorem dL_law_510 : decode cL_law 510 = .ok (.iconst 0, 1) := by decide +kernel
theorem dL_law_511 : decode cL_law 511 = .ok (.ireturn, 1) := by decide +kernel
theorem dL_law_512 : decode cL_law 512 = .ok (.aload_n 1, 1) := by decide +kernel
theorem dL_law_513 : decode cL_law 513 = .ok (.aload_n 0, 1) := by decide +kernel
theorem dL_law_514 : decode cL_law 514 = .ok (.iload 4, 2) := by decide +kernel
theorem dL_law_516 : decode cL_law 516 = .ok (.iconst 1, 1) := by decide +kernel
theorem dL_law_517 : decode cL_law 517 = .ok (.iadd, 1) := by decide +kernel
theorem dL_law_518 : decode cL_law 518 = .ok (.iaload, 1) := by decide +kernel
theorem dL_law_519 : decode cL_law 519 = .ok (.aload_n 0, 1) := by decide +kernel
theorem dL_law_520 : decode cL_law 520 = .ok (.iload 4, 2) := by decide +kernel
theorem dL_law_522 : decode cL_law 522 = .ok (.iconst 2, 1) := by decide +kernel
theorem dL_law_523 : decode cL_law 523 = .ok (.iadd, 1) := by decide +kernel
theorem dL_law_524 : decode cL_law 524 = .ok (.iaload, 1) := by decide +kernel
theorem dL_law_525 : decode cL_law 525 = .ok (.invokevirtual 80, 3) := by decide +kernel
theorem dL_law_528 : decode cL_law 528 = .ok (.aload_n 2, 1) := by decide +kernel
theorem dL_law_529 : decode cL_law 529 = .ok (.aload_n 0, 1) := by decide +kernel
theorem dL_law_530 : decode cL_law 530 = .ok (.iload 4, 2) := by decide +kernel
theorem dL_law_532 : decode cL_law 532 = .ok (.iconst 1, 1) := by decide +kernel
theorem dL_law_533 : decode cL_law 533 = .ok (.iadd, 1) := by decide +kernel
theorem dL_law_534 : decode cL_law 534 = .ok (.iaload, 1) := by decide +kernel
theorem dL_law_535 : decode cL_law 535 = .ok (.aload_n 0, 1) := by decide +kernel
theorem dL_law_536 : decode cL_law 536 = .ok (.iload 4, 2) := by decide +kernel
theorem dL_law_538 : decode cL_law 538 = .ok (.iconst 2, 1) := by decide +kernel
theorem dL_law_539 : decode cL_law 539 = .ok (.iadd, 1) := by decide +kernel
theorem dL_law_540 : decode cL_law 540 = .ok (.iaload, 1) := by decide +kernel
theorem dL_law_541 : decode cL_law 541 = .ok (.invokevirtual 83, 3) := by decide +kernel
theorem dL_law_544 : decode cL_law 544 = .ok (.if_icmp .eq 5, 3) := by decide +kernel
theorem dL_law_547 : decode cL_law 547 = .ok (.iconst 0, 1) := by decide +kernel
theorem dL_law_548 : decode cL_law 548 = .ok (.ireturn, 1) := by decide +kernel
theorem dL_law_549 : decode cL_law 549 = .ok (.iinc 4 5, 3) := by decide +kernel
theorem dL_law_552 : decode cL_law 552 = .ok (.goto (-529), 3) := by decide +kernel
theorem dL_law_555 : decode cL_law 555 = .ok (.iconst 1, 1) := by decide +kernel
theorem dL_law_556 : decode cL_law 556 = .ok (.ireturn, 1) := by decide +kernel
end
section
theorem zz_end : 1 + 1 = 2 := rfl
end
