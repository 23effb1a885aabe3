section
-- ===== PART A: goes FIRST, ahead of the names: the tables' words, and 'selects' of the private methods out of them =====
/-- a private method of a class that the tables say can be made, by its rows of tables_1 -/
def lw_okq (q : MethodName × Nat) : Prop := (q.1.cls ≠ "java/lang/invoke/MethodHandle" ∧ q.1.cls ≠ "java/lang/invoke/VarHandle") ∧ Cond.instantiable q.1.cls q.2 ∈ tables_1 ∧ Cond.privateMethod q.1 ∈ tables_1 ∧ Cond.instanceMethod q.1 ∈ tables_1
theorem lw_p0 : lw_okq (⟨"ScopeInterpreter$Heap", "write", "(IJJ)V"⟩, 3) := ⟨⟨by decide +kernel, by decide +kernel⟩, List.mem_of_getElem? (i := 18) (by decide +kernel), List.mem_of_getElem? (i := 29) (by decide +kernel), List.mem_of_getElem? (i := 30) (by decide +kernel)⟩
theorem lw_p1 : lw_okq (⟨"ScopeInterpreter$Heap", "bindInGround", "(IJ)V"⟩, 3) := ⟨⟨by decide +kernel, by decide +kernel⟩, List.mem_of_getElem? (i := 18) (by decide +kernel), List.mem_of_getElem? (i := 36) (by decide +kernel), List.mem_of_getElem? (i := 37) (by decide +kernel)⟩
theorem lw_p2 : lw_okq (⟨"ScopeInterpreter$Heap", "latestBindingOf", "(I)I"⟩, 3) := ⟨⟨by decide +kernel, by decide +kernel⟩, List.mem_of_getElem? (i := 18) (by decide +kernel), List.mem_of_getElem? (i := 40) (by decide +kernel), List.mem_of_getElem? (i := 41) (by decide +kernel)⟩
theorem lw_p3 : lw_okq (⟨"ScopeInterpreter$Heap", "secondAt", "(I)J"⟩, 3) := ⟨⟨by decide +kernel, by decide +kernel⟩, List.mem_of_getElem? (i := 18) (by decide +kernel), List.mem_of_getElem? (i := 44) (by decide +kernel), List.mem_of_getElem? (i := 45) (by decide +kernel)⟩
theorem lw_p4 : lw_okq (⟨"ScopeInterpreter", "push", "(J)I"⟩, 6) := ⟨⟨by decide +kernel, by decide +kernel⟩, List.mem_of_getElem? (i := 10) (by decide +kernel), List.mem_of_getElem? (i := 201) (by decide +kernel), List.mem_of_getElem? (i := 202) (by decide +kernel)⟩
theorem lw_p5 : lw_okq (⟨"ScopeInterpreter", "depthError", "(I)I"⟩, 6) := ⟨⟨by decide +kernel, by decide +kernel⟩, List.mem_of_getElem? (i := 10) (by decide +kernel), List.mem_of_getElem? (i := 234) (by decide +kernel), List.mem_of_getElem? (i := 235) (by decide +kernel)⟩
theorem lw_p6 : lw_okq (⟨"ScopeInterpreter", "valueAt", "(I)J"⟩, 6) := ⟨⟨by decide +kernel, by decide +kernel⟩, List.mem_of_getElem? (i := 10) (by decide +kernel), List.mem_of_getElem? (i := 238) (by decide +kernel), List.mem_of_getElem? (i := 239) (by decide +kernel)⟩
theorem lw_p7 : lw_okq (⟨"ScopeInterpreter$Heap", "firstAt", "(I)J"⟩, 3) := ⟨⟨by decide +kernel, by decide +kernel⟩, List.mem_of_getElem? (i := 18) (by decide +kernel), List.mem_of_getElem? (i := 257) (by decide +kernel), List.mem_of_getElem? (i := 258) (by decide +kernel)⟩
theorem lw_p8 : lw_okq (⟨"ScopeInterpreter", "pushParent", "(I)I"⟩, 6) := ⟨⟨by decide +kernel, by decide +kernel⟩, List.mem_of_getElem? (i := 10) (by decide +kernel), List.mem_of_getElem? (i := 270) (by decide +kernel), List.mem_of_getElem? (i := 271) (by decide +kernel)⟩
theorem lw_p9 : lw_okq (⟨"ScopeInterpreter", "kindError", "(II)I"⟩, 6) := ⟨⟨by decide +kernel, by decide +kernel⟩, List.mem_of_getElem? (i := 10) (by decide +kernel), List.mem_of_getElem? (i := 282) (by decide +kernel), List.mem_of_getElem? (i := 283) (by decide +kernel)⟩
theorem lw_p10 : lw_okq (⟨"ScopeInterpreter$Heap", "ownBinding", "(II)I"⟩, 3) := ⟨⟨by decide +kernel, by decide +kernel⟩, List.mem_of_getElem? (i := 18) (by decide +kernel), List.mem_of_getElem? (i := 290) (by decide +kernel), List.mem_of_getElem? (i := 291) (by decide +kernel)⟩
theorem lw_p11 : lw_okq (⟨"ScopeInterpreter$Heap", "add", "(JJ)I"⟩, 3) := ⟨⟨by decide +kernel, by decide +kernel⟩, List.mem_of_getElem? (i := 18) (by decide +kernel), List.mem_of_getElem? (i := 314) (by decide +kernel), List.mem_of_getElem? (i := 315) (by decide +kernel)⟩
theorem lw_p12 : lw_okq (⟨"ScopeInterpreter", "countError", "(I)I"⟩, 6) := ⟨⟨by decide +kernel, by decide +kernel⟩, List.mem_of_getElem? (i := 10) (by decide +kernel), List.mem_of_getElem? (i := 322) (by decide +kernel), List.mem_of_getElem? (i := 323) (by decide +kernel)⟩
theorem lw_p13 : lw_okq (⟨"ScopeInterpreter$Machine", "evaluateInTail", "(J)V"⟩, 12) := ⟨⟨by decide +kernel, by decide +kernel⟩, List.mem_of_getElem? (i := 63) (by decide +kernel), List.mem_of_getElem? (i := 390) (by decide +kernel), List.mem_of_getElem? (i := 391) (by decide +kernel)⟩
theorem lw_p14 : lw_okq (⟨"ScopeInterpreter$Machine", "evaluateCurrent", "()V"⟩, 12) := ⟨⟨by decide +kernel, by decide +kernel⟩, List.mem_of_getElem? (i := 63) (by decide +kernel), List.mem_of_getElem? (i := 395) (by decide +kernel), List.mem_of_getElem? (i := 396) (by decide +kernel)⟩
theorem lw_p15 : lw_okq (⟨"ScopeInterpreter$Machine", "fail", "(I)V"⟩, 12) := ⟨⟨by decide +kernel, by decide +kernel⟩, List.mem_of_getElem? (i := 63) (by decide +kernel), List.mem_of_getElem? (i := 399) (by decide +kernel), List.mem_of_getElem? (i := 400) (by decide +kernel)⟩
def lw_privs_1 : List (MethodName × Nat) := [(⟨"ScopeInterpreter$Heap", "write", "(IJJ)V"⟩, 3), (⟨"ScopeInterpreter$Heap", "bindInGround", "(IJ)V"⟩, 3), (⟨"ScopeInterpreter$Heap", "latestBindingOf", "(I)I"⟩, 3), (⟨"ScopeInterpreter$Heap", "secondAt", "(I)J"⟩, 3), (⟨"ScopeInterpreter", "push", "(J)I"⟩, 6), (⟨"ScopeInterpreter", "depthError", "(I)I"⟩, 6), (⟨"ScopeInterpreter", "valueAt", "(I)J"⟩, 6), (⟨"ScopeInterpreter$Heap", "firstAt", "(I)J"⟩, 3), (⟨"ScopeInterpreter", "pushParent", "(I)I"⟩, 6), (⟨"ScopeInterpreter", "kindError", "(II)I"⟩, 6), (⟨"ScopeInterpreter$Heap", "ownBinding", "(II)I"⟩, 3), (⟨"ScopeInterpreter$Heap", "add", "(JJ)I"⟩, 3), (⟨"ScopeInterpreter", "countError", "(I)I"⟩, 6), (⟨"ScopeInterpreter$Machine", "evaluateInTail", "(J)V"⟩, 12), (⟨"ScopeInterpreter$Machine", "evaluateCurrent", "()V"⟩, 12), (⟨"ScopeInterpreter$Machine", "fail", "(I)V"⟩, 12)]
theorem lw_r1 : ∀ q ∈ lw_privs_1, lw_okq q := List.forall_mem_cons.mpr ⟨lw_p0, List.forall_mem_cons.mpr ⟨lw_p1, List.forall_mem_cons.mpr ⟨lw_p2, List.forall_mem_cons.mpr ⟨lw_p3, List.forall_mem_cons.mpr ⟨lw_p4, List.forall_mem_cons.mpr ⟨lw_p5, List.forall_mem_cons.mpr ⟨lw_p6, List.forall_mem_cons.mpr ⟨lw_p7, List.forall_mem_cons.mpr ⟨lw_p8, List.forall_mem_cons.mpr ⟨lw_p9, List.forall_mem_cons.mpr ⟨lw_p10, List.forall_mem_cons.mpr ⟨lw_p11, List.forall_mem_cons.mpr ⟨lw_p12, List.forall_mem_cons.mpr ⟨lw_p13, List.forall_mem_cons.mpr ⟨lw_p14, List.forall_mem_cons.mpr ⟨lw_p15, fun _ h => absurd h List.not_mem_nil⟩⟩⟩⟩⟩⟩⟩⟩⟩⟩⟩⟩⟩⟩⟩⟩
theorem lw_p16 : lw_okq (⟨"ScopeInterpreter$Machine", "evaluateWithFrame", "(JIJJI)V"⟩, 12) := ⟨⟨by decide +kernel, by decide +kernel⟩, List.mem_of_getElem? (i := 63) (by decide +kernel), List.mem_of_getElem? (i := 406) (by decide +kernel), List.mem_of_getElem? (i := 407) (by decide +kernel)⟩
theorem lw_p17 : lw_okq (⟨"ScopeInterpreter$Machine", "lookUp", "(I)V"⟩, 12) := ⟨⟨by decide +kernel, by decide +kernel⟩, List.mem_of_getElem? (i := 63) (by decide +kernel), List.mem_of_getElem? (i := 415) (by decide +kernel), List.mem_of_getElem? (i := 416) (by decide +kernel)⟩
theorem lw_p18 : lw_okq (⟨"ScopeInterpreter$Machine", "giveBack", "(J)V"⟩, 12) := ⟨⟨by decide +kernel, by decide +kernel⟩, List.mem_of_getElem? (i := 63) (by decide +kernel), List.mem_of_getElem? (i := 421) (by decide +kernel), List.mem_of_getElem? (i := 422) (by decide +kernel)⟩
theorem lw_p19 : lw_okq (⟨"ScopeInterpreter$Machine", "combineCurrent", "()V"⟩, 12) := ⟨⟨by decide +kernel, by decide +kernel⟩, List.mem_of_getElem? (i := 63) (by decide +kernel), List.mem_of_getElem? (i := 425) (by decide +kernel), List.mem_of_getElem? (i := 426) (by decide +kernel)⟩
theorem lw_p20 : lw_okq (⟨"ScopeInterpreter$Machine", "combineApplicative", "()V"⟩, 12) := ⟨⟨by decide +kernel, by decide +kernel⟩, List.mem_of_getElem? (i := 63) (by decide +kernel), List.mem_of_getElem? (i := 429) (by decide +kernel), List.mem_of_getElem? (i := 430) (by decide +kernel)⟩
theorem lw_p21 : lw_okq (⟨"ScopeInterpreter$Machine", "evaluateArguments", "(JJI)V"⟩, 12) := ⟨⟨by decide +kernel, by decide +kernel⟩, List.mem_of_getElem? (i := 63) (by decide +kernel), List.mem_of_getElem? (i := 435) (by decide +kernel), List.mem_of_getElem? (i := 436) (by decide +kernel)⟩
theorem lw_p22 : lw_okq (⟨"ScopeInterpreter$Machine", "combineWithArguments", "(JI)V"⟩, 12) := ⟨⟨by decide +kernel, by decide +kernel⟩, List.mem_of_getElem? (i := 63) (by decide +kernel), List.mem_of_getElem? (i := 439) (by decide +kernel), List.mem_of_getElem? (i := 440) (by decide +kernel)⟩
theorem lw_p23 : lw_okq (⟨"ScopeInterpreter$Machine", "combine", "(JJ)V"⟩, 12) := ⟨⟨by decide +kernel, by decide +kernel⟩, List.mem_of_getElem? (i := 63) (by decide +kernel), List.mem_of_getElem? (i := 445) (by decide +kernel), List.mem_of_getElem? (i := 446) (by decide +kernel)⟩
theorem lw_p24 : lw_okq (⟨"ScopeInterpreter$Machine", "combineCompound", "(I)V"⟩, 12) := ⟨⟨by decide +kernel, by decide +kernel⟩, List.mem_of_getElem? (i := 63) (by decide +kernel), List.mem_of_getElem? (i := 452) (by decide +kernel), List.mem_of_getElem? (i := 453) (by decide +kernel)⟩
theorem lw_p25 : lw_okq (⟨"ScopeInterpreter$Matcher", "start", "(JJ)V"⟩, 7) := ⟨⟨by decide +kernel, by decide +kernel⟩, List.mem_of_getElem? (i := 69) (by decide +kernel), List.mem_of_getElem? (i := 464) (by decide +kernel), List.mem_of_getElem? (i := 465) (by decide +kernel)⟩
theorem lw_p26 : lw_okq (⟨"ScopeInterpreter$Matcher", "putOff", "(JJ)V"⟩, 7) := ⟨⟨by decide +kernel, by decide +kernel⟩, List.mem_of_getElem? (i := 69) (by decide +kernel), List.mem_of_getElem? (i := 468) (by decide +kernel), List.mem_of_getElem? (i := 469) (by decide +kernel)⟩
theorem lw_p27 : lw_okq (⟨"ScopeInterpreter$Matcher", "takeTree", "()J"⟩, 7) := ⟨⟨by decide +kernel, by decide +kernel⟩, List.mem_of_getElem? (i := 69) (by decide +kernel), List.mem_of_getElem? (i := 472) (by decide +kernel), List.mem_of_getElem? (i := 473) (by decide +kernel)⟩
theorem lw_p28 : lw_okq (⟨"ScopeInterpreter$Matcher", "takenPart", "()J"⟩, 7) := ⟨⟨by decide +kernel, by decide +kernel⟩, List.mem_of_getElem? (i := 69) (by decide +kernel), List.mem_of_getElem? (i := 477) (by decide +kernel), List.mem_of_getElem? (i := 478) (by decide +kernel)⟩
theorem lw_p29 : lw_okq (⟨"ScopeInterpreter$Matcher", "find", "(IJ)V"⟩, 7) := ⟨⟨by decide +kernel, by decide +kernel⟩, List.mem_of_getElem? (i := 69) (by decide +kernel), List.mem_of_getElem? (i := 485) (by decide +kernel), List.mem_of_getElem? (i := 486) (by decide +kernel)⟩
theorem lw_p30 : lw_okq (⟨"ScopeInterpreter$Machine", "bindCaller", "(II)Z"⟩, 12) := ⟨⟨by decide +kernel, by decide +kernel⟩, List.mem_of_getElem? (i := 63) (by decide +kernel), List.mem_of_getElem? (i := 510) (by decide +kernel), List.mem_of_getElem? (i := 511) (by decide +kernel)⟩
theorem lw_p31 : lw_okq (⟨"ScopeInterpreter$Machine", "callPrimitive", "(I)V"⟩, 12) := ⟨⟨by decide +kernel, by decide +kernel⟩, List.mem_of_getElem? (i := 63) (by decide +kernel), List.mem_of_getElem? (i := 519) (by decide +kernel), List.mem_of_getElem? (i := 520) (by decide +kernel)⟩
def lw_privs_2 : List (MethodName × Nat) := [(⟨"ScopeInterpreter$Machine", "evaluateWithFrame", "(JIJJI)V"⟩, 12), (⟨"ScopeInterpreter$Machine", "lookUp", "(I)V"⟩, 12), (⟨"ScopeInterpreter$Machine", "giveBack", "(J)V"⟩, 12), (⟨"ScopeInterpreter$Machine", "combineCurrent", "()V"⟩, 12), (⟨"ScopeInterpreter$Machine", "combineApplicative", "()V"⟩, 12), (⟨"ScopeInterpreter$Machine", "evaluateArguments", "(JJI)V"⟩, 12), (⟨"ScopeInterpreter$Machine", "combineWithArguments", "(JI)V"⟩, 12), (⟨"ScopeInterpreter$Machine", "combine", "(JJ)V"⟩, 12), (⟨"ScopeInterpreter$Machine", "combineCompound", "(I)V"⟩, 12), (⟨"ScopeInterpreter$Matcher", "start", "(JJ)V"⟩, 7), (⟨"ScopeInterpreter$Matcher", "putOff", "(JJ)V"⟩, 7), (⟨"ScopeInterpreter$Matcher", "takeTree", "()J"⟩, 7), (⟨"ScopeInterpreter$Matcher", "takenPart", "()J"⟩, 7), (⟨"ScopeInterpreter$Matcher", "find", "(IJ)V"⟩, 7), (⟨"ScopeInterpreter$Machine", "bindCaller", "(II)Z"⟩, 12), (⟨"ScopeInterpreter$Machine", "callPrimitive", "(I)V"⟩, 12)]
theorem lw_r2 : ∀ q ∈ lw_privs_2, lw_okq q := List.forall_mem_cons.mpr ⟨lw_p16, List.forall_mem_cons.mpr ⟨lw_p17, List.forall_mem_cons.mpr ⟨lw_p18, List.forall_mem_cons.mpr ⟨lw_p19, List.forall_mem_cons.mpr ⟨lw_p20, List.forall_mem_cons.mpr ⟨lw_p21, List.forall_mem_cons.mpr ⟨lw_p22, List.forall_mem_cons.mpr ⟨lw_p23, List.forall_mem_cons.mpr ⟨lw_p24, List.forall_mem_cons.mpr ⟨lw_p25, List.forall_mem_cons.mpr ⟨lw_p26, List.forall_mem_cons.mpr ⟨lw_p27, List.forall_mem_cons.mpr ⟨lw_p28, List.forall_mem_cons.mpr ⟨lw_p29, List.forall_mem_cons.mpr ⟨lw_p30, List.forall_mem_cons.mpr ⟨lw_p31, fun _ h => absurd h List.not_mem_nil⟩⟩⟩⟩⟩⟩⟩⟩⟩⟩⟩⟩⟩⟩⟩⟩
theorem lw_p32 : lw_okq (⟨"ScopeInterpreter$Machine", "hasDueCount", "(II)Z"⟩, 12) := ⟨⟨by decide +kernel, by decide +kernel⟩, List.mem_of_getElem? (i := 63) (by decide +kernel), List.mem_of_getElem? (i := 523) (by decide +kernel), List.mem_of_getElem? (i := 524) (by decide +kernel)⟩
theorem lw_p33 : lw_okq (⟨"ScopeInterpreter$Machine", "haveDueKinds", "(II)Z"⟩, 12) := ⟨⟨by decide +kernel, by decide +kernel⟩, List.mem_of_getElem? (i := 63) (by decide +kernel), List.mem_of_getElem? (i := 529) (by decide +kernel), List.mem_of_getElem? (i := 530) (by decide +kernel)⟩
theorem lw_p34 : lw_okq (⟨"ScopeInterpreter$Machine", "operand", "(I)J"⟩, 12) := ⟨⟨by decide +kernel, by decide +kernel⟩, List.mem_of_getElem? (i := 63) (by decide +kernel), List.mem_of_getElem? (i := 533) (by decide +kernel), List.mem_of_getElem? (i := 534) (by decide +kernel)⟩
theorem lw_p35 : lw_okq (⟨"ScopeInterpreter$Machine", "canNameCaller", "(J)Z"⟩, 12) := ⟨⟨by decide +kernel, by decide +kernel⟩, List.mem_of_getElem? (i := 63) (by decide +kernel), List.mem_of_getElem? (i := 549) (by decide +kernel), List.mem_of_getElem? (i := 550) (by decide +kernel)⟩
theorem lw_p36 : lw_okq (⟨"ScopeInterpreter$Machine", "isOperand", "(II)Z"⟩, 12) := ⟨⟨by decide +kernel, by decide +kernel⟩, List.mem_of_getElem? (i := 63) (by decide +kernel), List.mem_of_getElem? (i := 555) (by decide +kernel), List.mem_of_getElem? (i := 556) (by decide +kernel)⟩
theorem lw_p37 : lw_okq (⟨"ScopeInterpreter$Machine", "areIntegers", "()Z"⟩, 12) := ⟨⟨by decide +kernel, by decide +kernel⟩, List.mem_of_getElem? (i := 63) (by decide +kernel), List.mem_of_getElem? (i := 559) (by decide +kernel), List.mem_of_getElem? (i := 560) (by decide +kernel)⟩
theorem lw_p38 : lw_okq (⟨"ScopeInterpreter$Machine", "callSpecial", "(I)V"⟩, 12) := ⟨⟨by decide +kernel, by decide +kernel⟩, List.mem_of_getElem? (i := 63) (by decide +kernel), List.mem_of_getElem? (i := 567) (by decide +kernel), List.mem_of_getElem? (i := 568) (by decide +kernel)⟩
theorem lw_p39 : lw_okq (⟨"ScopeInterpreter$Machine", "makeOperative", "(JJJ)V"⟩, 12) := ⟨⟨by decide +kernel, by decide +kernel⟩, List.mem_of_getElem? (i := 63) (by decide +kernel), List.mem_of_getElem? (i := 571) (by decide +kernel), List.mem_of_getElem? (i := 572) (by decide +kernel)⟩
theorem lw_p40 : lw_okq (⟨"ScopeInterpreter$Machine", "giveBackNew", "(II)V"⟩, 12) := ⟨⟨by decide +kernel, by decide +kernel⟩, List.mem_of_getElem? (i := 63) (by decide +kernel), List.mem_of_getElem? (i := 579) (by decide +kernel), List.mem_of_getElem? (i := 580) (by decide +kernel)⟩
theorem lw_p41 : lw_okq (⟨"ScopeInterpreter$Machine", "makeFunction", "(JJ)V"⟩, 12) := ⟨⟨by decide +kernel, by decide +kernel⟩, List.mem_of_getElem? (i := 63) (by decide +kernel), List.mem_of_getElem? (i := 583) (by decide +kernel), List.mem_of_getElem? (i := 584) (by decide +kernel)⟩
theorem lw_p42 : lw_okq (⟨"ScopeInterpreter$Machine", "evaluateSequence", "(J)V"⟩, 12) := ⟨⟨by decide +kernel, by decide +kernel⟩, List.mem_of_getElem? (i := 63) (by decide +kernel), List.mem_of_getElem? (i := 591) (by decide +kernel), List.mem_of_getElem? (i := 592) (by decide +kernel)⟩
theorem lw_p43 : lw_okq (⟨"ScopeInterpreter$Machine", "callDataFunction", "(I)V"⟩, 12) := ⟨⟨by decide +kernel, by decide +kernel⟩, List.mem_of_getElem? (i := 63) (by decide +kernel), List.mem_of_getElem? (i := 595) (by decide +kernel), List.mem_of_getElem? (i := 596) (by decide +kernel)⟩
theorem lw_p44 : lw_okq (⟨"ScopeInterpreter$Machine", "accumulate", "(Z)V"⟩, 12) := ⟨⟨by decide +kernel, by decide +kernel⟩, List.mem_of_getElem? (i := 63) (by decide +kernel), List.mem_of_getElem? (i := 599) (by decide +kernel), List.mem_of_getElem? (i := 600) (by decide +kernel)⟩
theorem lw_p45 : lw_okq (⟨"ScopeInterpreter$Machine", "giveBackInteger", "(J)V"⟩, 12) := ⟨⟨by decide +kernel, by decide +kernel⟩, List.mem_of_getElem? (i := 63) (by decide +kernel), List.mem_of_getElem? (i := 612) (by decide +kernel), List.mem_of_getElem? (i := 613) (by decide +kernel)⟩
theorem lw_p46 : lw_okq (⟨"ScopeInterpreter$Machine", "callScopeFunction", "(II)V"⟩, 12) := ⟨⟨by decide +kernel, by decide +kernel⟩, List.mem_of_getElem? (i := 63) (by decide +kernel), List.mem_of_getElem? (i := 617) (by decide +kernel), List.mem_of_getElem? (i := 618) (by decide +kernel)⟩
theorem lw_p47 : lw_okq (⟨"ScopeInterpreter$Machine", "makeEnvironment", "(I)V"⟩, 12) := ⟨⟨by decide +kernel, by decide +kernel⟩, List.mem_of_getElem? (i := 63) (by decide +kernel), List.mem_of_getElem? (i := 621) (by decide +kernel), List.mem_of_getElem? (i := 622) (by decide +kernel)⟩
def lw_privs_3 : List (MethodName × Nat) := [(⟨"ScopeInterpreter$Machine", "hasDueCount", "(II)Z"⟩, 12), (⟨"ScopeInterpreter$Machine", "haveDueKinds", "(II)Z"⟩, 12), (⟨"ScopeInterpreter$Machine", "operand", "(I)J"⟩, 12), (⟨"ScopeInterpreter$Machine", "canNameCaller", "(J)Z"⟩, 12), (⟨"ScopeInterpreter$Machine", "isOperand", "(II)Z"⟩, 12), (⟨"ScopeInterpreter$Machine", "areIntegers", "()Z"⟩, 12), (⟨"ScopeInterpreter$Machine", "callSpecial", "(I)V"⟩, 12), (⟨"ScopeInterpreter$Machine", "makeOperative", "(JJJ)V"⟩, 12), (⟨"ScopeInterpreter$Machine", "giveBackNew", "(II)V"⟩, 12), (⟨"ScopeInterpreter$Machine", "makeFunction", "(JJ)V"⟩, 12), (⟨"ScopeInterpreter$Machine", "evaluateSequence", "(J)V"⟩, 12), (⟨"ScopeInterpreter$Machine", "callDataFunction", "(I)V"⟩, 12), (⟨"ScopeInterpreter$Machine", "accumulate", "(Z)V"⟩, 12), (⟨"ScopeInterpreter$Machine", "giveBackInteger", "(J)V"⟩, 12), (⟨"ScopeInterpreter$Machine", "callScopeFunction", "(II)V"⟩, 12), (⟨"ScopeInterpreter$Machine", "makeEnvironment", "(I)V"⟩, 12)]
theorem lw_r3 : ∀ q ∈ lw_privs_3, lw_okq q := List.forall_mem_cons.mpr ⟨lw_p32, List.forall_mem_cons.mpr ⟨lw_p33, List.forall_mem_cons.mpr ⟨lw_p34, List.forall_mem_cons.mpr ⟨lw_p35, List.forall_mem_cons.mpr ⟨lw_p36, List.forall_mem_cons.mpr ⟨lw_p37, List.forall_mem_cons.mpr ⟨lw_p38, List.forall_mem_cons.mpr ⟨lw_p39, List.forall_mem_cons.mpr ⟨lw_p40, List.forall_mem_cons.mpr ⟨lw_p41, List.forall_mem_cons.mpr ⟨lw_p42, List.forall_mem_cons.mpr ⟨lw_p43, List.forall_mem_cons.mpr ⟨lw_p44, List.forall_mem_cons.mpr ⟨lw_p45, List.forall_mem_cons.mpr ⟨lw_p46, List.forall_mem_cons.mpr ⟨lw_p47, fun _ h => absurd h List.not_mem_nil⟩⟩⟩⟩⟩⟩⟩⟩⟩⟩⟩⟩⟩⟩⟩⟩
theorem lw_p48 : lw_okq (⟨"ScopeInterpreter$Machine", "applyWithoutScope", "()V"⟩, 12) := ⟨⟨by decide +kernel, by decide +kernel⟩, List.mem_of_getElem? (i := 63) (by decide +kernel), List.mem_of_getElem? (i := 625) (by decide +kernel), List.mem_of_getElem? (i := 626) (by decide +kernel)⟩
theorem lw_p49 : lw_okq (⟨"ScopeInterpreter$Machine", "returnCurrent", "()V"⟩, 12) := ⟨⟨by decide +kernel, by decide +kernel⟩, List.mem_of_getElem? (i := 63) (by decide +kernel), List.mem_of_getElem? (i := 629) (by decide +kernel), List.mem_of_getElem? (i := 630) (by decide +kernel)⟩
theorem lw_p50 : lw_okq (⟨"ScopeInterpreter$Frames", "canRead", "()Z"⟩, 7) := ⟨⟨by decide +kernel, by decide +kernel⟩, List.mem_of_getElem? (i := 98) (by decide +kernel), List.mem_of_getElem? (i := 645) (by decide +kernel), List.mem_of_getElem? (i := 646) (by decide +kernel)⟩
theorem lw_p51 : lw_okq (⟨"ScopeInterpreter$Machine", "takeArgument", "(JJI)V"⟩, 12) := ⟨⟨by decide +kernel, by decide +kernel⟩, List.mem_of_getElem? (i := 63) (by decide +kernel), List.mem_of_getElem? (i := 666) (by decide +kernel), List.mem_of_getElem? (i := 667) (by decide +kernel)⟩
theorem lw_p52 : lw_okq (⟨"ScopeInterpreter$Machine", "choose", "(J)V"⟩, 12) := ⟨⟨by decide +kernel, by decide +kernel⟩, List.mem_of_getElem? (i := 63) (by decide +kernel), List.mem_of_getElem? (i := 670) (by decide +kernel), List.mem_of_getElem? (i := 671) (by decide +kernel)⟩
theorem lw_p53 : lw_okq (⟨"ScopeInterpreter$Machine", "bindCurrent", "(IJ)V"⟩, 12) := ⟨⟨by decide +kernel, by decide +kernel⟩, List.mem_of_getElem? (i := 63) (by decide +kernel), List.mem_of_getElem? (i := 674) (by decide +kernel), List.mem_of_getElem? (i := 675) (by decide +kernel)⟩
theorem lw_p54 : lw_okq (⟨"ScopeInterpreter$Machine", "takePlace", "(J)V"⟩, 12) := ⟨⟨by decide +kernel, by decide +kernel⟩, List.mem_of_getElem? (i := 63) (by decide +kernel), List.mem_of_getElem? (i := 683) (by decide +kernel), List.mem_of_getElem? (i := 684) (by decide +kernel)⟩
theorem lw_p55 : lw_okq (⟨"ScopeInterpreterModel", "begin", "()V"⟩, 36) := ⟨⟨by decide +kernel, by decide +kernel⟩, List.mem_of_getElem? (i := 723) (by decide +kernel), List.mem_of_getElem? (i := 729) (by decide +kernel), List.mem_of_getElem? (i := 730) (by decide +kernel)⟩
theorem lw_p56 : lw_okq (⟨"ScopeInterpreterModel", "pushes", "(J)I"⟩, 36) := ⟨⟨by decide +kernel, by decide +kernel⟩, List.mem_of_getElem? (i := 723) (by decide +kernel), List.mem_of_getElem? (i := 860) (by decide +kernel), List.mem_of_getElem? (i := 861) (by decide +kernel)⟩
theorem lw_p57 : lw_okq (⟨"ScopeInterpreterModel", "depthBarred", "(I)I"⟩, 36) := ⟨⟨by decide +kernel, by decide +kernel⟩, List.mem_of_getElem? (i := 723) (by decide +kernel), List.mem_of_getElem? (i := 890) (by decide +kernel), List.mem_of_getElem? (i := 891) (by decide +kernel)⟩
theorem lw_p58 : lw_okq (⟨"ScopeInterpreterModel", "at", "(I)J"⟩, 36) := ⟨⟨by decide +kernel, by decide +kernel⟩, List.mem_of_getElem? (i := 723) (by decide +kernel), List.mem_of_getElem? (i := 894) (by decide +kernel), List.mem_of_getElem? (i := 895) (by decide +kernel)⟩
theorem lw_p59 : lw_okq (⟨"ScopeInterpreterModel", "carOf", "(J)J"⟩, 36) := ⟨⟨by decide +kernel, by decide +kernel⟩, List.mem_of_getElem? (i := 723) (by decide +kernel), List.mem_of_getElem? (i := 906) (by decide +kernel), List.mem_of_getElem? (i := 907) (by decide +kernel)⟩
theorem lw_p60 : lw_okq (⟨"ScopeInterpreterModel", "indexOf", "(J)I"⟩, 36) := ⟨⟨by decide +kernel, by decide +kernel⟩, List.mem_of_getElem? (i := 723) (by decide +kernel), List.mem_of_getElem? (i := 910) (by decide +kernel), List.mem_of_getElem? (i := 911) (by decide +kernel)⟩
theorem lw_p61 : lw_okq (⟨"ScopeInterpreterModel", "cdrOf", "(J)J"⟩, 36) := ⟨⟨by decide +kernel, by decide +kernel⟩, List.mem_of_getElem? (i := 723) (by decide +kernel), List.mem_of_getElem? (i := 917) (by decide +kernel), List.mem_of_getElem? (i := 918) (by decide +kernel)⟩
theorem lw_p62 : lw_okq (⟨"ScopeInterpreterModel", "underOf", "(J)J"⟩, 36) := ⟨⟨by decide +kernel, by decide +kernel⟩, List.mem_of_getElem? (i := 723) (by decide +kernel), List.mem_of_getElem? (i := 921) (by decide +kernel), List.mem_of_getElem? (i := 922) (by decide +kernel)⟩
theorem lw_p63 : lw_okq (⟨"ScopeInterpreterModel", "parentOf", "(J)J"⟩, 36) := ⟨⟨by decide +kernel, by decide +kernel⟩, List.mem_of_getElem? (i := 723) (by decide +kernel), List.mem_of_getElem? (i := 925) (by decide +kernel), List.mem_of_getElem? (i := 926) (by decide +kernel)⟩
def lw_privs_4 : List (MethodName × Nat) := [(⟨"ScopeInterpreter$Machine", "applyWithoutScope", "()V"⟩, 12), (⟨"ScopeInterpreter$Machine", "returnCurrent", "()V"⟩, 12), (⟨"ScopeInterpreter$Frames", "canRead", "()Z"⟩, 7), (⟨"ScopeInterpreter$Machine", "takeArgument", "(JJI)V"⟩, 12), (⟨"ScopeInterpreter$Machine", "choose", "(J)V"⟩, 12), (⟨"ScopeInterpreter$Machine", "bindCurrent", "(IJ)V"⟩, 12), (⟨"ScopeInterpreter$Machine", "takePlace", "(J)V"⟩, 12), (⟨"ScopeInterpreterModel", "begin", "()V"⟩, 36), (⟨"ScopeInterpreterModel", "pushes", "(J)I"⟩, 36), (⟨"ScopeInterpreterModel", "depthBarred", "(I)I"⟩, 36), (⟨"ScopeInterpreterModel", "at", "(I)J"⟩, 36), (⟨"ScopeInterpreterModel", "carOf", "(J)J"⟩, 36), (⟨"ScopeInterpreterModel", "indexOf", "(J)I"⟩, 36), (⟨"ScopeInterpreterModel", "cdrOf", "(J)J"⟩, 36), (⟨"ScopeInterpreterModel", "underOf", "(J)J"⟩, 36), (⟨"ScopeInterpreterModel", "parentOf", "(J)J"⟩, 36)]
theorem lw_r4 : ∀ q ∈ lw_privs_4, lw_okq q := List.forall_mem_cons.mpr ⟨lw_p48, List.forall_mem_cons.mpr ⟨lw_p49, List.forall_mem_cons.mpr ⟨lw_p50, List.forall_mem_cons.mpr ⟨lw_p51, List.forall_mem_cons.mpr ⟨lw_p52, List.forall_mem_cons.mpr ⟨lw_p53, List.forall_mem_cons.mpr ⟨lw_p54, List.forall_mem_cons.mpr ⟨lw_p55, List.forall_mem_cons.mpr ⟨lw_p56, List.forall_mem_cons.mpr ⟨lw_p57, List.forall_mem_cons.mpr ⟨lw_p58, List.forall_mem_cons.mpr ⟨lw_p59, List.forall_mem_cons.mpr ⟨lw_p60, List.forall_mem_cons.mpr ⟨lw_p61, List.forall_mem_cons.mpr ⟨lw_p62, List.forall_mem_cons.mpr ⟨lw_p63, fun _ h => absurd h List.not_mem_nil⟩⟩⟩⟩⟩⟩⟩⟩⟩⟩⟩⟩⟩⟩⟩⟩
theorem lw_p64 : lw_okq (⟨"ScopeInterpreterModel", "finds", "(JI)Z"⟩, 36) := ⟨⟨by decide +kernel, by decide +kernel⟩, List.mem_of_getElem? (i := 723) (by decide +kernel), List.mem_of_getElem? (i := 934) (by decide +kernel), List.mem_of_getElem? (i := 935) (by decide +kernel)⟩
theorem lw_p65 : lw_okq (⟨"ScopeInterpreterModel", "findsOwn", "(JI)Z"⟩, 36) := ⟨⟨by decide +kernel, by decide +kernel⟩, List.mem_of_getElem? (i := 723) (by decide +kernel), List.mem_of_getElem? (i := 938) (by decide +kernel), List.mem_of_getElem? (i := 939) (by decide +kernel)⟩
theorem lw_p66 : lw_okq (⟨"ScopeInterpreterModel", "isFull", "()Z"⟩, 36) := ⟨⟨by decide +kernel, by decide +kernel⟩, List.mem_of_getElem? (i := 723) (by decide +kernel), List.mem_of_getElem? (i := 946) (by decide +kernel), List.mem_of_getElem? (i := 947) (by decide +kernel)⟩
theorem lw_p67 : lw_okq (⟨"ScopeInterpreterModel", "adds", "(IJJ)J"⟩, 36) := ⟨⟨by decide +kernel, by decide +kernel⟩, List.mem_of_getElem? (i := 723) (by decide +kernel), List.mem_of_getElem? (i := 950) (by decide +kernel), List.mem_of_getElem? (i := 951) (by decide +kernel)⟩
theorem lw_p68 : lw_okq (⟨"ScopeInterpreterModel", "longOf", "(J)I"⟩, 36) := ⟨⟨by decide +kernel, by decide +kernel⟩, List.mem_of_getElem? (i := 723) (by decide +kernel), List.mem_of_getElem? (i := 991) (by decide +kernel), List.mem_of_getElem? (i := 992) (by decide +kernel)⟩
theorem lw_p69 : lw_okq (⟨"ScopeInterpreterModel", "goesTo", "(JJ)I"⟩, 36) := ⟨⟨by decide +kernel, by decide +kernel⟩, List.mem_of_getElem? (i := 723) (by decide +kernel), List.mem_of_getElem? (i := 1003) (by decide +kernel), List.mem_of_getElem? (i := 1004) (by decide +kernel)⟩
theorem lw_p70 : lw_okq (⟨"ScopeInterpreterModel", "runs", "()I"⟩, 36) := ⟨⟨by decide +kernel, by decide +kernel⟩, List.mem_of_getElem? (i := 723) (by decide +kernel), List.mem_of_getElem? (i := 1007) (by decide +kernel), List.mem_of_getElem? (i := 1008) (by decide +kernel)⟩
theorem lw_p71 : lw_okq (⟨"ScopeInterpreterModel", "evaluatesOne", "()I"⟩, 36) := ⟨⟨by decide +kernel, by decide +kernel⟩, List.mem_of_getElem? (i := 723) (by decide +kernel), List.mem_of_getElem? (i := 1011) (by decide +kernel), List.mem_of_getElem? (i := 1012) (by decide +kernel)⟩
theorem lw_p72 : lw_okq (⟨"ScopeInterpreterModel", "goesWith", "(IJJIJJ)I"⟩, 36) := ⟨⟨by decide +kernel, by decide +kernel⟩, List.mem_of_getElem? (i := 723) (by decide +kernel), List.mem_of_getElem? (i := 1015) (by decide +kernel), List.mem_of_getElem? (i := 1016) (by decide +kernel)⟩
theorem lw_p73 : lw_okq (⟨"ScopeInterpreterModel", "gives", "(J)I"⟩, 36) := ⟨⟨by decide +kernel, by decide +kernel⟩, List.mem_of_getElem? (i := 723) (by decide +kernel), List.mem_of_getElem? (i := 1019) (by decide +kernel), List.mem_of_getElem? (i := 1020) (by decide +kernel)⟩
theorem lw_p74 : lw_okq (⟨"ScopeInterpreterModel", "combinesOne", "()I"⟩, 36) := ⟨⟨by decide +kernel, by decide +kernel⟩, List.mem_of_getElem? (i := 723) (by decide +kernel), List.mem_of_getElem? (i := 1023) (by decide +kernel), List.mem_of_getElem? (i := 1024) (by decide +kernel)⟩
theorem lw_p75 : lw_okq (⟨"ScopeInterpreterModel", "goesOn", "(JJJI)I"⟩, 36) := ⟨⟨by decide +kernel, by decide +kernel⟩, List.mem_of_getElem? (i := 723) (by decide +kernel), List.mem_of_getElem? (i := 1027) (by decide +kernel), List.mem_of_getElem? (i := 1028) (by decide +kernel)⟩
theorem lw_p76 : lw_okq (⟨"ScopeInterpreterModel", "combines", "(JJJ)I"⟩, 36) := ⟨⟨by decide +kernel, by decide +kernel⟩, List.mem_of_getElem? (i := 723) (by decide +kernel), List.mem_of_getElem? (i := 1031) (by decide +kernel), List.mem_of_getElem? (i := 1032) (by decide +kernel)⟩
theorem lw_p77 : lw_okq (⟨"ScopeInterpreterModel", "combinesPrimitive", "(I)I"⟩, 36) := ⟨⟨by decide +kernel, by decide +kernel⟩, List.mem_of_getElem? (i := 723) (by decide +kernel), List.mem_of_getElem? (i := 1035) (by decide +kernel), List.mem_of_getElem? (i := 1036) (by decide +kernel)⟩
theorem lw_p78 : lw_okq (⟨"ScopeInterpreterModel", "combinesPart", "(II)I"⟩, 36) := ⟨⟨by decide +kernel, by decide +kernel⟩, List.mem_of_getElem? (i := 723) (by decide +kernel), List.mem_of_getElem? (i := 1039) (by decide +kernel), List.mem_of_getElem? (i := 1040) (by decide +kernel)⟩
theorem lw_p79 : lw_okq (⟨"ScopeInterpreterModel", "elementOf", "(JI)J"⟩, 36) := ⟨⟨by decide +kernel, by decide +kernel⟩, List.mem_of_getElem? (i := 723) (by decide +kernel), List.mem_of_getElem? (i := 1043) (by decide +kernel), List.mem_of_getElem? (i := 1044) (by decide +kernel)⟩
def lw_privs_5 : List (MethodName × Nat) := [(⟨"ScopeInterpreterModel", "finds", "(JI)Z"⟩, 36), (⟨"ScopeInterpreterModel", "findsOwn", "(JI)Z"⟩, 36), (⟨"ScopeInterpreterModel", "isFull", "()Z"⟩, 36), (⟨"ScopeInterpreterModel", "adds", "(IJJ)J"⟩, 36), (⟨"ScopeInterpreterModel", "longOf", "(J)I"⟩, 36), (⟨"ScopeInterpreterModel", "goesTo", "(JJ)I"⟩, 36), (⟨"ScopeInterpreterModel", "runs", "()I"⟩, 36), (⟨"ScopeInterpreterModel", "evaluatesOne", "()I"⟩, 36), (⟨"ScopeInterpreterModel", "goesWith", "(IJJIJJ)I"⟩, 36), (⟨"ScopeInterpreterModel", "gives", "(J)I"⟩, 36), (⟨"ScopeInterpreterModel", "combinesOne", "()I"⟩, 36), (⟨"ScopeInterpreterModel", "goesOn", "(JJJI)I"⟩, 36), (⟨"ScopeInterpreterModel", "combines", "(JJJ)I"⟩, 36), (⟨"ScopeInterpreterModel", "combinesPrimitive", "(I)I"⟩, 36), (⟨"ScopeInterpreterModel", "combinesPart", "(II)I"⟩, 36), (⟨"ScopeInterpreterModel", "elementOf", "(JI)J"⟩, 36)]
theorem lw_r5 : ∀ q ∈ lw_privs_5, lw_okq q := List.forall_mem_cons.mpr ⟨lw_p64, List.forall_mem_cons.mpr ⟨lw_p65, List.forall_mem_cons.mpr ⟨lw_p66, List.forall_mem_cons.mpr ⟨lw_p67, List.forall_mem_cons.mpr ⟨lw_p68, List.forall_mem_cons.mpr ⟨lw_p69, List.forall_mem_cons.mpr ⟨lw_p70, List.forall_mem_cons.mpr ⟨lw_p71, List.forall_mem_cons.mpr ⟨lw_p72, List.forall_mem_cons.mpr ⟨lw_p73, List.forall_mem_cons.mpr ⟨lw_p74, List.forall_mem_cons.mpr ⟨lw_p75, List.forall_mem_cons.mpr ⟨lw_p76, List.forall_mem_cons.mpr ⟨lw_p77, List.forall_mem_cons.mpr ⟨lw_p78, List.forall_mem_cons.mpr ⟨lw_p79, fun _ h => absurd h List.not_mem_nil⟩⟩⟩⟩⟩⟩⟩⟩⟩⟩⟩⟩⟩⟩⟩⟩
theorem lw_p80 : lw_okq (⟨"ScopeInterpreterModel", "makesOperative", "(JJJZ)I"⟩, 36) := ⟨⟨by decide +kernel, by decide +kernel⟩, List.mem_of_getElem? (i := 723) (by decide +kernel), List.mem_of_getElem? (i := 1047) (by decide +kernel), List.mem_of_getElem? (i := 1048) (by decide +kernel)⟩
theorem lw_p81 : lw_okq (⟨"ScopeInterpreterModel", "isTree", "(J)Z"⟩, 36) := ⟨⟨by decide +kernel, by decide +kernel⟩, List.mem_of_getElem? (i := 723) (by decide +kernel), List.mem_of_getElem? (i := 1051) (by decide +kernel), List.mem_of_getElem? (i := 1052) (by decide +kernel)⟩
theorem lw_p82 : lw_okq (⟨"ScopeInterpreterModel", "beginsWith", "(JJ)I"⟩, 36) := ⟨⟨by decide +kernel, by decide +kernel⟩, List.mem_of_getElem? (i := 723) (by decide +kernel), List.mem_of_getElem? (i := 1058) (by decide +kernel), List.mem_of_getElem? (i := 1059) (by decide +kernel)⟩
theorem lw_p83 : lw_okq (⟨"ScopeInterpreterModel", "reckons", "(Z)I"⟩, 36) := ⟨⟨by decide +kernel, by decide +kernel⟩, List.mem_of_getElem? (i := 723) (by decide +kernel), List.mem_of_getElem? (i := 1062) (by decide +kernel), List.mem_of_getElem? (i := 1063) (by decide +kernel)⟩
theorem lw_p84 : lw_okq (⟨"ScopeInterpreterModel", "createsEnvironment", "(I)I"⟩, 36) := ⟨⟨by decide +kernel, by decide +kernel⟩, List.mem_of_getElem? (i := 723) (by decide +kernel), List.mem_of_getElem? (i := 1073) (by decide +kernel), List.mem_of_getElem? (i := 1074) (by decide +kernel)⟩
theorem lw_p85 : lw_okq (⟨"ScopeInterpreterModel", "addsEnvironment", "(J)J"⟩, 36) := ⟨⟨by decide +kernel, by decide +kernel⟩, List.mem_of_getElem? (i := 723) (by decide +kernel), List.mem_of_getElem? (i := 1077) (by decide +kernel), List.mem_of_getElem? (i := 1078) (by decide +kernel)⟩
theorem lw_p86 : lw_okq (⟨"ScopeInterpreterModel", "combinesTwo", "(IJJ)I"⟩, 36) := ⟨⟨by decide +kernel, by decide +kernel⟩, List.mem_of_getElem? (i := 723) (by decide +kernel), List.mem_of_getElem? (i := 1081) (by decide +kernel), List.mem_of_getElem? (i := 1082) (by decide +kernel)⟩
theorem lw_p87 : lw_okq (⟨"ScopeInterpreterModel", "creates", "(IJJ)I"⟩, 36) := ⟨⟨by decide +kernel, by decide +kernel⟩, List.mem_of_getElem? (i := 723) (by decide +kernel), List.mem_of_getElem? (i := 1085) (by decide +kernel), List.mem_of_getElem? (i := 1086) (by decide +kernel)⟩
theorem lw_p88 : lw_okq (⟨"ScopeInterpreterModel", "combinesSingle", "(IJ)I"⟩, 36) := ⟨⟨by decide +kernel, by decide +kernel⟩, List.mem_of_getElem? (i := 723) (by decide +kernel), List.mem_of_getElem? (i := 1089) (by decide +kernel), List.mem_of_getElem? (i := 1090) (by decide +kernel)⟩
theorem lw_p89 : lw_okq (⟨"ScopeInterpreterModel", "combinesCompound", "()I"⟩, 36) := ⟨⟨by decide +kernel, by decide +kernel⟩, List.mem_of_getElem? (i := 723) (by decide +kernel), List.mem_of_getElem? (i := 1093) (by decide +kernel), List.mem_of_getElem? (i := 1094) (by decide +kernel)⟩
theorem lw_p90 : lw_okq (⟨"ScopeInterpreterModel", "matches", "(JJ)Z"⟩, 36) := ⟨⟨by decide +kernel, by decide +kernel⟩, List.mem_of_getElem? (i := 723) (by decide +kernel), List.mem_of_getElem? (i := 1097) (by decide +kernel), List.mem_of_getElem? (i := 1098) (by decide +kernel)⟩
theorem lw_p91 : lw_okq (⟨"ScopeInterpreterModel", "binds", "(JIJ)Z"⟩, 36) := ⟨⟨by decide +kernel, by decide +kernel⟩, List.mem_of_getElem? (i := 723) (by decide +kernel), List.mem_of_getElem? (i := 1101) (by decide +kernel), List.mem_of_getElem? (i := 1102) (by decide +kernel)⟩
theorem lw_p92 : lw_okq (⟨"ScopeInterpreterModel", "takesResult", "()I"⟩, 36) := ⟨⟨by decide +kernel, by decide +kernel⟩, List.mem_of_getElem? (i := 723) (by decide +kernel), List.mem_of_getElem? (i := 1105) (by decide +kernel), List.mem_of_getElem? (i := 1106) (by decide +kernel)⟩
theorem lw_p93 : lw_okq (⟨"ScopeInterpreterModel", "givesBound", "(JIJ)I"⟩, 36) := ⟨⟨by decide +kernel, by decide +kernel⟩, List.mem_of_getElem? (i := 723) (by decide +kernel), List.mem_of_getElem? (i := 1109) (by decide +kernel), List.mem_of_getElem? (i := 1110) (by decide +kernel)⟩
def lw_privs_6 : List (MethodName × Nat) := [(⟨"ScopeInterpreterModel", "makesOperative", "(JJJZ)I"⟩, 36), (⟨"ScopeInterpreterModel", "isTree", "(J)Z"⟩, 36), (⟨"ScopeInterpreterModel", "beginsWith", "(JJ)I"⟩, 36), (⟨"ScopeInterpreterModel", "reckons", "(Z)I"⟩, 36), (⟨"ScopeInterpreterModel", "createsEnvironment", "(I)I"⟩, 36), (⟨"ScopeInterpreterModel", "addsEnvironment", "(J)J"⟩, 36), (⟨"ScopeInterpreterModel", "combinesTwo", "(IJJ)I"⟩, 36), (⟨"ScopeInterpreterModel", "creates", "(IJJ)I"⟩, 36), (⟨"ScopeInterpreterModel", "combinesSingle", "(IJ)I"⟩, 36), (⟨"ScopeInterpreterModel", "combinesCompound", "()I"⟩, 36), (⟨"ScopeInterpreterModel", "matches", "(JJ)Z"⟩, 36), (⟨"ScopeInterpreterModel", "binds", "(JIJ)Z"⟩, 36), (⟨"ScopeInterpreterModel", "takesResult", "()I"⟩, 36), (⟨"ScopeInterpreterModel", "givesBound", "(JIJ)I"⟩, 36)]
theorem lw_r6 : ∀ q ∈ lw_privs_6, lw_okq q := List.forall_mem_cons.mpr ⟨lw_p80, List.forall_mem_cons.mpr ⟨lw_p81, List.forall_mem_cons.mpr ⟨lw_p82, List.forall_mem_cons.mpr ⟨lw_p83, List.forall_mem_cons.mpr ⟨lw_p84, List.forall_mem_cons.mpr ⟨lw_p85, List.forall_mem_cons.mpr ⟨lw_p86, List.forall_mem_cons.mpr ⟨lw_p87, List.forall_mem_cons.mpr ⟨lw_p88, List.forall_mem_cons.mpr ⟨lw_p89, List.forall_mem_cons.mpr ⟨lw_p90, List.forall_mem_cons.mpr ⟨lw_p91, List.forall_mem_cons.mpr ⟨lw_p92, List.forall_mem_cons.mpr ⟨lw_p93, fun _ h => absurd h List.not_mem_nil⟩⟩⟩⟩⟩⟩⟩⟩⟩⟩⟩⟩⟩⟩
def lw_privs : List (MethodName × Nat) := lw_privs_1 ++ (lw_privs_2 ++ (lw_privs_3 ++ (lw_privs_4 ++ (lw_privs_5 ++ (lw_privs_6)))))
def lw_tbl : List Cond := k2_sels lw_privs ++ tables_1
theorem lw_privs_ok : ∀ q ∈ lw_privs, lw_okq q := by
  show ∀ q ∈ lw_privs_1 ++ (lw_privs_2 ++ (lw_privs_3 ++ (lw_privs_4 ++ (lw_privs_5 ++ (lw_privs_6))))), lw_okq q
  exact List.forall_mem_append.mpr ⟨lw_r1, List.forall_mem_append.mpr ⟨lw_r2, List.forall_mem_append.mpr ⟨lw_r3, List.forall_mem_append.mpr ⟨lw_r4, List.forall_mem_append.mpr ⟨lw_r5, lw_r6⟩⟩⟩⟩⟩
end
section
/-! ===== THE FRAME OF ALL WALKS: a method's bytecode against a Lean function, in lockstep ===== -/
abbrev kk_T : Type := va_G × (ClassId × ClassId × ClassId) × (Nat → Nat)
abbrev kD (K : kk_T) : va_G := K.1
abbrev kI (K : kk_T) : ClassId := K.2.1.1
abbrev kJ (K : kk_T) : ClassId := K.2.1.2.1
abbrev kZ (K : kk_T) : ClassId := K.2.1.2.2
abbrev kq (K : kk_T) : Nat → Nat := K.2.2
abbrev kt (K : kk_T) : List (ClassId × FieldType) := [(kI K, .int), (kJ K, .long), (kZ K, .boolean)]
abbrev cx_T : Type := Program × Launch × Env × Room × State × MethodId × Array Value × List Frame × Method × Code × kk_T × (Nat → Prop) × Nat × Nat
abbrev gp (Γ : cx_T) : Program := Γ.1
abbrev gl (Γ : cx_T) : Launch := Γ.2.1
abbrev ge (Γ : cx_T) : Env := Γ.2.2.1
abbrev gR (Γ : cx_T) : Room := Γ.2.2.2.1
abbrev gs (Γ : cx_T) : State := Γ.2.2.2.2.1
abbrev gm (Γ : cx_T) : MethodId := Γ.2.2.2.2.2.1
abbrev ga (Γ : cx_T) : Array Value := Γ.2.2.2.2.2.2.1
abbrev gb (Γ : cx_T) : List Frame := Γ.2.2.2.2.2.2.2.1
abbrev gM (Γ : cx_T) : Method := Γ.2.2.2.2.2.2.2.2.1
abbrev gc (Γ : cx_T) : Code := Γ.2.2.2.2.2.2.2.2.2.1
abbrev gK (Γ : cx_T) : kk_T := Γ.2.2.2.2.2.2.2.2.2.2.1
abbrev gA (Γ : cx_T) : Nat → Prop := Γ.2.2.2.2.2.2.2.2.2.2.2.1
abbrev gn (Γ : cx_T) : Nat := Γ.2.2.2.2.2.2.2.2.2.2.2.2.1
abbrev gt (Γ : cx_T) : Nat := Γ.2.2.2.2.2.2.2.2.2.2.2.2.2
/-- the words that every method is proved over -/
def gw : List Cond := lw_tbl.filter goodWord
theorem gw_at {w : Cond} (i : Nat) (h : lw_tbl[i]? = some w) (g : goodWord w = true) : w ∈ gw := List.mem_filter.mpr ⟨List.mem_of_getElem? h, g⟩
theorem gw_tbl {w : Cond} (h : w ∈ gw) : w ∈ lw_tbl := (List.mem_filter.mp h).1
theorem gw_good {w : Cond} (h : w ∈ gw) : (w.onTables && w.keeps) = true ∨ ∃ ty, w = .arrayClass ty := good_of_word (List.mem_filter.mp h).2
/-- what every method takes of the statics: the table of operand counts -/
def oc_t : List Int32 := [3, 3, 2, 2, 3, -1, 1, 0, -1, -1, -1, -1, 2, 2, 2, 2, 1, 1, 1, 1, 2, 1, 1, -1, 2, -1]
def oc_f (j : Nat) : Int32 := oc_t.getD j 0
def st_t (A : Nat → Prop) (U : State) (H : Heap) (t : Nat) : Prop := va_Z "ScopeInterpreter$Machine" "OPERAND_COUNTS" "[I" (.ref t) A U H ∧ va_T .int t 26 (fun j => .int (oc_f j)) A U H
def st_A (A : Nat → Prop) (U : State) (H : Heap) : Prop := ∃ t, st_t A U H t
theorem st_A.moved {A : Nat → Prop} {u U : State} {H : Heap} (hvm : u.vm.Alike U.vm) (h : st_A A u H) : st_A A U H := by
  obtain ⟨t, h1, h2⟩ := h
  exact ⟨t, h1.moved hvm, h2.moved hvm⟩
theorem st_A.kept {A : Nat → Prop} {U : State} {H H1 : Heap} (h : st_A A U H) (hq : ∀ a : Nat, a < H.size → ¬ A a → H1[a]? = H[a]?) : st_A A U H1 := by
  obtain ⟨t, h1, h2⟩ := h
  exact ⟨t, h1.kept hq, h2.kept hq⟩
theorem st_A.narrow {A B : Nat → Prop} {U : State} {H : Heap} (h : st_A A U H) (hAB : ∀ q, B q → A q) : st_A B U H := by
  obtain ⟨t, h1, h2⟩ := h
  exact ⟨t, h1.narrow hAB, h2.narrow hAB⟩
/-- the context of a walk: the class that owns the method, its code, its locals, its room (frames, words) -/
def cx_C {S : Type} (Γ : cx_T) (w : S → va_W) (cl : List vw_C) (own : String) (cc : ByteArray) (nL : Nat) (ret : Option FieldType) (rm : Nat × Nat) : Prop :=
  (gp Γ).tables.exec = Jvm.exec ∧ (gc Γ).code = cc ∧ (gc Γ).maxLocals = nL ∧ (gs Γ).vm.findClass own = some (gm Γ).cls ∧ (∀ x ∈ gw, x.before (ga Γ) (gs Γ) = true) ∧
  va_K (kD (gK Γ)) cl (kt (gK Γ)) (gs Γ) ∧ (∀ σ, va_D (gA Γ) (w σ)) ∧ (∀ q, (gs Γ).heap.size ≤ q → gA Γ q) ∧ ((gR Γ).frames = rm.1 ∧ (gR Γ).locals = rm.2) ∧ (gn Γ ≤ (gR Γ).cells ∧ gt Γ ≤ (gR Γ).slots) ∧ st_A (gA Γ) (gs Γ) (gs Γ).heap ∧ (gM Γ).sig.returnType = ret ∧ (gM Γ).locks = false
section
variable {S : Type} {Γ : cx_T} {w : S → va_W} {cl : List vw_C} {own : String} {cc : ByteArray} {nL : Nat} {ret : Option FieldType} {rm : Nat × Nat}
theorem cx_C.hx (C : cx_C Γ w cl own cc nL ret rm) : (gp Γ).tables.exec = Jvm.exec := C.1
theorem cx_C.hb (C : cx_C Γ w cl own cc nL ret rm) : (gc Γ).code = cc := C.2.1
theorem cx_C.hl (C : cx_C Γ w cl own cc nL ret rm) : (gc Γ).maxLocals = nL := C.2.2.1
theorem cx_C.ho (C : cx_C Γ w cl own cc nL ret rm) : (gs Γ).vm.findClass own = some (gm Γ).cls := C.2.2.2.1
theorem cx_C.ht (C : cx_C Γ w cl own cc nL ret rm) : ∀ x ∈ gw, x.before (ga Γ) (gs Γ) = true := C.2.2.2.2.1
theorem cx_C.hK (C : cx_C Γ w cl own cc nL ret rm) : va_K (kD (gK Γ)) cl (kt (gK Γ)) (gs Γ) := C.2.2.2.2.2.1
theorem cx_C.hD (C : cx_C Γ w cl own cc nL ret rm) : ∀ σ, va_D (gA Γ) (w σ) := C.2.2.2.2.2.2.1
theorem cx_C.hA (C : cx_C Γ w cl own cc nL ret rm) : ∀ q, (gs Γ).heap.size ≤ q → gA Γ q := C.2.2.2.2.2.2.2.1
theorem cx_C.hR (C : cx_C Γ w cl own cc nL ret rm) : (gR Γ).frames = rm.1 ∧ (gR Γ).locals = rm.2 := C.2.2.2.2.2.2.2.2.1
theorem cx_C.hr (C : cx_C Γ w cl own cc nL ret rm) : gn Γ ≤ (gR Γ).cells ∧ gt Γ ≤ (gR Γ).slots := C.2.2.2.2.2.2.2.2.2.1
theorem cx_C.hZ (C : cx_C Γ w cl own cc nL ret rm) : st_A (gA Γ) (gs Γ) (gs Γ).heap := C.2.2.2.2.2.2.2.2.2.2.1
theorem cx_C.hs (C : cx_C Γ w cl own cc nL ret rm) : (gM Γ).sig.returnType = ret := C.2.2.2.2.2.2.2.2.2.2.2.1
theorem cx_C.hk (C : cx_C Γ w cl own cc nL ret rm) : (gM Γ).locks = false := C.2.2.2.2.2.2.2.2.2.2.2.2
end
/-- the judgement: X is what the method's function still has to say; the machine stands at pc with these locals, this stack, the world of σ -/
def J {R S : Type} (Γ : cx_T) (w : S → va_W) (cl : List vw_C) (Qf : R → S → State → Prop) (X : Option (R × S)) (σ : S) (pc : Nat) (lv : List (Nat × Value)) (st : List Value) : Prop :=
  ∀ r σ', X = some (r, σ') → ∀ (H : Heap) (locs : List Loc) (ls : Array Slot), va_P (kD (gK Γ)) cl (w σ) H → va_S (gA Γ) (gs Γ).heap H locs → lv_has ls (gc Γ).maxLocals lv →
    W (gp Γ) (gl Γ) (ge Γ) (gR Γ) (gs Γ) (gm Γ) (ga Γ) (gb Γ) (gM Γ) (gc Γ) H locs (gn Γ) (gt Γ) (Qf r σ') (F0 (gm Γ) pc ls st)
/-- the shapes of a method's function: a value (nothing changes); a state; both; the same, perhaps nothing -/
def shP {R S : Type} (σ : S) (x : R) : Option (R × S) := some (x, σ)
def shV {S : Type} (x : S) : Option (Unit × S) := some ((), x)
def shT {R S : Type} (x : R × S) : Option (R × S) := some x
def shO {R S : Type} (x : Option (R × S)) : Option (R × S) := x
def shR {R S : Type} (σ : S) (x : Option R) : Option (R × S) := x.map (fun r => (r, σ))
def shU {S : Type} (x : Option S) : Option (Unit × S) := x.map (fun σ => ((), σ))
def st1 (i : Nat) (v : Value) (lv : List (Nat × Value)) : List (Nat × Value) := (i, v) :: lv.filter (fun q => !(q.1 == i) && !(q.1 + 1 == i && q.2.category == 2))
def st2 (i : Nat) (v : Value) (lv : List (Nat × Value)) : List (Nat × Value) := (i, v) :: lv.filter (fun q => !(q.1 == i) && (!(q.1 == i + 1) && !(q.1 + 1 == i && q.2.category == 2)))
section
variable {R S : Type} {Γ : cx_T} {w : S → va_W} {cl : List vw_C} {own : String} {cc : ByteArray} {nL : Nat} {ret : Option FieldType} {rm : Nat × Nat} {Qf : R → S → State → Prop} {X : Option (R × S)} {σ : S} {pc n : Nat} {lv lv' : List (Nat × Value)} {st : List Value}
theorem J.pos {α : Type} (sh : α → Option (R × S)) {c : Prop} {d : Decidable c} {x y : α} (h : c) (k : J Γ w cl Qf (sh x) σ pc lv st) : J Γ w cl Qf (sh (if c then x else y)) σ pc lv st := by rw [if_pos h]; exact k
theorem J.neg {α : Type} (sh : α → Option (R × S)) {c : Prop} {d : Decidable c} {x y : α} (h : ¬ c) (k : J Γ w cl Qf (sh y) σ pc lv st) : J Γ w cl Qf (sh (if c then x else y)) σ pc lv st := by rw [if_neg h]; exact k
theorem J.inO {c : Prop} {d : Decidable c} {x : Option (R × S)} (k : c → J Γ w cl Qf (shO x) σ pc lv st) : J Γ w cl Qf (shO (if c then x else none)) σ pc lv st := by
  by_cases h : c
  · exact J.pos shO h (k h)
  · rw [if_neg h]; intro r σ' h; cases h
theorem J.inR {c : Prop} {d : Decidable c} {σ0 : S} {x : Option R} (k : c → J Γ w cl Qf (shR σ0 x) σ pc lv st) : J Γ w cl Qf (shR σ0 (if c then x else none)) σ pc lv st := by
  by_cases h : c
  · exact J.pos (shR σ0) h (k h)
  · rw [if_neg h]; intro r σ' h; cases h
theorem J.goO {α : Type} {y : Option α} {f : α → Option (R × S)} (k : ∀ a, y = some a → J Γ w cl Qf (shO (f a)) σ pc lv st) : J Γ w cl Qf (shO (y.bind f)) σ pc lv st := by
  cases y with
  | none => intro r σ' h; cases h
  | some a => exact k a rfl
theorem J.goR {α : Type} {σ0 : S} {y : Option α} {f : α → Option R} (k : ∀ a, y = some a → J Γ w cl Qf (shR σ0 (f a)) σ pc lv st) : J Γ w cl Qf (shR σ0 (y.bind f)) σ pc lv st := by
  cases y with
  | none => intro r σ' h; cases h
  | some a => exact k a rfl
end
section
variable {S : Type} {Γ : cx_T} {w : S → va_W} {cl : List vw_C} {Qf : Unit → S → State → Prop} {σ : S} {pc : Nat} {lv : List (Nat × Value)} {st : List Value}
theorem J.inU {c : Prop} {d : Decidable c} {x : Option S} (k : c → J Γ w cl Qf (shU x) σ pc lv st) : J Γ w cl Qf (shU (if c then x else none)) σ pc lv st := by
  by_cases h : c
  · exact J.pos shU h (k h)
  · rw [if_neg h]; intro r σ' h; cases h
theorem J.goU {α : Type} {y : Option α} {f : α → Option S} (k : ∀ a, y = some a → J Γ w cl Qf (shU (f a)) σ pc lv st) : J Γ w cl Qf (shU (y.bind f)) σ pc lv st := by
  cases y with
  | none => intro r σ' h; cases h
  | some a => exact k a rfl
end
theorem lc_3 (x y : Int64) : (y < x ∧ lg_cmp x y = 1) ∨ (x = y ∧ lg_cmp x y = 0) ∨ (x < y ∧ lg_cmp x y = -1) := by
  by_cases h1 : y < x
  · exact Or.inl ⟨h1, by simp [lg_cmp, h1]⟩
  · by_cases h2 : x = y
    · exact Or.inr (Or.inl ⟨h2, by subst h2; simp [lg_cmp]⟩)
    · refine Or.inr (Or.inr ⟨?_, by simp [lg_cmp, h1, h2]⟩)
      rw [Int64.lt_iff_toInt_lt] at h1 ⊢
      rw [← Int64.toInt_inj] at h2
      omega
theorem lc_eq1 {x y : Int64} (h : lg_cmp x y = 0) : x = y := by
  revert h
  rcases lc_3 x y with ⟨h1, e⟩ | ⟨h1, e⟩ | ⟨h1, e⟩ <;> rw [e] <;> simp only [Int64.lt_iff_toInt_lt, ← Int64.toInt_inj] at h1 ⊢ <;> intro h <;> first | omega | exact absurd h (by decide) | exact absurd trivial h
theorem lc_eq2 {x y : Int64} (h : ¬ lg_cmp x y = 0) : ¬ x = y := by
  revert h
  rcases lc_3 x y with ⟨h1, e⟩ | ⟨h1, e⟩ | ⟨h1, e⟩ <;> rw [e] <;> simp only [Int64.lt_iff_toInt_lt, ← Int64.toInt_inj] at h1 ⊢ <;> intro h <;> first | omega | exact absurd h (by decide) | exact absurd trivial h
theorem lc_ne1 {x y : Int64} (h : ¬ lg_cmp x y = 0) : ¬ x = y := by
  revert h
  rcases lc_3 x y with ⟨h1, e⟩ | ⟨h1, e⟩ | ⟨h1, e⟩ <;> rw [e] <;> simp only [Int64.lt_iff_toInt_lt, ← Int64.toInt_inj] at h1 ⊢ <;> intro h <;> first | omega | exact absurd h (by decide) | exact absurd trivial h
theorem lc_ne2 {x y : Int64} (h : lg_cmp x y = 0) : x = y := by
  revert h
  rcases lc_3 x y with ⟨h1, e⟩ | ⟨h1, e⟩ | ⟨h1, e⟩ <;> rw [e] <;> simp only [Int64.lt_iff_toInt_lt, ← Int64.toInt_inj] at h1 ⊢ <;> intro h <;> first | omega | exact absurd h (by decide) | exact absurd trivial h
theorem lc_lt1 {x y : Int64} (h : lg_cmp x y < 0) : x < y := by
  revert h
  rcases lc_3 x y with ⟨h1, e⟩ | ⟨h1, e⟩ | ⟨h1, e⟩ <;> rw [e] <;> simp only [Int64.lt_iff_toInt_lt, ← Int64.toInt_inj] at h1 ⊢ <;> intro h <;> first | omega | exact absurd h (by decide) | exact absurd trivial h
theorem lc_lt2 {x y : Int64} (h : ¬ lg_cmp x y < 0) : ¬ x < y := by
  revert h
  rcases lc_3 x y with ⟨h1, e⟩ | ⟨h1, e⟩ | ⟨h1, e⟩ <;> rw [e] <;> simp only [Int64.lt_iff_toInt_lt, ← Int64.toInt_inj] at h1 ⊢ <;> intro h <;> first | omega | exact absurd h (by decide) | exact absurd trivial h
theorem lc_ge1 {x y : Int64} (h : 0 ≤ lg_cmp x y) : ¬ x < y := by
  revert h
  rcases lc_3 x y with ⟨h1, e⟩ | ⟨h1, e⟩ | ⟨h1, e⟩ <;> rw [e] <;> simp only [Int64.lt_iff_toInt_lt, ← Int64.toInt_inj] at h1 ⊢ <;> intro h <;> first | omega | exact absurd h (by decide) | exact absurd trivial h
theorem lc_ge2 {x y : Int64} (h : ¬ 0 ≤ lg_cmp x y) : x < y := by
  revert h
  rcases lc_3 x y with ⟨h1, e⟩ | ⟨h1, e⟩ | ⟨h1, e⟩ <;> rw [e] <;> simp only [Int64.lt_iff_toInt_lt, ← Int64.toInt_inj] at h1 ⊢ <;> intro h <;> first | omega | exact absurd h (by decide) | exact absurd trivial h
theorem lc_gt1 {x y : Int64} (h : 0 < lg_cmp x y) : y < x := by
  revert h
  rcases lc_3 x y with ⟨h1, e⟩ | ⟨h1, e⟩ | ⟨h1, e⟩ <;> rw [e] <;> simp only [Int64.lt_iff_toInt_lt, ← Int64.toInt_inj] at h1 ⊢ <;> intro h <;> first | omega | exact absurd h (by decide) | exact absurd trivial h
theorem lc_gt2 {x y : Int64} (h : ¬ 0 < lg_cmp x y) : ¬ y < x := by
  revert h
  rcases lc_3 x y with ⟨h1, e⟩ | ⟨h1, e⟩ | ⟨h1, e⟩ <;> rw [e] <;> simp only [Int64.lt_iff_toInt_lt, ← Int64.toInt_inj] at h1 ⊢ <;> intro h <;> first | omega | exact absurd h (by decide) | exact absurd trivial h
theorem lc_le1 {x y : Int64} (h : lg_cmp x y ≤ 0) : ¬ y < x := by
  revert h
  rcases lc_3 x y with ⟨h1, e⟩ | ⟨h1, e⟩ | ⟨h1, e⟩ <;> rw [e] <;> simp only [Int64.lt_iff_toInt_lt, ← Int64.toInt_inj] at h1 ⊢ <;> intro h <;> first | omega | exact absurd h (by decide) | exact absurd trivial h
theorem lc_le2 {x y : Int64} (h : ¬ lg_cmp x y ≤ 0) : y < x := by
  revert h
  rcases lc_3 x y with ⟨h1, e⟩ | ⟨h1, e⟩ | ⟨h1, e⟩ <;> rw [e] <;> simp only [Int64.lt_iff_toInt_lt, ← Int64.toInt_inj] at h1 ⊢ <;> intro h <;> first | omega | exact absurd h (by decide) | exact absurd trivial h
section
variable {R S : Type} {Γ : cx_T} {w : S → va_W} {cl : List vw_C} {own : String} {cc : ByteArray} {nL : Nat} {ret : Option FieldType} {rm : Nat × Nat} {Qf : R → S → State → Prop} {X : Option (R × S)} {σ : S} {pc n : Nat} {lv lv' : List (Nat × Value)} {st : List Value}
theorem j_iconst (C : cx_C Γ w cl own cc nL ret rm) {i : Int} {v : Int32} (hd : decode cc pc = .ok (.iconst i, 1)) (hp : pc + 1 = n) (hv : Int32.ofInt i = v) (k : J Γ w cl Qf X σ n lv (.int v :: st)) : J Γ w cl Qf X σ pc lv (st) := by
  subst hp
  exact fun r σ' h H locs ls hP hS hl => lv_iconst C.hx C.hb hd hv (k r σ' h H locs ls hP hS hl)
theorem j_bipush (C : cx_C Γ w cl own cc nL ret rm) {i : Int} {v : Int32} (hd : decode cc pc = .ok (.bipush i, 2)) (hp : pc + 2 = n) (hv : (Int8.ofInt i).toInt32 = v) (k : J Γ w cl Qf X σ n lv (.int v :: st)) : J Γ w cl Qf X σ pc lv (st) := by
  subst hp
  exact fun r σ' h H locs ls hP hS hl => lv_bipush C.hx C.hb hd hv (k r σ' h H locs ls hP hS hl)
theorem j_sipush (C : cx_C Γ w cl own cc nL ret rm) {i : Int} {v : Int32} (hd : decode cc pc = .ok (.sipush i, 3)) (hp : pc + 3 = n) (hv : (Int16.ofInt i).toInt32 = v) (k : J Γ w cl Qf X σ n lv (.int v :: st)) : J Γ w cl Qf X σ pc lv (st) := by
  subst hp
  exact fun r σ' h H locs ls hP hS hl => lv_sipush C.hx C.hb hd hv (k r σ' h H locs ls hP hS hl)
theorem j_lconst (C : cx_C Γ w cl own cc nL ret rm) {i : Fin 2} {v : Int64} (hd : decode cc pc = .ok (.lconst i, 1)) (hp : pc + 1 = n) (hv : Int64.ofNat (i : Nat) = v) (k : J Γ w cl Qf X σ n lv (.long v :: st)) : J Γ w cl Qf X σ pc lv (st) := by
  subst hp
  exact fun r σ' h H locs ls hP hS hl => lv_lconst C.hx C.hb hd hv (k r σ' h H locs ls hP hS hl)
theorem j_ldc (C : cx_C Γ w cl own cc nL ret rm) {i : Nat} {v : Int32} (hd : decode cc pc = .ok (.ldc i, 2)) (hp : pc + 2 = n) (hc : Cond.constant own i v ∈ gw) (k : J Γ w cl Qf X σ n lv (.int v :: st)) : J Γ w cl Qf X σ pc lv (st) := by
  subst hp
  exact fun r σ' h H locs ls hP hS hl => lv_ldc C.hx C.hb C.ho (C.ht _ hc) hd (k r σ' h H locs ls hP hS hl)
theorem j_ldc2 (C : cx_C Γ w cl own cc nL ret rm) {i : Nat} {v : Int64} (hd : decode cc pc = .ok (.ldc2_w i, 3)) (hp : pc + 3 = n) (hc : Cond.constantLong own i v ∈ gw) (k : J Γ w cl Qf X σ n lv (.long v :: st)) : J Γ w cl Qf X σ pc lv (st) := by
  subst hp
  exact fun r σ' h H locs ls hP hS hl => lv_ldc2 C.hx C.hb C.ho (C.ht _ hc) hd (k r σ' h H locs ls hP hS hl)
theorem j_iload_n (C : cx_C Γ w cl own cc nL ret rm) {i : Fin 4} {x : Int32} (hd : decode cc pc = .ok (.iload_n i, 1)) (hp : pc + 1 = n) (z : Nat) (hz : lv[z]? = some ((i : Nat), .int x)) (k : J Γ w cl Qf X σ n lv (.int x :: st)) : J Γ w cl Qf X σ pc lv (st) := by
  subst hp
  exact fun r σ' h H locs ls hP hS hl => lv_iload_n C.hx C.hb hd rfl (lv_at hl z hz) (k r σ' h H locs ls hP hS hl)
theorem j_iload (C : cx_C Γ w cl own cc nL ret rm) {i : Nat} {x : Int32} (hd : decode cc pc = .ok (.iload i, 2)) (hp : pc + 2 = n) (z : Nat) (hz : lv[z]? = some (i, .int x)) (k : J Γ w cl Qf X σ n lv (.int x :: st)) : J Γ w cl Qf X σ pc lv (st) := by
  subst hp
  exact fun r σ' h H locs ls hP hS hl => lv_iload C.hx C.hb hd (lv_at hl z hz) (k r σ' h H locs ls hP hS hl)
theorem j_lload_n (C : cx_C Γ w cl own cc nL ret rm) {i : Fin 4} {x : Int64} (hd : decode cc pc = .ok (.lload_n i, 1)) (hp : pc + 1 = n) (z : Nat) (hz : lv[z]? = some ((i : Nat), .long x)) (k : J Γ w cl Qf X σ n lv (.long x :: st)) : J Γ w cl Qf X σ pc lv (st) := by
  subst hp
  exact fun r σ' h H locs ls hP hS hl => lv_lload_n C.hx C.hb hd rfl (lv_at hl z hz) (k r σ' h H locs ls hP hS hl)
theorem j_lload (C : cx_C Γ w cl own cc nL ret rm) {i : Nat} {x : Int64} (hd : decode cc pc = .ok (.lload i, 2)) (hp : pc + 2 = n) (z : Nat) (hz : lv[z]? = some (i, .long x)) (k : J Γ w cl Qf X σ n lv (.long x :: st)) : J Γ w cl Qf X σ pc lv (st) := by
  subst hp
  exact fun r σ' h H locs ls hP hS hl => lv_lload C.hx C.hb hd (lv_at hl z hz) (k r σ' h H locs ls hP hS hl)
theorem j_aload_n (C : cx_C Γ w cl own cc nL ret rm) {i : Fin 4} {x : Nat} (hd : decode cc pc = .ok (.aload_n i, 1)) (hp : pc + 1 = n) (z : Nat) (hz : lv[z]? = some ((i : Nat), .ref x)) (k : J Γ w cl Qf X σ n lv (.ref x :: st)) : J Γ w cl Qf X σ pc lv (st) := by
  subst hp
  exact fun r σ' h H locs ls hP hS hl => lv_aload_n C.hx C.hb hd rfl (lv_at hl z hz) (k r σ' h H locs ls hP hS hl)
theorem j_aload (C : cx_C Γ w cl own cc nL ret rm) {i : Nat} {x : Nat} (hd : decode cc pc = .ok (.aload i, 2)) (hp : pc + 2 = n) (z : Nat) (hz : lv[z]? = some (i, .ref x)) (k : J Γ w cl Qf X σ n lv (.ref x :: st)) : J Γ w cl Qf X σ pc lv (st) := by
  subst hp
  exact fun r σ' h H locs ls hP hS hl => lv_aload C.hx C.hb hd (lv_at hl z hz) (k r σ' h H locs ls hP hS hl)
theorem j_istore_n (C : cx_C Γ w cl own cc nL ret rm) {q : Fin 4} {i : Nat} {x : Int32} (hd : decode cc pc = .ok (.istore_n q, 1)) (hp : pc + 1 = n) (hi : (q : Nat) = i) (hn : i < nL) (hv : st1 i (.int x) lv = lv') (k : J Γ w cl Qf X σ n lv' st) : J Γ w cl Qf X σ pc lv (.int x :: st) := by
  subst hp
  exact fun r σ' h H locs ls hP hS hl => lv_istore_n C.hx C.hb hd hi hl (by rw [C.hl]; exact hn) hv (fun ls' hl' => k r σ' h H locs ls' hP hS hl')
theorem j_istore (C : cx_C Γ w cl own cc nL ret rm) {i : Nat} {x : Int32} (hd : decode cc pc = .ok (.istore i, 2)) (hp : pc + 2 = n)  (hn : i < nL) (hv : st1 i (.int x) lv = lv') (k : J Γ w cl Qf X σ n lv' st) : J Γ w cl Qf X σ pc lv (.int x :: st) := by
  subst hp
  exact fun r σ' h H locs ls hP hS hl => lv_istore C.hx C.hb hd  hl (by rw [C.hl]; exact hn) hv (fun ls' hl' => k r σ' h H locs ls' hP hS hl')
theorem j_lstore_n (C : cx_C Γ w cl own cc nL ret rm) {q : Fin 4} {i : Nat} {x : Int64} (hd : decode cc pc = .ok (.lstore_n q, 1)) (hp : pc + 1 = n) (hi : (q : Nat) = i) (hn : i + 1 < nL) (hv : st2 i (.long x) lv = lv') (k : J Γ w cl Qf X σ n lv' st) : J Γ w cl Qf X σ pc lv (.long x :: st) := by
  subst hp
  exact fun r σ' h H locs ls hP hS hl => lv_lstore_n C.hx C.hb hd hi hl (by rw [C.hl]; exact hn) hv (fun ls' hl' => k r σ' h H locs ls' hP hS hl')
theorem j_lstore (C : cx_C Γ w cl own cc nL ret rm) {i : Nat} {x : Int64} (hd : decode cc pc = .ok (.lstore i, 2)) (hp : pc + 2 = n)  (hn : i + 1 < nL) (hv : st2 i (.long x) lv = lv') (k : J Γ w cl Qf X σ n lv' st) : J Γ w cl Qf X σ pc lv (.long x :: st) := by
  subst hp
  exact fun r σ' h H locs ls hP hS hl => lv_lstore C.hx C.hb hd  hl (by rw [C.hl]; exact hn) hv (fun ls' hl' => k r σ' h H locs ls' hP hS hl')
theorem j_astore_n (C : cx_C Γ w cl own cc nL ret rm) {q : Fin 4} {i : Nat} {x : Nat} (hd : decode cc pc = .ok (.astore_n q, 1)) (hp : pc + 1 = n) (hi : (q : Nat) = i) (hn : i < nL) (hv : st1 i (.ref x) lv = lv') (k : J Γ w cl Qf X σ n lv' st) : J Γ w cl Qf X σ pc lv (.ref x :: st) := by
  subst hp
  exact fun r σ' h H locs ls hP hS hl => lv_astore_n C.hx C.hb hd hi hl (by rw [C.hl]; exact hn) hv (fun ls' hl' => k r σ' h H locs ls' hP hS hl')
theorem j_astore (C : cx_C Γ w cl own cc nL ret rm) {i : Nat} {x : Nat} (hd : decode cc pc = .ok (.astore i, 2)) (hp : pc + 2 = n)  (hn : i < nL) (hv : st1 i (.ref x) lv = lv') (k : J Γ w cl Qf X σ n lv' st) : J Γ w cl Qf X σ pc lv (.ref x :: st) := by
  subst hp
  exact fun r σ' h H locs ls hP hS hl => lv_astore C.hx C.hb hd  hl (by rw [C.hl]; exact hn) hv (fun ls' hl' => k r σ' h H locs ls' hP hS hl')
theorem j_iinc (C : cx_C Γ w cl own cc nL ret rm) {i : Nat} {a : Int} {x v : Int32} (hd : decode cc pc = .ok (.iinc i a, 3)) (hp : pc + 3 = n) (z : Nat) (hz : lv[z]? = some (i, .int x)) (hv : x + Int32.ofInt a = v) (hn : i < nL) (hw : st1 i (.int v) lv = lv') (k : J Γ w cl Qf X σ n lv' st) : J Γ w cl Qf X σ pc lv st := by
  subst hp
  exact fun r σ' h H locs ls hP hS hl => lv_iinc C.hx C.hb hd hl hz hv (by rw [C.hl]; exact hn) hw (fun ls' hl' => k r σ' h H locs ls' hP hS hl')
theorem j_iadd (C : cx_C Γ w cl own cc nL ret rm) {x y : Int32} (hd : decode cc pc = .ok (.iadd, 1)) (hp : pc + 1 = n)  (k : J Γ w cl Qf X σ n lv (.int (x + y) :: st)) : J Γ w cl Qf X σ pc lv (.int y :: .int x :: st) := by
  subst hp
  exact fun r σ' h H locs ls hP hS hl => lv_iadd C.hx C.hb hd (k r σ' h H locs ls hP hS hl)
theorem j_isub (C : cx_C Γ w cl own cc nL ret rm) {x y : Int32} (hd : decode cc pc = .ok (.isub, 1)) (hp : pc + 1 = n)  (k : J Γ w cl Qf X σ n lv (.int (x - y) :: st)) : J Γ w cl Qf X σ pc lv (.int y :: .int x :: st) := by
  subst hp
  exact fun r σ' h H locs ls hP hS hl => lv_isub C.hx C.hb hd (k r σ' h H locs ls hP hS hl)
theorem j_imul (C : cx_C Γ w cl own cc nL ret rm) {x y : Int32} (hd : decode cc pc = .ok (.imul, 1)) (hp : pc + 1 = n)  (k : J Γ w cl Qf X σ n lv (.int (x * y) :: st)) : J Γ w cl Qf X σ pc lv (.int y :: .int x :: st) := by
  subst hp
  exact fun r σ' h H locs ls hP hS hl => lv_imul C.hx C.hb hd (k r σ' h H locs ls hP hS hl)
theorem j_iand (C : cx_C Γ w cl own cc nL ret rm) {x y : Int32} (hd : decode cc pc = .ok (.iand, 1)) (hp : pc + 1 = n)  (k : J Γ w cl Qf X σ n lv (.int (x &&& y) :: st)) : J Γ w cl Qf X σ pc lv (.int y :: .int x :: st) := by
  subst hp
  exact fun r σ' h H locs ls hP hS hl => lv_iand C.hx C.hb hd (k r σ' h H locs ls hP hS hl)
theorem j_ladd (C : cx_C Γ w cl own cc nL ret rm) {x y : Int64} (hd : decode cc pc = .ok (.ladd, 1)) (hp : pc + 1 = n)  (k : J Γ w cl Qf X σ n lv (.long (x + y) :: st)) : J Γ w cl Qf X σ pc lv (.long y :: .long x :: st) := by
  subst hp
  exact fun r σ' h H locs ls hP hS hl => lv_ladd C.hx C.hb hd (k r σ' h H locs ls hP hS hl)
theorem j_lsub (C : cx_C Γ w cl own cc nL ret rm) {x y : Int64} (hd : decode cc pc = .ok (.lsub, 1)) (hp : pc + 1 = n)  (k : J Γ w cl Qf X σ n lv (.long (x - y) :: st)) : J Γ w cl Qf X σ pc lv (.long y :: .long x :: st) := by
  subst hp
  exact fun r σ' h H locs ls hP hS hl => lv_lsub C.hx C.hb hd (k r σ' h H locs ls hP hS hl)
theorem j_lmul (C : cx_C Γ w cl own cc nL ret rm) {x y : Int64} (hd : decode cc pc = .ok (.lmul, 1)) (hp : pc + 1 = n)  (k : J Γ w cl Qf X σ n lv (.long (x * y) :: st)) : J Γ w cl Qf X σ pc lv (.long y :: .long x :: st) := by
  subst hp
  exact fun r σ' h H locs ls hP hS hl => lv_lmul C.hx C.hb hd (k r σ' h H locs ls hP hS hl)
theorem j_land (C : cx_C Γ w cl own cc nL ret rm) {x y : Int64} (hd : decode cc pc = .ok (.land, 1)) (hp : pc + 1 = n)  (k : J Γ w cl Qf X σ n lv (.long (x &&& y) :: st)) : J Γ w cl Qf X σ pc lv (.long y :: .long x :: st) := by
  subst hp
  exact fun r σ' h H locs ls hP hS hl => lv_land C.hx C.hb hd (k r σ' h H locs ls hP hS hl)
theorem j_lor (C : cx_C Γ w cl own cc nL ret rm) {x y : Int64} (hd : decode cc pc = .ok (.lor, 1)) (hp : pc + 1 = n)  (k : J Γ w cl Qf X σ n lv (.long (x ||| y) :: st)) : J Γ w cl Qf X σ pc lv (.long y :: .long x :: st) := by
  subst hp
  exact fun r σ' h H locs ls hP hS hl => lv_lor C.hx C.hb hd (k r σ' h H locs ls hP hS hl)
theorem j_ldiv (C : cx_C Γ w cl own cc nL ret rm) {x y : Int64} (hd : decode cc pc = .ok (.ldiv, 1)) (hp : pc + 1 = n) (hne : ¬ y = 0) (k : J Γ w cl Qf X σ n lv (.long (x / y) :: st)) : J Γ w cl Qf X σ pc lv (.long y :: .long x :: st) := by
  subst hp
  exact fun r σ' h H locs ls hP hS hl => lv_ldiv C.hx C.hb hd hne (k r σ' h H locs ls hP hS hl)
theorem j_lneg (C : cx_C Γ w cl own cc nL ret rm) {x : Int64} (hd : decode cc pc = .ok (.lneg, 1)) (hp : pc + 1 = n)  (k : J Γ w cl Qf X σ n lv (.long (-x) :: st)) : J Γ w cl Qf X σ pc lv (.long x :: st) := by
  subst hp
  exact fun r σ' h H locs ls hP hS hl => lv_lneg C.hx C.hb hd (k r σ' h H locs ls hP hS hl)
theorem j_i2l (C : cx_C Γ w cl own cc nL ret rm) {x : Int32} (hd : decode cc pc = .ok (.i2l, 1)) (hp : pc + 1 = n)  (k : J Γ w cl Qf X σ n lv (.long x.toInt64 :: st)) : J Γ w cl Qf X σ pc lv (.int x :: st) := by
  subst hp
  exact fun r σ' h H locs ls hP hS hl => lv_i2l C.hx C.hb hd rfl (k r σ' h H locs ls hP hS hl)
theorem j_l2i (C : cx_C Γ w cl own cc nL ret rm) {x : Int64} (hd : decode cc pc = .ok (.l2i, 1)) (hp : pc + 1 = n)  (k : J Γ w cl Qf X σ n lv (.int x.toInt32 :: st)) : J Γ w cl Qf X σ pc lv (.long x :: st) := by
  subst hp
  exact fun r σ' h H locs ls hP hS hl => lv_l2i C.hx C.hb hd rfl (k r σ' h H locs ls hP hS hl)
theorem j_lshl (C : cx_C Γ w cl own cc nL ret rm) {x v : Int64} {y : Int32} (hd : decode cc pc = .ok (.lshl, 1)) (hp : pc + 1 = n) (hv : x <<< (y.toInt64 &&& 63) = v) (k : J Γ w cl Qf X σ n lv (.long v :: st)) : J Γ w cl Qf X σ pc lv (.int y :: .long x :: st) := by
  subst hp
  exact fun r σ' h H locs ls hP hS hl => lv_lshl C.hx C.hb hd hv (k r σ' h H locs ls hP hS hl)
theorem j_lshr (C : cx_C Γ w cl own cc nL ret rm) {x v : Int64} {y : Int32} (hd : decode cc pc = .ok (.lshr, 1)) (hp : pc + 1 = n) (hv : x >>> (y.toInt64 &&& 63) = v) (k : J Γ w cl Qf X σ n lv (.long v :: st)) : J Γ w cl Qf X σ pc lv (.int y :: .long x :: st) := by
  subst hp
  exact fun r σ' h H locs ls hP hS hl => lv_lshr C.hx C.hb hd hv (k r σ' h H locs ls hP hS hl)
theorem j_dup (C : cx_C Γ w cl own cc nL ret rm) {v : Value} (hd : decode cc pc = .ok (.dup, 1)) (hp : pc + 1 = n) (hc : v.category = 1) (k : J Γ w cl Qf X σ n lv (v :: v :: st)) : J Γ w cl Qf X σ pc lv (v :: st) := by
  subst hp
  exact fun r σ' h H locs ls hP hS hl => lv_dup C.hx C.hb hd hc (k r σ' h H locs ls hP hS hl)
theorem j_pop (C : cx_C Γ w cl own cc nL ret rm) {v : Value} (hd : decode cc pc = .ok (.pop, 1)) (hp : pc + 1 = n) (hc : v.category = 1) (k : J Γ w cl Qf X σ n lv (st)) : J Γ w cl Qf X σ pc lv (v :: st) := by
  subst hp
  exact fun r σ' h H locs ls hP hS hl => lv_pop C.hx C.hb hd hc (k r σ' h H locs ls hP hS hl)
theorem j_iaddc (C : cx_C Γ w cl own cc nL ret rm) {x y v : Int32} (hd : decode cc pc = .ok (.iadd, 1)) (hp : pc + 1 = n) (hv : x + y = v) (k : J Γ w cl Qf X σ n lv (.int v :: st)) : J Γ w cl Qf X σ pc lv (.int y :: .int x :: st) := by
  subst hp
  exact fun r σ' h H locs ls hP hS hl => lv_iadd C.hx C.hb hd (hv ▸ (k r σ' h H locs ls hP hS hl))
theorem j_isubc (C : cx_C Γ w cl own cc nL ret rm) {x y v : Int32} (hd : decode cc pc = .ok (.isub, 1)) (hp : pc + 1 = n) (hv : x - y = v) (k : J Γ w cl Qf X σ n lv (.int v :: st)) : J Γ w cl Qf X σ pc lv (.int y :: .int x :: st) := by
  subst hp
  exact fun r σ' h H locs ls hP hS hl => lv_isub C.hx C.hb hd (hv ▸ (k r σ' h H locs ls hP hS hl))
theorem j_goto (C : cx_C Γ w cl own cc nL ret rm) {off : Int} {tgt : Nat} (hd : decode cc pc = .ok (.goto off, 3)) (ht : (pc : Int) + off = (tgt : Int)) (k : J Γ w cl Qf X σ tgt lv st) : J Γ w cl Qf X σ pc lv st := fun r σ' h H locs ls hP hS hl => lv_goto C.hx C.hb hd ht (k r σ' h H locs ls hP hS hl)
theorem j_if_eq (C : cx_C Γ w cl own cc nL ret rm) {x : Int32} {off : Int} {tgt : Nat} (hd : decode cc pc = .ok (.ifCond .eq off, 3)) (ht : (pc : Int) + off = (tgt : Int)) (hp : pc + 3 = n) (kt : x = 0 → J Γ w cl Qf X σ tgt lv st) (kf : ¬ x = 0 → J Γ w cl Qf X σ n lv st) : J Γ w cl Qf X σ pc lv (.int x :: st) := by
  subst hp
  exact fun r σ' h H locs ls hP hS hl => lv_if_eq C.hx C.hb hd ht (fun q => kt q r σ' h H locs ls hP hS hl) (fun q => kf q r σ' h H locs ls hP hS hl)
theorem j_icmp_eq (C : cx_C Γ w cl own cc nL ret rm) {x y : Int32} {off : Int} {tgt : Nat} (hd : decode cc pc = .ok (.if_icmp .eq off, 3)) (ht : (pc : Int) + off = (tgt : Int)) (hp : pc + 3 = n) (kt : x = y → J Γ w cl Qf X σ tgt lv st) (kf : ¬ x = y → J Γ w cl Qf X σ n lv st) : J Γ w cl Qf X σ pc lv (.int y :: .int x :: st) := by
  subst hp
  exact fun r σ' h H locs ls hP hS hl => lv_icmp_eq C.hx C.hb hd ht (fun q => kt q r σ' h H locs ls hP hS hl) (fun q => kf q r σ' h H locs ls hP hS hl)
theorem j_lcmp_eq (C : cx_C Γ w cl own cc nL ret rm) {x y : Int64} {off : Int} {tgt : Nat} (hd : decode cc pc = .ok (.lcmp, 1)) (hd2 : decode cc (pc + 1) = .ok (.ifCond .eq off, 3)) (ht : ((pc + 1 : Nat) : Int) + off = (tgt : Int)) (hp : pc + 4 = n) (kt : x = y → J Γ w cl Qf X σ tgt lv st) (kf : ¬ x = y → J Γ w cl Qf X σ n lv st) : J Γ w cl Qf X σ pc lv (.long y :: .long x :: st) := by
  subst hp
  exact fun r σ' h H locs ls hP hS hl => W.lcmp C.hx C.hb hd (lv_if_eq C.hx C.hb hd2 ht (fun q => kt (lc_eq1 q) r σ' h H locs ls hP hS hl) (fun q => kf (lc_eq2 q) r σ' h H locs ls hP hS hl))
theorem j_if_ne (C : cx_C Γ w cl own cc nL ret rm) {x : Int32} {off : Int} {tgt : Nat} (hd : decode cc pc = .ok (.ifCond .ne off, 3)) (ht : (pc : Int) + off = (tgt : Int)) (hp : pc + 3 = n) (kt : ¬ x = 0 → J Γ w cl Qf X σ tgt lv st) (kf : x = 0 → J Γ w cl Qf X σ n lv st) : J Γ w cl Qf X σ pc lv (.int x :: st) := by
  subst hp
  exact fun r σ' h H locs ls hP hS hl => lv_if_ne C.hx C.hb hd ht (fun q => kt q r σ' h H locs ls hP hS hl) (fun q => kf q r σ' h H locs ls hP hS hl)
theorem j_icmp_ne (C : cx_C Γ w cl own cc nL ret rm) {x y : Int32} {off : Int} {tgt : Nat} (hd : decode cc pc = .ok (.if_icmp .ne off, 3)) (ht : (pc : Int) + off = (tgt : Int)) (hp : pc + 3 = n) (kt : ¬ x = y → J Γ w cl Qf X σ tgt lv st) (kf : x = y → J Γ w cl Qf X σ n lv st) : J Γ w cl Qf X σ pc lv (.int y :: .int x :: st) := by
  subst hp
  exact fun r σ' h H locs ls hP hS hl => lv_icmp_ne C.hx C.hb hd ht (fun q => kt q r σ' h H locs ls hP hS hl) (fun q => kf q r σ' h H locs ls hP hS hl)
theorem j_lcmp_ne (C : cx_C Γ w cl own cc nL ret rm) {x y : Int64} {off : Int} {tgt : Nat} (hd : decode cc pc = .ok (.lcmp, 1)) (hd2 : decode cc (pc + 1) = .ok (.ifCond .ne off, 3)) (ht : ((pc + 1 : Nat) : Int) + off = (tgt : Int)) (hp : pc + 4 = n) (kt : ¬ x = y → J Γ w cl Qf X σ tgt lv st) (kf : x = y → J Γ w cl Qf X σ n lv st) : J Γ w cl Qf X σ pc lv (.long y :: .long x :: st) := by
  subst hp
  exact fun r σ' h H locs ls hP hS hl => W.lcmp C.hx C.hb hd (lv_if_ne C.hx C.hb hd2 ht (fun q => kt (lc_ne1 q) r σ' h H locs ls hP hS hl) (fun q => kf (lc_ne2 q) r σ' h H locs ls hP hS hl))
theorem j_if_lt (C : cx_C Γ w cl own cc nL ret rm) {x : Int32} {off : Int} {tgt : Nat} (hd : decode cc pc = .ok (.ifCond .lt off, 3)) (ht : (pc : Int) + off = (tgt : Int)) (hp : pc + 3 = n) (kt : x < 0 → J Γ w cl Qf X σ tgt lv st) (kf : ¬ x < 0 → J Γ w cl Qf X σ n lv st) : J Γ w cl Qf X σ pc lv (.int x :: st) := by
  subst hp
  exact fun r σ' h H locs ls hP hS hl => lv_if_lt C.hx C.hb hd ht (fun q => kt q r σ' h H locs ls hP hS hl) (fun q => kf q r σ' h H locs ls hP hS hl)
theorem j_icmp_lt (C : cx_C Γ w cl own cc nL ret rm) {x y : Int32} {off : Int} {tgt : Nat} (hd : decode cc pc = .ok (.if_icmp .lt off, 3)) (ht : (pc : Int) + off = (tgt : Int)) (hp : pc + 3 = n) (kt : x < y → J Γ w cl Qf X σ tgt lv st) (kf : ¬ x < y → J Γ w cl Qf X σ n lv st) : J Γ w cl Qf X σ pc lv (.int y :: .int x :: st) := by
  subst hp
  exact fun r σ' h H locs ls hP hS hl => lv_icmp_lt C.hx C.hb hd ht (fun q => kt q r σ' h H locs ls hP hS hl) (fun q => kf q r σ' h H locs ls hP hS hl)
theorem j_lcmp_lt (C : cx_C Γ w cl own cc nL ret rm) {x y : Int64} {off : Int} {tgt : Nat} (hd : decode cc pc = .ok (.lcmp, 1)) (hd2 : decode cc (pc + 1) = .ok (.ifCond .lt off, 3)) (ht : ((pc + 1 : Nat) : Int) + off = (tgt : Int)) (hp : pc + 4 = n) (kt : x < y → J Γ w cl Qf X σ tgt lv st) (kf : ¬ x < y → J Γ w cl Qf X σ n lv st) : J Γ w cl Qf X σ pc lv (.long y :: .long x :: st) := by
  subst hp
  exact fun r σ' h H locs ls hP hS hl => W.lcmp C.hx C.hb hd (lv_if_lt C.hx C.hb hd2 ht (fun q => kt (lc_lt1 q) r σ' h H locs ls hP hS hl) (fun q => kf (lc_lt2 q) r σ' h H locs ls hP hS hl))
theorem j_if_ge (C : cx_C Γ w cl own cc nL ret rm) {x : Int32} {off : Int} {tgt : Nat} (hd : decode cc pc = .ok (.ifCond .ge off, 3)) (ht : (pc : Int) + off = (tgt : Int)) (hp : pc + 3 = n) (kt : 0 ≤ x → J Γ w cl Qf X σ tgt lv st) (kf : ¬ 0 ≤ x → J Γ w cl Qf X σ n lv st) : J Γ w cl Qf X σ pc lv (.int x :: st) := by
  subst hp
  exact fun r σ' h H locs ls hP hS hl => lv_if_ge C.hx C.hb hd ht (fun q => kt q r σ' h H locs ls hP hS hl) (fun q => kf q r σ' h H locs ls hP hS hl)
theorem j_icmp_ge (C : cx_C Γ w cl own cc nL ret rm) {x y : Int32} {off : Int} {tgt : Nat} (hd : decode cc pc = .ok (.if_icmp .ge off, 3)) (ht : (pc : Int) + off = (tgt : Int)) (hp : pc + 3 = n) (kt : y ≤ x → J Γ w cl Qf X σ tgt lv st) (kf : ¬ y ≤ x → J Γ w cl Qf X σ n lv st) : J Γ w cl Qf X σ pc lv (.int y :: .int x :: st) := by
  subst hp
  exact fun r σ' h H locs ls hP hS hl => lv_icmp_ge C.hx C.hb hd ht (fun q => kt q r σ' h H locs ls hP hS hl) (fun q => kf q r σ' h H locs ls hP hS hl)
theorem j_lcmp_ge (C : cx_C Γ w cl own cc nL ret rm) {x y : Int64} {off : Int} {tgt : Nat} (hd : decode cc pc = .ok (.lcmp, 1)) (hd2 : decode cc (pc + 1) = .ok (.ifCond .ge off, 3)) (ht : ((pc + 1 : Nat) : Int) + off = (tgt : Int)) (hp : pc + 4 = n) (kt : ¬ x < y → J Γ w cl Qf X σ tgt lv st) (kf : x < y → J Γ w cl Qf X σ n lv st) : J Γ w cl Qf X σ pc lv (.long y :: .long x :: st) := by
  subst hp
  exact fun r σ' h H locs ls hP hS hl => W.lcmp C.hx C.hb hd (lv_if_ge C.hx C.hb hd2 ht (fun q => kt (lc_ge1 q) r σ' h H locs ls hP hS hl) (fun q => kf (lc_ge2 q) r σ' h H locs ls hP hS hl))
theorem j_if_gt (C : cx_C Γ w cl own cc nL ret rm) {x : Int32} {off : Int} {tgt : Nat} (hd : decode cc pc = .ok (.ifCond .gt off, 3)) (ht : (pc : Int) + off = (tgt : Int)) (hp : pc + 3 = n) (kt : 0 < x → J Γ w cl Qf X σ tgt lv st) (kf : ¬ 0 < x → J Γ w cl Qf X σ n lv st) : J Γ w cl Qf X σ pc lv (.int x :: st) := by
  subst hp
  exact fun r σ' h H locs ls hP hS hl => lv_if_gt C.hx C.hb hd ht (fun q => kt q r σ' h H locs ls hP hS hl) (fun q => kf q r σ' h H locs ls hP hS hl)
theorem j_icmp_gt (C : cx_C Γ w cl own cc nL ret rm) {x y : Int32} {off : Int} {tgt : Nat} (hd : decode cc pc = .ok (.if_icmp .gt off, 3)) (ht : (pc : Int) + off = (tgt : Int)) (hp : pc + 3 = n) (kt : y < x → J Γ w cl Qf X σ tgt lv st) (kf : ¬ y < x → J Γ w cl Qf X σ n lv st) : J Γ w cl Qf X σ pc lv (.int y :: .int x :: st) := by
  subst hp
  exact fun r σ' h H locs ls hP hS hl => lv_icmp_gt C.hx C.hb hd ht (fun q => kt q r σ' h H locs ls hP hS hl) (fun q => kf q r σ' h H locs ls hP hS hl)
theorem j_lcmp_gt (C : cx_C Γ w cl own cc nL ret rm) {x y : Int64} {off : Int} {tgt : Nat} (hd : decode cc pc = .ok (.lcmp, 1)) (hd2 : decode cc (pc + 1) = .ok (.ifCond .gt off, 3)) (ht : ((pc + 1 : Nat) : Int) + off = (tgt : Int)) (hp : pc + 4 = n) (kt : y < x → J Γ w cl Qf X σ tgt lv st) (kf : ¬ y < x → J Γ w cl Qf X σ n lv st) : J Γ w cl Qf X σ pc lv (.long y :: .long x :: st) := by
  subst hp
  exact fun r σ' h H locs ls hP hS hl => W.lcmp C.hx C.hb hd (lv_if_gt C.hx C.hb hd2 ht (fun q => kt (lc_gt1 q) r σ' h H locs ls hP hS hl) (fun q => kf (lc_gt2 q) r σ' h H locs ls hP hS hl))
theorem j_if_le (C : cx_C Γ w cl own cc nL ret rm) {x : Int32} {off : Int} {tgt : Nat} (hd : decode cc pc = .ok (.ifCond .le off, 3)) (ht : (pc : Int) + off = (tgt : Int)) (hp : pc + 3 = n) (kt : x ≤ 0 → J Γ w cl Qf X σ tgt lv st) (kf : ¬ x ≤ 0 → J Γ w cl Qf X σ n lv st) : J Γ w cl Qf X σ pc lv (.int x :: st) := by
  subst hp
  exact fun r σ' h H locs ls hP hS hl => lv_if_le C.hx C.hb hd ht (fun q => kt q r σ' h H locs ls hP hS hl) (fun q => kf q r σ' h H locs ls hP hS hl)
theorem j_icmp_le (C : cx_C Γ w cl own cc nL ret rm) {x y : Int32} {off : Int} {tgt : Nat} (hd : decode cc pc = .ok (.if_icmp .le off, 3)) (ht : (pc : Int) + off = (tgt : Int)) (hp : pc + 3 = n) (kt : x ≤ y → J Γ w cl Qf X σ tgt lv st) (kf : ¬ x ≤ y → J Γ w cl Qf X σ n lv st) : J Γ w cl Qf X σ pc lv (.int y :: .int x :: st) := by
  subst hp
  exact fun r σ' h H locs ls hP hS hl => lv_icmp_le C.hx C.hb hd ht (fun q => kt q r σ' h H locs ls hP hS hl) (fun q => kf q r σ' h H locs ls hP hS hl)
theorem j_lcmp_le (C : cx_C Γ w cl own cc nL ret rm) {x y : Int64} {off : Int} {tgt : Nat} (hd : decode cc pc = .ok (.lcmp, 1)) (hd2 : decode cc (pc + 1) = .ok (.ifCond .le off, 3)) (ht : ((pc + 1 : Nat) : Int) + off = (tgt : Int)) (hp : pc + 4 = n) (kt : ¬ y < x → J Γ w cl Qf X σ tgt lv st) (kf : y < x → J Γ w cl Qf X σ n lv st) : J Γ w cl Qf X σ pc lv (.long y :: .long x :: st) := by
  subst hp
  exact fun r σ' h H locs ls hP hS hl => W.lcmp C.hx C.hb hd (lv_if_le C.hx C.hb hd2 ht (fun q => kt (lc_le1 q) r σ' h H locs ls hP hS hl) (fun q => kf (lc_le2 q) r σ' h H locs ls hP hS hl))
theorem j_tblOut (C : cx_C Γ w cl own cc nL ret rm) {dflt lo hi : Int} {offs : Array Int} {len : Nat} {x : Int32} {tgt : Nat} (hd : decode cc pc = .ok (.tableswitch dflt lo hi offs, len)) (ht : (pc : Int) + dflt = (tgt : Int)) (hx : x.toInt < lo ∨ hi < x.toInt) (k : J Γ w cl Qf X σ tgt lv st) : J Γ w cl Qf X σ pc lv (.int x :: st) := fun r σ' h H locs ls hP hS hl => lv_tableOut C.hx C.hb hd hx ht (k r σ' h H locs ls hP hS hl)
theorem j_tblIn (C : cx_C Γ w cl own cc nL ret rm) {dflt lo hi : Int} {offs : Array Int} {len : Nat} {x : Int32} {off : Int} {tgt : Nat} (hd : decode cc pc = .ok (.tableswitch dflt lo hi offs, len)) (v : Int32) (hx : x = v) (h1 : ¬ v.toInt < lo) (h2 : ¬ hi < v.toInt) (ho : offs[(v.toInt - lo).toNat]? = some off) (ht : (pc : Int) + off = (tgt : Int)) (k : J Γ w cl Qf X σ tgt lv st) : J Γ w cl Qf X σ pc lv (.int x :: st) := by
  subst hx
  exact fun r σ' h H locs ls hP hS hl => lv_tableIn C.hx C.hb hd h1 h2 ho ht (k r σ' h H locs ls hP hS hl)
theorem j_get (C : cx_C Γ w cl own cc nL ret rm) {CN : String} {T : u_T} {N ci index : Nat} {a : Nat} (hin : ∀ x ∈ u_ws CN T N, x ∈ gw) (q0 : Nat) {fs : List Value} (he : (w σ)[q0]? = some (a, .inr (ci, fs))) (hc : cl[ci]? = some (CN, T, N)) (f : Nat) (hf : f < N) {v : Value} (hv : fs[f]? = some v) (hl : Cond.fieldLink own index (T f).1 (T f).2.1 (T f).2.2.1 ∈ gw) (hd : decode cc pc = .ok (.getfield index, 3)) (hp : pc + 3 = n) (k : J Γ w cl Qf X σ n lv (v :: st)) : J Γ w cl Qf X σ pc lv (.ref a :: st) := by
  subst hp
  exact fun r σ' h H locs ls hP hS hl' => va_get C.hx C.hb C.ht hin C.ho C.hK hP q0 he hc f hf (C.ht _ hl) (fun _ h9 => h9) hv hd (k r σ' h H locs ls hP hS hl')
theorem j_put (C : cx_C Γ w cl own cc nL ret rm) {CN : String} {T : u_T} {N ci index : Nat} {a : Nat} (hin : ∀ x ∈ u_ws CN T N, x ∈ gw) (ty0 : Nat → FieldType) (hty : ∀ k, k < N → parseFieldDescriptor (T k).2.2.1 = some (ty0 k)) (hnm : ∀ a, a < N → ∀ b, b < N → a ≠ b → (T a).2.1 ≠ (T b).2.1) (q0 : Nat) {fs : List Value} (he : (w σ)[q0]? = some (a, .inr (ci, fs))) (hc : cl[ci]? = some (CN, T, N)) (f : Nat) (hf : f < N) (hfin : (T f).2.2.2 = false) {ty : FieldType} {v : Value} (hdd : parseFieldDescriptor (T f).2.2.1 = some ty) (hn : narrow ty v = v) (hfit : fits ty v = true) (hlen : f < fs.length) {σ1 : S} (hw : (w σ).set q0 (a, .inr (ci, fs.set f v)) = w σ1) (hl : Cond.fieldLink own index (T f).1 (T f).2.1 (T f).2.2.1 ∈ gw) (hd : decode cc pc = .ok (.putfield index, 3)) (hp : pc + 3 = n) (k : J Γ w cl Qf X σ1 n lv st) : J Γ w cl Qf X σ pc lv (v :: .ref a :: st) := by
  subst hp
  exact fun r σ' h H locs ls hP hS hl' => va_put C.hx C.hb C.ht hin ty0 hty hnm C.ho C.hK hP (C.hD σ) hS q0 he hc f hf (C.ht _ hl) (fun _ h9 => h9) hfin hdd hn hfit hlen hd (fun H1 locs1 hP1 _ hS1 => k r σ' h H1 locs1 ls (hw ▸ hP1) hS1 hl')
theorem j_iald (C : cx_C Γ w cl own cc nL ret rm) {a N : Nat} {f : Nat → Int32} (q0 : Nat) (he : (w σ)[q0]? = some (a, .inl (kI (gK Γ), N, .inl f))) {i : Int32} (hin : vp_in i N) (hd : decode cc pc = .ok (.iaload, 1)) (hp : pc + 1 = n) (k : J Γ w cl Qf X σ n lv (.int (f i.toNatClampNeg) :: st)) : J Γ w cl Qf X σ pc lv (.int i :: .ref a :: st) := by
  subst hp
  exact fun r σ' h H locs ls hP hS hl' => va_iald C.hx C.hb C.hK hP q0 0 he rfl hin hd (k r σ' h H locs ls hP hS hl')
theorem j_lald (C : cx_C Γ w cl own cc nL ret rm) {a N : Nat} {f : Nat → Int64} (q0 : Nat) (he : (w σ)[q0]? = some (a, .inl (kJ (gK Γ), N, .inr (.inl f)))) {i : Int32} (hin : vp_in i N) (hd : decode cc pc = .ok (.laload, 1)) (hp : pc + 1 = n) (k : J Γ w cl Qf X σ n lv (.long (f i.toNatClampNeg) :: st)) : J Γ w cl Qf X σ pc lv (.int i :: .ref a :: st) := by
  subst hp
  exact fun r σ' h H locs ls hP hS hl' => va_lald C.hx C.hb C.hK hP q0 1 he rfl hin hd (k r σ' h H locs ls hP hS hl')
theorem j_zald (C : cx_C Γ w cl own cc nL ret rm) {a N : Nat} {f : Nat → Int32} (q0 : Nat) (he : (w σ)[q0]? = some (a, .inl (kZ (gK Γ), N, .inl f))) {i : Int32} (hin : vp_in i N) (hd : decode cc pc = .ok (.baload, 1)) (hp : pc + 1 = n) (k : J Γ w cl Qf X σ n lv (.int (f i.toNatClampNeg) :: st)) : J Γ w cl Qf X σ pc lv (.int i :: .ref a :: st) := by
  subst hp
  exact fun r σ' h H locs ls hP hS hl' => va_zald C.hx C.hb C.hK hP q0 2 he rfl hin hd (k r σ' h H locs ls hP hS hl')
theorem j_iast (C : cx_C Γ w cl own cc nL ret rm) {a N : Nat} {f : Nat → Int32} (q0 : Nat) (he : (w σ)[q0]? = some (a, .inl (kI (gK Γ), N, .inl f))) {i : Int32} {x : Int32} {σ1 : S} (hw : (w σ).set q0 (a, .inl (kI (gK Γ), N, .inl (upd f i.toNatClampNeg x))) = w σ1) (hin : vp_in i N) (hd : decode cc pc = .ok (.iastore, 1)) (hp : pc + 1 = n) (k : J Γ w cl Qf X σ1 n lv st) : J Γ w cl Qf X σ pc lv (.int x :: .int i :: .ref a :: st) := by
  subst hp
  exact fun r σ' h H locs ls hP hS hl' => va_iast C.hx C.hb C.hK hP (C.hD σ) hS q0 0 he rfl hin hd (fun H1 locs1 hP1 _ hS1 => k r σ' h H1 locs1 ls (hw ▸ hP1) hS1 hl')
theorem j_last (C : cx_C Γ w cl own cc nL ret rm) {a N : Nat} {f : Nat → Int64} (q0 : Nat) (he : (w σ)[q0]? = some (a, .inl (kJ (gK Γ), N, .inr (.inl f)))) {i : Int32} {x : Int64} {σ1 : S} (hw : (w σ).set q0 (a, .inl (kJ (gK Γ), N, .inr (.inl (vp_updL f i.toNatClampNeg x)))) = w σ1) (hin : vp_in i N) (hd : decode cc pc = .ok (.lastore, 1)) (hp : pc + 1 = n) (k : J Γ w cl Qf X σ1 n lv st) : J Γ w cl Qf X σ pc lv (.long x :: .int i :: .ref a :: st) := by
  subst hp
  exact fun r σ' h H locs ls hP hS hl' => va_last C.hx C.hb C.hK hP (C.hD σ) hS q0 1 he rfl hin hd (fun H1 locs1 hP1 _ hS1 => k r σ' h H1 locs1 ls (hw ▸ hP1) hS1 hl')
theorem j_zast (C : cx_C Γ w cl own cc nL ret rm) {a N : Nat} {f : Nat → Int32} (q0 : Nat) (he : (w σ)[q0]? = some (a, .inl (kZ (gK Γ), N, .inl f))) {i : Int32} {x : Int32} {σ1 : S} (hw : (w σ).set q0 (a, .inl (kZ (gK Γ), N, .inl (upd f i.toNatClampNeg (vp_nar .boolean x)))) = w σ1) (hin : vp_in i N) (hd : decode cc pc = .ok (.bastore, 1)) (hp : pc + 1 = n) (k : J Γ w cl Qf X σ1 n lv st) : J Γ w cl Qf X σ pc lv (.int x :: .int i :: .ref a :: st) := by
  subst hp
  exact fun r σ' h H locs ls hP hS hl' => va_zast C.hx C.hb C.hK hP (C.hD σ) hS q0 2 he rfl hin hd (fun H1 locs1 hP1 _ hS1 => k r σ' h H1 locs1 ls (hw ▸ hP1) hS1 hl')
theorem j_gets (C : cx_C Γ w cl own cc nL ret rm) {index : Nat} (hl : Cond.fieldLink own index "ScopeInterpreter$Machine" "OPERAND_COUNTS" "[I" ∈ gw) (hd : decode cc pc = .ok (.getstatic index, 3)) (hp : pc + 3 = n) (k : ∀ t, st_t (gA Γ) (gs Γ) (gs Γ).heap t → J Γ w cl Qf X σ n lv (.ref t :: st)) : J Γ w cl Qf X σ pc lv st := by
  subst hp
  obtain ⟨t, ht⟩ := C.hZ
  exact fun r σ' h H locs ls hP hS hl' => va_gets C.hx C.hb ht.1 hS C.ho (C.ht _ hl) (fun _ h9 => h9) hd (k t ht r σ' h H locs ls hP hS hl')
theorem j_octl (C : cx_C Γ w cl own cc nL ret rm) {t : Nat} (ht : st_t (gA Γ) (gs Γ) (gs Γ).heap t) (hd : decode cc pc = .ok (.arraylength, 1)) (hp : pc + 1 = n) (k : J Γ w cl Qf X σ n lv (.int 26 :: st)) : J Γ w cl Qf X σ pc lv (.ref t :: st) := by
  subst hp
  exact fun r σ' h H locs ls hP hS hl' => va_tlen C.hx C.hb ht.2 hS rfl hd (k r σ' h H locs ls hP hS hl')
theorem j_oct (C : cx_C Γ w cl own cc nL ret rm) {t : Nat} (ht : st_t (gA Γ) (gs Γ) (gs Γ).heap t) {i : Int32} (hin : vp_in i 26) (hd : decode cc pc = .ok (.iaload, 1)) (hp : pc + 1 = n) (k : J Γ w cl Qf X σ n lv (.int (oc_f i.toNatClampNeg) :: st)) : J Γ w cl Qf X σ pc lv (.int i :: .ref t :: st) := by
  subst hp
  exact fun r σ' h H locs ls hP hS hl' => va_ti C.hx C.hb ht.2 hS hin rfl hd (k r σ' h H locs ls hP hS hl')
end
/-! ===== contracts, entries, ends, calls ===== -/
/-- a method's contract: in the world of σ it returns r, and the world is that of σ' -/
def MC {S : Type} (l : Launch) (y : MethodName) (b : ByteArray) (n : Nat) (ret : Option FieldType) (rm : Nat × Nat) (K : kk_T) (w : S → va_W) (cl : List vw_C) (σ : S) (av : List Value) (r : Option Value) (σ' : S) : Prop :=
  ∀ sz : Nat, Met l y (Cond.code y b n ret :: gw) ({ frames := rm.1, cells := 0, slots := 0, locals := rm.2 } : Room)
    (va_Pc av (fun U => U.heap.size = sz ∧ va_P (kD K) cl (w σ) U.heap ∧ va_K (kD K) cl (kt K) U ∧ va_D (fun _ => True) (w σ) ∧ st_A (va_A (w σ) sz) U U.heap))
    (fun _ st oc t => oc = .returned r ∧ va_P (kD K) cl (w σ') t.heap ∧ va_F (va_A (w σ) sz) st t) 0 0 (va_A (w σ) sz)
def QF {R S : Type} (Γ : cx_T) (w : S → va_W) (cl : List vw_C) (ov : R → Option Value) (r : R) (σ' : S) : State → Prop :=
  MQ (gb Γ) (fun _ st oc t => oc = .returned (ov r) ∧ va_P (kD (gK Γ)) cl (w σ') t.heap ∧ va_F (gA Γ) st t) (ga Γ) (gs Γ) (gn Γ) (gt Γ) (gA Γ)
def ovI (r : Int32) : Option Value := some (.int r)
def ovL (r : Int64) : Option Value := some (.long r)
def ovV (_ : Unit) : Option Value := none
theorem va_D.addr {A : Nat → Prop} {ws ws' : va_W} (e : ws'.map (fun q => q.1) = ws.map (fun q => q.1)) (h : va_D A ws) : va_D A ws' := by
  have key : ∀ (k : Nat) (q : Nat × va_E), ws'[k]? = some q → ∃ q0, ws[k]? = some q0 ∧ q0.1 = q.1 := by
    intro k q hk
    have h1 : (ws'.map (fun q => q.1))[k]? = some q.1 := by rw [List.getElem?_map, hk]; rfl
    rw [e, List.getElem?_map] at h1
    cases h2 : ws[k]? with
    | none => rw [h2] at h1; cases h1
    | some q0 => rw [h2] at h1; exact ⟨q0, rfl, Option.some.inj h1⟩
  refine ⟨fun i j x y hi hj hxy => ?_, fun k q hk => ?_⟩
  · obtain ⟨x0, h1, h2⟩ := key i x hi
    obtain ⟨y0, h3, h4⟩ := key j y hj
    exact h.1 i j x0 y0 h1 h3 (h2.trans (hxy.trans h4.symm))
  · obtain ⟨q0, h1, h2⟩ := key k q hk
    rw [← h2]
    exact h.2 k q0 h1
theorem mc_of {R S : Type} {l : Launch} {y : MethodName} {b : ByteArray} {n : Nat} {ret : Option FieldType} {rm : Nat × Nat} {K : kk_T} {w : S → va_W} {cl : List vw_C} {σ : S} {av : List Value} {ov : R → Option Value} {X : Option (R × S)} {r : R} {σ' : S}
    (hy : plainName y.cls = true) (hn : (lg_sl av).length ≤ n) (hw : ∀ σ1, (w σ1).map (fun q => q.1) = (w σ).map (fun q => q.1)) (hX : X = some (r, σ'))
    (body : ∀ Γ : cx_T, gl Γ = l → gK Γ = K → cx_C Γ w cl y.cls b n ret rm → J Γ w cl (QF Γ w cl ov) X σ 0 (lv_args 0 av) []) : MC l y b n ret rm K w cl σ av (ov r) σ' := by
  intro sz
  refine Met.ofW (cc := b) (maxL := n) (ret := ret) hy rfl ?_
  intro p e s m args below meth c s₁ B hml hv
  obtain ⟨rfl, hsz, hP, hK, hD0, hZ⟩ := hv
  subst hsz
  have hts0 := atoms_spec (ws := Cond.code y b n ret :: gw) B.pre
  have hl := lv_entry av hn
  rw [lg_entry_eq]
  exact body (p, l, e, (headSpec (Cond.code y b n ret :: gw) { frames := rm.1, cells := 0, slots := 0, locals := rm.2 }).room, s, m, av.toArray, below, meth, c, K, va_A (w σ) s.heap.size, 0, 0) rfl rfl
    ⟨B.exec, B.bytes, hml, findClass_of_methodNamed B.named, fun x hx => hts0 x (List.mem_cons_of_mem _ hx), hK, fun σ1 => (hD0.addr (hw σ1)).weaken (fun k q hk _ => by
      have h1 : ((w σ1).map (fun q => q.1))[k]? = some q.1 := by rw [List.getElem?_map, hk]; rfl
      rw [hw σ1, List.getElem?_map] at h1
      cases h2 : (w σ)[k]? with
      | none => rw [h2] at h1; cases h1
      | some q0 =>
        rw [h2] at h1
        have h3 : q0.1 = q.1 := Option.some.inj h1
        rw [← h3]
        exact va_A.in h2), fun q h => Or.inr h, ⟨rfl, rfl⟩, ⟨Nat.zero_le _, Nat.zero_le _⟩, hZ, B.returns, B.notSynchronized⟩ r σ' hX s.heap [] _ hP va_S.rf (by rw [show (gc (p, l, e, (headSpec (Cond.code y b n ret :: gw) { frames := rm.1, cells := 0, slots := 0, locals := rm.2 }).room, s, m, av.toArray, below, meth, c, K, va_A (w σ) s.heap.size, 0, 0)).maxLocals = n from hml]; exact hl)
section
variable {S : Type} {Γ : cx_T} {w : S → va_W} {cl : List vw_C} {own : String} {cc : ByteArray} {nL : Nat} {rm : Nat × Nat} {σ : S} {pc n : Nat} {lv : List (Nat × Value)}
theorem j_iret (C : cx_C Γ w cl own cc nL (some .int) rm) {v : Int32} (hd : decode cc pc = .ok (.ireturn, 1)) : J Γ w cl (QF Γ w cl ovI) (some (v, σ)) σ pc lv [.int v] := by
  intro r σ' h H locs ls hP hS hl
  cases h
  exact W.iret C.hx C.hb C.hs (fun t ht _ => ⟨rfl, by rw [ht]; exact hP, hS.F ht⟩) hS.2.2 hd C.hk
theorem j_zret (C : cx_C Γ w cl own cc nL (some .boolean) rm) {v : Int32} (hn : narrow .boolean (.int v) = .int v) (hd : decode cc pc = .ok (.ireturn, 1)) : J Γ w cl (QF Γ w cl ovI) (some (v, σ)) σ pc lv [.int v] := by
  intro r σ' h H locs ls hP hS hl
  cases h
  exact W.zret C.hx C.hb C.hs hn (fun t ht _ => ⟨rfl, by rw [ht]; exact hP, hS.F ht⟩) hS.2.2 hd C.hk
def bz (v : Int32) : Int32 := vp_nar .boolean v
theorem bz_narrow (v : Int32) : narrow .boolean (.int v) = .int (bz v) := by
  unfold bz vp_nar
  simp only [narrow]
theorem j_bret (C : cx_C Γ w cl own cc nL (some .boolean) rm) {v : Int32} (hd : decode cc pc = .ok (.ireturn, 1)) : J Γ w cl (QF Γ w cl ovI) (some (bz v, σ)) σ pc lv [.int v] := by
  intro r σ' h H locs ls hP hS hl
  cases h
  intro T hT X
  have hlocks : (gM Γ).locks = false := C.hk
  have hr := C.hs
  have hexec := C.hx
  have hb := C.hb
  obtain ⟨fs, hret, hrun, hended, hW, hframe⟩ := X.leave (v := some (.int (bz v))) (fun h => by rw [hr] at h; cases h)
  have hmeth' : T.vm.method? (gm Γ) = some (gM Γ) := X.method'
  refine ⟨T.setFrames fs, ?_, .returned (some (.int (bz v))), hrun, hended, ⟨rfl, by rw [← hT] at hP; exact hP, hS.F hT⟩, locs, ⟨⟨_, rfl⟩, hW, hframe⟩, hS.2.2⟩
  jvm_step X.here [X.here.top, hexec, hb, hd, hmeth', hr, bz_narrow]
  (try refine ⟨rfl, ?_⟩); (try refine ⟨rfl, ?_⟩)
  first | (intro acts; rw [hret _ acts rfl rfl rfl]) | rw [hret _ _ rfl rfl rfl]
  exact Steps.refl _
theorem j_lret (C : cx_C Γ w cl own cc nL (some .long) rm) {v : Int64} (hd : decode cc pc = .ok (.lreturn, 1)) : J Γ w cl (QF Γ w cl ovL) (some (v, σ)) σ pc lv [.long v] := by
  intro r σ' h H locs ls hP hS hl
  cases h
  exact W.lret C.hx C.hb C.hs (fun t ht _ => ⟨rfl, by rw [ht]; exact hP, hS.F ht⟩) hS.2.2 hd C.hk
theorem j_vret (C : cx_C Γ w cl own cc nL none rm) (hd : decode cc pc = .ok (.return_, 1)) : J Γ w cl (QF Γ w cl ovV) (some ((), σ)) σ pc lv [] := by
  intro r σ' h H locs ls hP hS hl
  cases h
  exact W.vret C.hx C.hb C.hs (fun t ht _ => ⟨rfl, by rw [ht]; exact hP, hS.F ht⟩) hS.2.2 hd C.hk
end
/-- what a caller asks of a callee's place in the tables -/
def ck_V (y : MethodName) (b : ByteArray) (n : Nat) (ret : Option FieldType) (k : Nat) : Prop :=
  Cond.code y b n ret ∈ gw ∧ Cond.initialized y.cls ∈ gw ∧ (y.cls ≠ "java/lang/invoke/MethodHandle" ∧ y.cls ≠ "java/lang/invoke/VarHandle" ∧ (parseMethodDescriptor y.desc).map (fun d => d.parameters.length) = some k) ∧ Cond.instanceMethod y ∈ gw ∧ Cond.selects y.cls y y ∈ gw
def ck_S (y : MethodName) (b : ByteArray) (n : Nat) (ret : Option FieldType) (k : Nat) : Prop :=
  Cond.code y b n ret ∈ gw ∧ Cond.initialized y.cls ∈ gw ∧ (y.cls ≠ "java/lang/invoke/MethodHandle" ∧ y.cls ≠ "java/lang/invoke/VarHandle" ∧ (parseMethodDescriptor y.desc).map (fun d => d.parameters.length) = some k) ∧ Cond.static y ∈ gw
theorem gw_goodIn {y : MethodName} {b : ByteArray} {n : Nat} {ret : Option FieldType} (h : Cond.code y b n ret ∈ gw) : GoodIn gw (Cond.code y b n ret :: gw) := by
  intro x hx
  rcases List.mem_cons.mp hx with rfl | hx
  · exact ⟨h, gw_good h⟩
  · exact ⟨hx, gw_good hx⟩
theorem fr_join {D : va_G} {cl : List vw_C} {A : Nat → Prop} {a b c b' : va_W} {H H1 : Heap} (hP : va_P D cl (a ++ (b ++ c)) H) (hD : va_D A (a ++ (b ++ c))) (hk : ∀ q : Nat, q < H.size → ¬ va_A b H.size q → H1[q]? = H[q]?) (hP1 : va_P D cl b' H1) : va_P D cl (a ++ (b' ++ c)) H1 := by
  have out : ∀ (k : Nat) (q : Nat × va_E), (a ++ (b ++ c))[k]? = some q → (k < a.length ∨ a.length + b.length ≤ k) → H1[q.1]? = H[q.1]? := by
    intro k q hq hor
    have hlt := (hP k q hq).lt
    refine hk q.1 hlt (fun h => ?_)
    rcases h with ⟨j, e, h⟩ | h
    · have hjb : j < b.length := (List.getElem?_eq_some_iff.mp h).1
      have h2 : (a ++ (b ++ c))[a.length + j]? = some (q.1, e) := by
        rw [List.getElem?_append_right (by omega), Nat.add_sub_cancel_left, List.getElem?_append_left hjb]
        exact h
      have := hD.1 k (a.length + j) q (q.1, e) hq h2 rfl
      omega
    · omega
  intro k q hq
  by_cases h1 : k < a.length
  · rw [List.getElem?_append_left h1] at hq
    have h2 : (a ++ (b ++ c))[k]? = some q := by rw [List.getElem?_append_left h1]; exact hq
    exact (hP k q h2).kept (out k q h2 (Or.inl h1))
  · rw [List.getElem?_append_right (by omega)] at hq
    by_cases h3 : k - a.length < b'.length
    · rw [List.getElem?_append_left h3] at hq
      exact hP1 _ q hq
    · rw [List.getElem?_append_right (by omega)] at hq
      have h2 : (a ++ (b ++ c))[a.length + (b.length + (k - a.length - b'.length))]? = some q := by
        rw [List.getElem?_append_right (by omega), Nat.add_sub_cancel_left, List.getElem?_append_right (by omega), Nat.add_sub_cancel_left]
        exact hq
      exact (hP _ q h2).kept (out _ q h2 (Or.inr (by omega)))
theorem fr_part {D : va_G} {cl : List vw_C} {a b c : va_W} {H : Heap} (hP : va_P D cl (a ++ (b ++ c)) H) : va_P D cl b H := by
  intro k q hq
  have hk : k < b.length := (List.getElem?_eq_some_iff.mp hq).1
  exact hP (a.length + k) q (by rw [List.getElem?_append_right (by omega), Nat.add_sub_cancel_left, List.getElem?_append_left hk]; exact hq)
theorem fr_partD {A : Nat → Prop} {a b c : va_W} (hD : va_D A (a ++ (b ++ c))) : va_D A b := by
  have up : ∀ (k : Nat) (q : Nat × va_E), b[k]? = some q → (a ++ (b ++ c))[a.length + k]? = some q := by
    intro k q hq
    have hk : k < b.length := (List.getElem?_eq_some_iff.mp hq).1
    rw [List.getElem?_append_right (by omega), Nat.add_sub_cancel_left, List.getElem?_append_left hk]
    exact hq
  refine ⟨fun i j x y hi hj hxy => ?_, fun k q hk => hD.2 _ q (up k q hk)⟩
  have := hD.1 _ _ x y (up i x hi) (up j y hj) hxy
  omega
section
variable {R S S2 : Type} {Γ : cx_T} {w : S → va_W} {w2 : S2 → va_W} {cl : List vw_C} {own : String} {cc b2 : ByteArray} {nL n2 : Nat} {ret ret2 : Option FieldType} {rm rm2 : Nat × Nat} {Qf : R → S → State → Prop} {X : Option (R × S)} {σ σ1 : S} {σ2 σ3 : S2} {pc n : Nat} {lv : List (Nat × Value)} {rest As : List Value} {y : MethodName} {b0 index : Nat} {x z : va_W} {ci : Nat} {fs : List Value}
theorem j_run {r : Option Value} (C : cx_C Γ w cl own cc nL ret rm) (hE : w σ = x ++ (w2 σ2 ++ z)) (hE1 : w σ1 = x ++ (w2 σ3 ++ z)) {g0 : List Value} {aa : Array Value} {H : Heap} {locs : List Loc} {ls : Array Slot} (hP : va_P (kD (gK Γ)) cl (w σ) H) (hS : va_S (gA Γ) (gs Γ).heap H locs) (hl : lv_has ls (gc Γ).maxLocals lv)
    (hr : va_Run (gp Γ) (gl Γ) (ge Γ) (gR Γ) (gs Γ) (gm Γ) (ga Γ) (gb Γ) (gM Γ) (gc Γ) H locs (gn Γ) (gt Γ) 0 0 (F0 (gm Γ) pc ls g0) rest ((fun _ st oc t => oc = .returned r ∧ va_P (kD (gK Γ)) cl (w2 σ3) t.heap ∧ va_F (va_A (w2 σ2) H.size) st t) aa) (va_A (w2 σ2) H.size))
    {r0 : R} {σ' : S} (h : X = some (r0, σ')) (k : J Γ w cl Qf X σ1 (pc + 3) lv (r.toList ++ rest)) :
    W (gp Γ) (gl Γ) (ge Γ) (gR Γ) (gs Γ) (gm Γ) (ga Γ) (gb Γ) (gM Γ) (gc Γ) H locs (gn Γ) (gt Γ) (Qf r0 σ') (F0 (gm Γ) pc ls g0) := by
  intro T hT XX
  obtain ⟨v, st₀, t, T', L, h0, X', hL, e1, e2, ⟨hv, hP1, hF⟩, stp⟩ := hr T hT XX
  cases hv
  have hDw : va_D (gA Γ) (x ++ (w2 σ2 ++ z)) := hE ▸ C.hD σ
  have hPw : va_P (kD (gK Γ)) cl (x ++ (w2 σ2 ++ z)) H := hE ▸ hP
  have hfree : ∀ q, va_A (w2 σ2) H.size q → gA Γ q := by
    intro q h
    rcases h with ⟨j, ee, h⟩ | h
    · exact (fr_partD hDw).2 j (q, ee) h
    · exact C.hA q (Nat.le_trans hS.1 h)
  rw [va_F, h0] at hF
  have hP2 : va_P (kD (gK Γ)) cl (w σ1) T'.heap := by
    rw [hE1, e1]
    exact fr_join hPw hDw hF.2 hP1
  have hS2 : va_S (gA Γ) (gs Γ).heap T'.heap (locs ++ L) :=
    ⟨Nat.le_trans hS.1 (by rw [e1]; exact hF.1), fun q h1 h2 => by rw [e1, hF.2 q (Nat.lt_of_lt_of_le h1 hS.1) (fun z => h2 (hfree q z))]; exact hS.2.1 q h1 h2, fun q hq => by
      rcases List.mem_append.mp hq with h | h
      · exact hS.2.2 q h
      · exact hfree _ (hL q h)⟩
  obtain ⟨t2, a1, b1⟩ := k r0 σ' h T'.heap (locs ++ L) ls hP2 hS2 hl T' rfl X'
  exact ⟨t2, stp t2 a1, b1⟩
theorem j_pre (C : cx_C Γ w cl own cc nL ret rm) (hE : w σ = x ++ (w2 σ2 ++ z)) {H : Heap} {locs : List Loc} (hP : va_P (kD (gK Γ)) cl (w σ) H) (hS : va_S (gA Γ) (gs Γ).heap H locs) (av : List Value) :
    FrameBlind (va_Pc av (fun U => U.heap.size = H.size ∧ va_P (kD (gK Γ)) cl (w2 σ2) U.heap ∧ va_K (kD (gK Γ)) cl (kt (gK Γ)) U ∧ va_D (fun _ => True) (w2 σ2) ∧ st_A (va_A (w2 σ2) H.size) U U.heap)) ∧
    ∀ U : State, U.heap = H → (gs Γ).WarmedH U.vm → va_Pc av (fun U => U.heap.size = H.size ∧ va_P (kD (gK Γ)) cl (w2 σ2) U.heap ∧ va_K (kD (gK Γ)) cl (kt (gK Γ)) U ∧ va_D (fun _ => True) (w2 σ2) ∧ st_A (va_A (w2 σ2) H.size) U U.heap) av.toArray U := by
  have hDw : va_D (gA Γ) (x ++ (w2 σ2 ++ z)) := hE ▸ C.hD σ
  have hPw : va_P (kD (gK Γ)) cl (x ++ (w2 σ2 ++ z)) H := hE ▸ hP
  refine ⟨fun a U g mk q => ?_, fun U hU hW => ?_⟩
  · obtain ⟨q0, q1, q2, q3, q4, q5⟩ := q
    exact ⟨q0, q1, q2, va_K.moved (u := U) (U := U.calling g mk a) (Vm.Alike.refl U.vm) q3, q4, st_A.moved (u := U) (U := U.calling g mk a) (Vm.Alike.refl U.vm) q5⟩
  · subst hU
    refine ⟨rfl, rfl, fr_part hPw, va_K.moved hW.alike C.hK, (fr_partD hDw).weaken (fun _ _ _ _ => trivial), ?_⟩
    refine (st_A.moved hW.alike (C.hZ.kept (H1 := U.heap) (fun a h1 h2 => hS.2.1 a h1 h2))).narrow (fun q h => ?_)
    rcases h with ⟨j, ee, h⟩ | h
    · exact (fr_partD hDw).2 j (q, ee) h
    · exact C.hA q (Nat.le_trans hS.1 h)
theorem j_callV {r : Option Value} (C : cx_C Γ w cl own cc nL ret rm) (M : MC (gl Γ) y b2 n2 ret2 rm2 (gK Γ) w2 cl σ2 (.ref b0 :: As) r σ3) (I : ck_V y b2 n2 ret2 As.length) (hl : Cond.methodLink own index y ∈ gw) (hR : rm2.1 + 1 ≤ rm.1 ∧ 8 + (n2 + 11) + rm2.2 ≤ rm.2) (hd : decode cc pc = .ok (.invokevirtual index, 3)) (hp : pc + 3 = n) (hr : (w2 σ2)[0]? = some (b0, .inr (ci, fs))) (hc : (cl[ci]?).map (fun q => q.1) = some y.cls)
    (hE : w σ = x ++ (w2 σ2 ++ z)) (hE1 : w σ1 = x ++ (w2 σ3 ++ z)) (hq : (rest.map fun v => v.category).sum ≤ 8) (k : J Γ w cl Qf X σ1 n lv (r.toList ++ rest)) : J Γ w cl Qf X σ pc lv (As.reverse ++ .ref b0 :: rest) := by
  subst hp
  intro r0 σ' h H locs ls hP hS hl'
  obtain ⟨i1, i2, i3, i4, i5⟩ := I
  obtain ⟨pre1, pre2⟩ := j_pre C hE hP hS (.ref b0 :: As)
  have hPw : va_P (kD (gK Γ)) cl (x ++ (w2 σ2 ++ z)) H := hE ▸ hP
  cases hcl : cl[ci]? with
  | none => rw [hcl] at hc; cases hc
  | some q =>
    rw [hcl] at hc
    have hqc : q.1 = y.cls := Option.some.inj hc
    refine j_run (aa := (Value.ref b0 :: As).toArray) C hE hE1 hP hS hl' (va_runV (As := As) (rest := rest) (C := y.cls) ⟨C.hx, C.hb, C.hl, C.ho, C.ht⟩ (M H.size)
      ⟨callB_of As.length C.ht (gw_goodIn i1) rfl rfl rfl (C.ht _ i2) (C.ht _ hl) i3 (by rw [C.hR.1, C.hR.2]; exact hR), C.ht _ i4, C.ht _ i5⟩ ⟨pre1, ?_, pre2⟩ rfl rfl (by rw [← C.hl]; exact hl'.1) rfl (lv_room hq) hd C.hr) h k
    rw [← hqc]
    exact va_recv C.hK (fr_part hPw) hcl hr
theorem j_callS {r : Option Value} (C : cx_C Γ w cl own cc nL ret rm) (M : MC (gl Γ) y b2 n2 ret2 rm2 (gK Γ) w2 cl σ2 As r σ3) (I : ck_S y b2 n2 ret2 As.length) (hl : Cond.methodLink own index y ∈ gw) (hR : rm2.1 + 1 ≤ rm.1 ∧ 8 + (n2 + 11) + rm2.2 ≤ rm.2) (hd : decode cc pc = .ok (.invokestatic index, 3)) (hp : pc + 3 = n)
    (hE : w σ = x ++ (w2 σ2 ++ z)) (hE1 : w σ1 = x ++ (w2 σ3 ++ z)) (hq : (rest.map fun v => v.category).sum ≤ 8) (k : J Γ w cl Qf X σ1 n lv (r.toList ++ rest)) : J Γ w cl Qf X σ pc lv (As.reverse ++ rest) := by
  subst hp
  intro r0 σ' h H locs ls hP hS hl'
  obtain ⟨i1, i2, i3, i4⟩ := I
  obtain ⟨pre1, pre2⟩ := j_pre C hE hP hS As
  exact j_run (aa := As.toArray) C hE hE1 hP hS hl' (va_runS (As := As) (rest := rest) ⟨C.hx, C.hb, C.hl, C.ho, C.ht⟩ (M H.size)
      ⟨callB_of As.length C.ht (gw_goodIn i1) rfl rfl rfl (C.ht _ i2) (C.ht _ hl) i3 (by rw [C.hR.1, C.hR.2]; exact hR), C.ht _ i4⟩ ⟨pre1, pre2⟩ rfl rfl (by rw [← C.hl]; exact hl'.1) rfl (lv_room hq) hd C.hr) h k
end
/-! ===== more of the frame ===== -/
theorem in_z {x : Int32} (h : 0 ≤ x) : ¬ x < 0 := by rw [Int32.lt_iff_toInt_lt]; rw [Int32.le_iff_toInt_le] at h; omega
theorem in_a {x M : Int32} {N : Nat} (h0 : ¬ x < 0) (h1 : ¬ M ≤ x) (e : 0 ≤ M) (hN : M.toInt.toNat ≤ N) : vp_in x N := by
  rw [vp_in_iff]; rw [Int32.lt_iff_toInt_lt, Int32.toInt_zero] at h0; rw [Int32.le_iff_toInt_le] at h1 e; rw [Int32.toInt_zero] at e; omega
theorem in_b {x M : Int32} {N : Nat} (h0 : ¬ x < 0) (h1 : ¬ M < x) (e : 0 ≤ M) (hN : M.toInt.toNat < N) : vp_in x N := by
  rw [vp_in_iff]; rw [Int32.lt_iff_toInt_lt, Int32.toInt_zero] at h0; rw [Int32.lt_iff_toInt_lt] at h1; rw [Int32.le_iff_toInt_le, Int32.toInt_zero] at e; omega
theorem in_c {x M : Int32} {N : Nat} (h0 : ¬ x < 0) (h1 : x < M) (e : 0 ≤ M) (hN : M.toInt.toNat ≤ N) : vp_in x N := by
  rw [vp_in_iff]; rw [Int32.lt_iff_toInt_lt, Int32.toInt_zero] at h0; rw [Int32.lt_iff_toInt_lt] at h1; rw [Int32.le_iff_toInt_le, Int32.toInt_zero] at e; omega
theorem in_d {x M : Int32} {N : Nat} (h0 : ¬ x < 0) (h1 : x ≤ M) (e : 0 ≤ M) (hN : M.toInt.toNat < N) : vp_in x N := by
  rw [vp_in_iff]; rw [Int32.lt_iff_toInt_lt, Int32.toInt_zero] at h0; rw [Int32.le_iff_toInt_le] at h1 e; rw [Int32.toInt_zero] at e; omega
def qabs (x : Int64) : Int64 := if 0 < x then x else -x
theorem qabs_ne {x : Int64} (h : ¬ x = 0) : ¬ qabs x = 0 := by
  unfold qabs
  split
  · exact h
  · intro e; apply h
    have e2 := congrArg Int64.toBitVec e
    simp at e2
    exact Int64.toBitVec_inj.mp (by simpa using e2)
theorem ne_of_pos {x : Int64} (h : 0 < x) : ¬ x = 0 := by rintro rfl; exact absurd h (by decide)
section
variable {R S : Type} {Γ : cx_T} {w : S → va_W} {cl : List vw_C} {own : String} {cc : ByteArray} {nL : Nat} {ret : Option FieldType} {rm : Nat × Nat} {Qf : R → S → State → Prop} {X : Option (R × S)} {σ : S} {pc n : Nat} {lv lv' : List (Nat × Value)} {st : List Value}
theorem J.none (h : X = none) : J Γ w cl Qf X σ pc lv st := fun r σ' e => by rw [h] at e; cases e
theorem J.loc (ks : List Nat) (h : lv_pick lv ks = lv') (k : J Γ w cl Qf X σ pc lv' st) : J Γ w cl Qf X σ pc lv st := fun r σ' e H locs ls hP hS hl => k r σ' e H locs ls hP hS (lv_sub hl ks h)
theorem J.cas {α : Type} (sh : α → Option (R × S)) {c : Prop} {d : Decidable c} {x y : α} (k1 : c → J Γ w cl Qf (sh x) σ pc lv st) (k2 : ¬ c → J Γ w cl Qf (sh y) σ pc lv st) : J Γ w cl Qf (sh (if c then x else y)) σ pc lv st := by
  by_cases h : c
  · exact J.pos sh h (k1 h)
  · exact J.neg sh h (k2 h)
theorem j_abs (C : cx_C Γ w cl own cc nL ret rm) {index : Nat} {x : Int64} (hl : Cond.methodLink own index Lib.MathLoose.abs_long.x ∈ gw) (hstat : Cond.static Lib.MathLoose.abs_long.x ∈ gw) (hini : Cond.initialized "java/lang/Math" ∈ gw) (hcode : Cond.code Lib.MathLoose.abs_long.x Lib.MathLoose.abs_long.code 2 (some .long) ∈ gw) (hR : 1 ≤ rm.1 ∧ (st.map fun v => v.category).sum + 13 ≤ rm.2) (hd : decode cc pc = .ok (.invokestatic index, 3)) (hp : pc + 3 = n) (k : J Γ w cl Qf X σ n lv (.long (qabs x) :: st)) : J Γ w cl Qf X σ pc lv (.long x :: st) := by
  subst hp
  exact fun r σ' h H locs ls hP hS hl' => va_mabs_long C.hx C.hb hl'.1.symm C.ho (C.ht _ hl) (C.ht _ hstat) (C.ht _ hini) (C.ht _ hcode) (by rw [C.hR.1]; exact hR.1) (by rw [C.hR.2]; exact hR.2) C.hr.1 C.hr.2 hd (k r σ' h H locs ls hP hS hl')
end
def inb (i : Int32) (n : Nat) : Bool := decide (0 ≤ i.toInt ∧ i.toInt < n)
theorem inb_in {i : Int32} {n : Nat} (h : inb i n = true) : vp_in i n := vp_in_iff.mpr (of_decide_eq_true h)
theorem inb_iff {i : Int32} {n : Nat} : inb i n = true ↔ 0 ≤ i.toInt ∧ i.toInt < n := by simp [inb]
end
section
/-! ===== names: the classes, the worlds, the fields ===== -/
def qx_R : String := "ScopeInterpreter"
def qh_R : String := "ScopeInterpreter$Heap"
def qn_R : String := "ScopeInterpreter$Machine"
def qt_R : String := "ScopeInterpreter$Matcher"
def qf_R : String := "ScopeInterpreter$Frames"
def qm_R : String := "ScopeInterpreterModel"
def qw_R : String := "ScopeInterpreter$Word"
def qh_F : u_T := fun k => match k with
  | 0 => ("ScopeInterpreter$Heap", "first", "[J", true)
  | 1 => ("ScopeInterpreter$Heap", "second", "[J", true)
  | _ => ("ScopeInterpreter$Heap", "nextRow", "I", false)
def qh_ty : Nat → FieldType := fun k => match k with
  | 0 => .array .long
  | 1 => .array .long
  | _ => .int
theorem qh_nm : ∀ a, a < 3 → ∀ b, b < 3 → a ≠ b → (qh_F a).2.1 ≠ (qh_F b).2.1 := by decide +kernel
theorem qh_tyok : ∀ k, k < 3 → parseFieldDescriptor (qh_F k).2.2.1 = some (qh_ty k) := by decide +kernel
theorem qh_in : ∀ x ∈ u_ws qh_R qh_F 3, x ∈ gw := by
  have h : u_ws qh_R qh_F 3 = [148, 150, 152].filterMap (fun i => lw_tbl[i]?) := by decide +kernel
  have g : (u_ws qh_R qh_F 3).all goodWord = true := by decide +kernel
  intro x hx
  have g1 := List.all_eq_true.mp g x hx
  rw [h] at hx
  obtain ⟨i, -, hi⟩ := List.mem_filterMap.mp hx
  exact gw_at i hi g1
def qf_F : u_T := fun k => match k with
  | 0 => ("ScopeInterpreter$Frames", "tasks", "[I", true)
  | 1 => ("ScopeInterpreter$Frames", "environments", "[I", true)
  | 2 => ("ScopeInterpreter$Frames", "rests", "[J", true)
  | 3 => ("ScopeInterpreter$Frames", "helds", "[J", true)
  | 4 => ("ScopeInterpreter$Frames", "gathereds", "[I", true)
  | 5 => ("ScopeInterpreter$Frames", "count", "I", false)
  | _ => ("ScopeInterpreter$Frames", "most", "I", false)
def qf_ty : Nat → FieldType := fun k => match k with
  | 0 => .array .int
  | 1 => .array .int
  | 2 => .array .long
  | 3 => .array .long
  | 4 => .array .int
  | 5 => .int
  | _ => .int
theorem qf_nm : ∀ a, a < 7 → ∀ b, b < 7 → a ≠ b → (qf_F a).2.1 ≠ (qf_F b).2.1 := by decide +kernel
theorem qf_tyok : ∀ k, k < 7 → parseFieldDescriptor (qf_F k).2.2.1 = some (qf_ty k) := by decide +kernel
theorem qf_in : ∀ x ∈ u_ws qf_R qf_F 7, x ∈ gw := by
  have h : u_ws qf_R qf_F 7 = [204, 206, 208, 210, 212, 214, 216].filterMap (fun i => lw_tbl[i]?) := by decide +kernel
  have g : (u_ws qf_R qf_F 7).all goodWord = true := by decide +kernel
  intro x hx
  have g1 := List.all_eq_true.mp g x hx
  rw [h] at hx
  obtain ⟨i, -, hi⟩ := List.mem_filterMap.mp hx
  exact gw_at i hi g1
def qt_F : u_T := fun k => match k with
  | 0 => ("ScopeInterpreter$Matcher", "heap", "LScopeInterpreter$Heap;", true)
  | 1 => ("ScopeInterpreter$Matcher", "pendingTrees", "[J", true)
  | 2 => ("ScopeInterpreter$Matcher", "pendingParts", "[J", true)
  | 3 => ("ScopeInterpreter$Matcher", "pendingCount", "I", false)
  | 4 => ("ScopeInterpreter$Matcher", "symbols", "[I", true)
  | 5 => ("ScopeInterpreter$Matcher", "parts", "[J", true)
  | _ => ("ScopeInterpreter$Matcher", "symbolCount", "I", false)
def qt_ty : Nat → FieldType := fun k => match k with
  | 0 => .object "ScopeInterpreter$Heap"
  | 1 => .array .long
  | 2 => .array .long
  | 3 => .int
  | 4 => .array .int
  | 5 => .array .long
  | _ => .int
theorem qt_nm : ∀ a, a < 7 → ∀ b, b < 7 → a ≠ b → (qt_F a).2.1 ≠ (qt_F b).2.1 := by decide +kernel
theorem qt_tyok : ∀ k, k < 7 → parseFieldDescriptor (qt_F k).2.2.1 = some (qt_ty k) := by decide +kernel
theorem qt_in : ∀ x ∈ u_ws qt_R qt_F 7, x ∈ gw := by
  have h : u_ws qt_R qt_F 7 = [175, 177, 179, 181, 183, 185, 187].filterMap (fun i => lw_tbl[i]?) := by decide +kernel
  have g : (u_ws qt_R qt_F 7).all goodWord = true := by decide +kernel
  intro x hx
  have g1 := List.all_eq_true.mp g x hx
  rw [h] at hx
  obtain ⟨i, -, hi⟩ := List.mem_filterMap.mp hx
  exact gw_at i hi g1
def qn_F : u_T := fun k => match k with
  | 0 => ("ScopeInterpreter$Machine", "heap", "LScopeInterpreter$Heap;", true)
  | 1 => ("ScopeInterpreter$Machine", "matcher", "LScopeInterpreter$Matcher;", true)
  | 2 => ("ScopeInterpreter$Machine", "frames", "LScopeInterpreter$Frames;", true)
  | 3 => ("ScopeInterpreter$Machine", "arguments", "[J", true)
  | 4 => ("ScopeInterpreter$Machine", "argumentCount", "I", false)
  | 5 => ("ScopeInterpreter$Machine", "mode", "I", false)
  | 6 => ("ScopeInterpreter$Machine", "current", "J", false)
  | 7 => ("ScopeInterpreter$Machine", "operands", "J", false)
  | 8 => ("ScopeInterpreter$Machine", "environment", "I", false)
  | 9 => ("ScopeInterpreter$Machine", "steps", "I", false)
  | 10 => ("ScopeInterpreter$Machine", "limit", "I", false)
  | _ => ("ScopeInterpreter$Machine", "failure", "I", false)
def qn_ty : Nat → FieldType := fun k => match k with
  | 0 => .object "ScopeInterpreter$Heap"
  | 1 => .object "ScopeInterpreter$Matcher"
  | 2 => .object "ScopeInterpreter$Frames"
  | 3 => .array .long
  | 4 => .int
  | 5 => .int
  | 6 => .long
  | 7 => .long
  | 8 => .int
  | 9 => .int
  | 10 => .int
  | _ => .int
theorem qn_nm : ∀ a, a < 12 → ∀ b, b < 12 → a ≠ b → (qn_F a).2.1 ≠ (qn_F b).2.1 := by decide +kernel
theorem qn_tyok : ∀ k, k < 12 → parseFieldDescriptor (qn_F k).2.2.1 = some (qn_ty k) := by decide +kernel
theorem qn_in : ∀ x ∈ u_ws qn_R qn_F 12, x ∈ gw := by
  have h : u_ws qn_R qn_F 12 = [240, 242, 244, 246, 248, 250, 252, 254, 256, 258, 260, 262].filterMap (fun i => lw_tbl[i]?) := by decide +kernel
  have g : (u_ws qn_R qn_F 12).all goodWord = true := by decide +kernel
  intro x hx
  have g1 := List.all_eq_true.mp g x hx
  rw [h] at hx
  obtain ⟨i, -, hi⟩ := List.mem_filterMap.mp hx
  exact gw_at i hi g1
def qx_F : u_T := fun k => match k with
  | 0 => ("ScopeInterpreter", "heap", "LScopeInterpreter$Heap;", true)
  | 1 => ("ScopeInterpreter", "machine", "LScopeInterpreter$Machine;", true)
  | 2 => ("ScopeInterpreter", "stack", "[J", true)
  | 3 => ("ScopeInterpreter", "stackSize", "I", false)
  | 4 => ("ScopeInterpreter", "present", "I", false)
  | _ => ("ScopeInterpreter", "limit", "I", false)
def qx_ty : Nat → FieldType := fun k => match k with
  | 0 => .object "ScopeInterpreter$Heap"
  | 1 => .object "ScopeInterpreter$Machine"
  | 2 => .array .long
  | 3 => .int
  | 4 => .int
  | _ => .int
theorem qx_nm : ∀ a, a < 6 → ∀ b, b < 6 → a ≠ b → (qx_F a).2.1 ≠ (qx_F b).2.1 := by decide +kernel
theorem qx_tyok : ∀ k, k < 6 → parseFieldDescriptor (qx_F k).2.2.1 = some (qx_ty k) := by decide +kernel
theorem qx_in : ∀ x ∈ u_ws qx_R qx_F 6, x ∈ gw := by
  have h : u_ws qx_R qx_F 6 = [271, 273, 275, 277, 279, 281].filterMap (fun i => lw_tbl[i]?) := by decide +kernel
  have g : (u_ws qx_R qx_F 6).all goodWord = true := by decide +kernel
  intro x hx
  have g1 := List.all_eq_true.mp g x hx
  rw [h] at hx
  obtain ⟨i, -, hi⟩ := List.mem_filterMap.mp hx
  exact gw_at i hi g1
def qm_F : u_T := fun k => match k with
  | 0 => ("ScopeInterpreterModel", "objects", "I", false)
  | 1 => ("ScopeInterpreterModel", "first", "[J", true)
  | 2 => ("ScopeInterpreterModel", "second", "[J", true)
  | 3 => ("ScopeInterpreterModel", "third", "[J", true)
  | 4 => ("ScopeInterpreterModel", "fourth", "[J", true)
  | 5 => ("ScopeInterpreterModel", "symbolOf", "[I", true)
  | 6 => ("ScopeInterpreterModel", "nextOf", "[I", true)
  | 7 => ("ScopeInterpreterModel", "headOf", "[I", true)
  | 8 => ("ScopeInterpreterModel", "isGround", "[Z", true)
  | 9 => ("ScopeInterpreterModel", "groundValue", "[J", true)
  | 10 => ("ScopeInterpreterModel", "found", "J", false)
  | 11 => ("ScopeInterpreterModel", "foundAt", "I", false)
  | 12 => ("ScopeInterpreterModel", "values", "I", false)
  | 13 => ("ScopeInterpreterModel", "stack", "[J", true)
  | 14 => ("ScopeInterpreterModel", "present", "J", false)
  | 15 => ("ScopeInterpreterModel", "limit", "I", false)
  | 16 => ("ScopeInterpreterModel", "steps", "I", false)
  | 17 => ("ScopeInterpreterModel", "mostFrames", "I", false)
  | 18 => ("ScopeInterpreterModel", "mode", "I", false)
  | 19 => ("ScopeInterpreterModel", "now", "J", false)
  | 20 => ("ScopeInterpreterModel", "operands", "J", false)
  | 21 => ("ScopeInterpreterModel", "around", "J", false)
  | 22 => ("ScopeInterpreterModel", "frames", "I", false)
  | 23 => ("ScopeInterpreterModel", "frameKind", "[I", true)
  | 24 => ("ScopeInterpreterModel", "frameOne", "[J", true)
  | 25 => ("ScopeInterpreterModel", "frameOther", "[J", true)
  | 26 => ("ScopeInterpreterModel", "frameAround", "[J", true)
  | 27 => ("ScopeInterpreterModel", "frameBase", "[I", true)
  | 28 => ("ScopeInterpreterModel", "results", "[J", true)
  | 29 => ("ScopeInterpreterModel", "resultMany", "I", false)
  | 30 => ("ScopeInterpreterModel", "treeLeft", "[J", true)
  | 31 => ("ScopeInterpreterModel", "matchLeft", "[J", true)
  | 32 => ("ScopeInterpreterModel", "isSeen", "[Z", true)
  | 33 => ("ScopeInterpreterModel", "boundSymbol", "[I", true)
  | 34 => ("ScopeInterpreterModel", "boundValue", "[J", true)
  | _ => ("ScopeInterpreterModel", "bound", "I", false)
def qm_ty : Nat → FieldType := fun k => match k with
  | 0 => .int
  | 1 => .array .long
  | 2 => .array .long
  | 3 => .array .long
  | 4 => .array .long
  | 5 => .array .int
  | 6 => .array .int
  | 7 => .array .int
  | 8 => .array .boolean
  | 9 => .array .long
  | 10 => .long
  | 11 => .int
  | 12 => .int
  | 13 => .array .long
  | 14 => .long
  | 15 => .int
  | 16 => .int
  | 17 => .int
  | 18 => .int
  | 19 => .long
  | 20 => .long
  | 21 => .long
  | 22 => .int
  | 23 => .array .int
  | 24 => .array .long
  | 25 => .array .long
  | 26 => .array .long
  | 27 => .array .int
  | 28 => .array .long
  | 29 => .int
  | 30 => .array .long
  | 31 => .array .long
  | 32 => .array .boolean
  | 33 => .array .int
  | 34 => .array .long
  | _ => .int
theorem qm_nm : ∀ a, a < 36 → ∀ b, b < 36 → a ≠ b → (qm_F a).2.1 ≠ (qm_F b).2.1 := by decide +kernel
theorem qm_tyok : ∀ k, k < 36 → parseFieldDescriptor (qm_F k).2.2.1 = some (qm_ty k) := by decide +kernel
theorem qm_in : ∀ x ∈ u_ws qm_R qm_F 36, x ∈ gw := by
  have h : u_ws qm_R qm_F 36 = [873, 875, 877, 879, 881, 883, 885, 887, 889, 891, 893, 895, 897, 899, 901, 903, 905, 907, 909, 911, 913, 915, 917, 919, 921, 923, 925, 927, 929, 931, 933, 935, 937, 939, 941, 943].filterMap (fun i => lw_tbl[i]?) := by decide +kernel
  have g : (u_ws qm_R qm_F 36).all goodWord = true := by decide +kernel
  intro x hx
  have g1 := List.all_eq_true.mp g x hx
  rw [h] at hx
  obtain ⟨i, -, hi⟩ := List.mem_filterMap.mp hx
  exact gw_at i hi g1
abbrev qcl : List vw_C := [(qx_R, qx_F, 6), (qh_R, qh_F, 3), (qn_R, qn_F, 12), (qt_R, qt_F, 7), (qf_R, qf_F, 7), (qm_R, qm_F, 36)]
abbrev qh_S : Type := (Nat → Int64) × (Nat → Int64) × Int32
def qh_g_first (σ : qh_S) : Nat → Int64 := σ.1
def qh_g_second (σ : qh_S) : Nat → Int64 := σ.2.1
def qh_g_nextRow (σ : qh_S) : Int32 := σ.2.2
def qh_s_first (σ : qh_S) (v : Nat → Int64) : qh_S := (v, σ.2)
def qh_s_second (σ : qh_S) (v : Nat → Int64) : qh_S := (σ.1, v, σ.2.2)
def qh_s_nextRow (σ : qh_S) (v : Int32) : qh_S := (σ.1, σ.2.1, v)
def qh_t_first (σ : qh_S) (i : Int32) (v : Int64) : qh_S := qh_s_first σ (vp_updL (qh_g_first σ) i.toNatClampNeg v)
def qh_t_second (σ : qh_S) (i : Int32) (v : Int64) : qh_S := qh_s_second σ (vp_updL (qh_g_second σ) i.toNatClampNeg v)
abbrev qf_S : Type := (Nat → Int32) × (Nat → Int32) × (Nat → Int64) × (Nat → Int64) × (Nat → Int32) × Int32 × Int32
def qf_g_tasks (σ : qf_S) : Nat → Int32 := σ.1
def qf_g_environments (σ : qf_S) : Nat → Int32 := σ.2.1
def qf_g_rests (σ : qf_S) : Nat → Int64 := σ.2.2.1
def qf_g_helds (σ : qf_S) : Nat → Int64 := σ.2.2.2.1
def qf_g_gathereds (σ : qf_S) : Nat → Int32 := σ.2.2.2.2.1
def qf_g_count (σ : qf_S) : Int32 := σ.2.2.2.2.2.1
def qf_g_most (σ : qf_S) : Int32 := σ.2.2.2.2.2.2
def qf_s_tasks (σ : qf_S) (v : Nat → Int32) : qf_S := (v, σ.2)
def qf_s_environments (σ : qf_S) (v : Nat → Int32) : qf_S := (σ.1, v, σ.2.2)
def qf_s_rests (σ : qf_S) (v : Nat → Int64) : qf_S := (σ.1, σ.2.1, v, σ.2.2.2)
def qf_s_helds (σ : qf_S) (v : Nat → Int64) : qf_S := (σ.1, σ.2.1, σ.2.2.1, v, σ.2.2.2.2)
def qf_s_gathereds (σ : qf_S) (v : Nat → Int32) : qf_S := (σ.1, σ.2.1, σ.2.2.1, σ.2.2.2.1, v, σ.2.2.2.2.2)
def qf_s_count (σ : qf_S) (v : Int32) : qf_S := (σ.1, σ.2.1, σ.2.2.1, σ.2.2.2.1, σ.2.2.2.2.1, v, σ.2.2.2.2.2.2)
def qf_s_most (σ : qf_S) (v : Int32) : qf_S := (σ.1, σ.2.1, σ.2.2.1, σ.2.2.2.1, σ.2.2.2.2.1, σ.2.2.2.2.2.1, v)
def qf_t_tasks (σ : qf_S) (i : Int32) (v : Int32) : qf_S := qf_s_tasks σ (upd (qf_g_tasks σ) i.toNatClampNeg v)
def qf_t_environments (σ : qf_S) (i : Int32) (v : Int32) : qf_S := qf_s_environments σ (upd (qf_g_environments σ) i.toNatClampNeg v)
def qf_t_rests (σ : qf_S) (i : Int32) (v : Int64) : qf_S := qf_s_rests σ (vp_updL (qf_g_rests σ) i.toNatClampNeg v)
def qf_t_helds (σ : qf_S) (i : Int32) (v : Int64) : qf_S := qf_s_helds σ (vp_updL (qf_g_helds σ) i.toNatClampNeg v)
def qf_t_gathereds (σ : qf_S) (i : Int32) (v : Int32) : qf_S := qf_s_gathereds σ (upd (qf_g_gathereds σ) i.toNatClampNeg v)
abbrev qt_O : Type := (Nat → Int64) × (Nat → Int64) × Int32 × (Nat → Int32) × (Nat → Int64) × Int32
abbrev qt_S : Type := qt_O × qh_S
def qt_g_pendingTrees (σ : qt_S) : Nat → Int64 := σ.1.1
def qt_g_pendingParts (σ : qt_S) : Nat → Int64 := σ.1.2.1
def qt_g_pendingCount (σ : qt_S) : Int32 := σ.1.2.2.1
def qt_g_symbols (σ : qt_S) : Nat → Int32 := σ.1.2.2.2.1
def qt_g_parts (σ : qt_S) : Nat → Int64 := σ.1.2.2.2.2.1
def qt_g_symbolCount (σ : qt_S) : Int32 := σ.1.2.2.2.2.2
def qt_s_pendingTrees (σ : qt_S) (v : Nat → Int64) : qt_S := ((v, σ.1.2), σ.2)
def qt_s_pendingParts (σ : qt_S) (v : Nat → Int64) : qt_S := ((σ.1.1, v, σ.1.2.2), σ.2)
def qt_s_pendingCount (σ : qt_S) (v : Int32) : qt_S := ((σ.1.1, σ.1.2.1, v, σ.1.2.2.2), σ.2)
def qt_s_symbols (σ : qt_S) (v : Nat → Int32) : qt_S := ((σ.1.1, σ.1.2.1, σ.1.2.2.1, v, σ.1.2.2.2.2), σ.2)
def qt_s_parts (σ : qt_S) (v : Nat → Int64) : qt_S := ((σ.1.1, σ.1.2.1, σ.1.2.2.1, σ.1.2.2.2.1, v, σ.1.2.2.2.2.2), σ.2)
def qt_s_symbolCount (σ : qt_S) (v : Int32) : qt_S := ((σ.1.1, σ.1.2.1, σ.1.2.2.1, σ.1.2.2.2.1, σ.1.2.2.2.2.1, v), σ.2)
def qt_t_pendingTrees (σ : qt_S) (i : Int32) (v : Int64) : qt_S := qt_s_pendingTrees σ (vp_updL (qt_g_pendingTrees σ) i.toNatClampNeg v)
def qt_t_pendingParts (σ : qt_S) (i : Int32) (v : Int64) : qt_S := qt_s_pendingParts σ (vp_updL (qt_g_pendingParts σ) i.toNatClampNeg v)
def qt_t_symbols (σ : qt_S) (i : Int32) (v : Int32) : qt_S := qt_s_symbols σ (upd (qt_g_symbols σ) i.toNatClampNeg v)
def qt_t_parts (σ : qt_S) (i : Int32) (v : Int64) : qt_S := qt_s_parts σ (vp_updL (qt_g_parts σ) i.toNatClampNeg v)
abbrev qn_O : Type := (Nat → Int64) × Int32 × Int32 × Int64 × Int64 × Int32 × Int32 × Int32 × Int32
abbrev qn_S : Type := qn_O × qf_S × qt_S
def qn_g_arguments (σ : qn_S) : Nat → Int64 := σ.1.1
def qn_g_argumentCount (σ : qn_S) : Int32 := σ.1.2.1
def qn_g_mode (σ : qn_S) : Int32 := σ.1.2.2.1
def qn_g_current (σ : qn_S) : Int64 := σ.1.2.2.2.1
def qn_g_operands (σ : qn_S) : Int64 := σ.1.2.2.2.2.1
def qn_g_environment (σ : qn_S) : Int32 := σ.1.2.2.2.2.2.1
def qn_g_steps (σ : qn_S) : Int32 := σ.1.2.2.2.2.2.2.1
def qn_g_limit (σ : qn_S) : Int32 := σ.1.2.2.2.2.2.2.2.1
def qn_g_failure (σ : qn_S) : Int32 := σ.1.2.2.2.2.2.2.2.2
def qn_s_arguments (σ : qn_S) (v : Nat → Int64) : qn_S := ((v, σ.1.2), σ.2)
def qn_s_argumentCount (σ : qn_S) (v : Int32) : qn_S := ((σ.1.1, v, σ.1.2.2), σ.2)
def qn_s_mode (σ : qn_S) (v : Int32) : qn_S := ((σ.1.1, σ.1.2.1, v, σ.1.2.2.2), σ.2)
def qn_s_current (σ : qn_S) (v : Int64) : qn_S := ((σ.1.1, σ.1.2.1, σ.1.2.2.1, v, σ.1.2.2.2.2), σ.2)
def qn_s_operands (σ : qn_S) (v : Int64) : qn_S := ((σ.1.1, σ.1.2.1, σ.1.2.2.1, σ.1.2.2.2.1, v, σ.1.2.2.2.2.2), σ.2)
def qn_s_environment (σ : qn_S) (v : Int32) : qn_S := ((σ.1.1, σ.1.2.1, σ.1.2.2.1, σ.1.2.2.2.1, σ.1.2.2.2.2.1, v, σ.1.2.2.2.2.2.2), σ.2)
def qn_s_steps (σ : qn_S) (v : Int32) : qn_S := ((σ.1.1, σ.1.2.1, σ.1.2.2.1, σ.1.2.2.2.1, σ.1.2.2.2.2.1, σ.1.2.2.2.2.2.1, v, σ.1.2.2.2.2.2.2.2), σ.2)
def qn_s_limit (σ : qn_S) (v : Int32) : qn_S := ((σ.1.1, σ.1.2.1, σ.1.2.2.1, σ.1.2.2.2.1, σ.1.2.2.2.2.1, σ.1.2.2.2.2.2.1, σ.1.2.2.2.2.2.2.1, v, σ.1.2.2.2.2.2.2.2.2), σ.2)
def qn_s_failure (σ : qn_S) (v : Int32) : qn_S := ((σ.1.1, σ.1.2.1, σ.1.2.2.1, σ.1.2.2.2.1, σ.1.2.2.2.2.1, σ.1.2.2.2.2.2.1, σ.1.2.2.2.2.2.2.1, σ.1.2.2.2.2.2.2.2.1, v), σ.2)
def qn_t_arguments (σ : qn_S) (i : Int32) (v : Int64) : qn_S := qn_s_arguments σ (vp_updL (qn_g_arguments σ) i.toNatClampNeg v)
abbrev qx_O : Type := (Nat → Int64) × Int32 × Int32 × Int32
abbrev qx_S : Type := qx_O × qn_S
def qx_g_stack (σ : qx_S) : Nat → Int64 := σ.1.1
def qx_g_stackSize (σ : qx_S) : Int32 := σ.1.2.1
def qx_g_present (σ : qx_S) : Int32 := σ.1.2.2.1
def qx_g_limit (σ : qx_S) : Int32 := σ.1.2.2.2
def qx_s_stack (σ : qx_S) (v : Nat → Int64) : qx_S := ((v, σ.1.2), σ.2)
def qx_s_stackSize (σ : qx_S) (v : Int32) : qx_S := ((σ.1.1, v, σ.1.2.2), σ.2)
def qx_s_present (σ : qx_S) (v : Int32) : qx_S := ((σ.1.1, σ.1.2.1, v, σ.1.2.2.2), σ.2)
def qx_s_limit (σ : qx_S) (v : Int32) : qx_S := ((σ.1.1, σ.1.2.1, σ.1.2.2.1, v), σ.2)
def qx_t_stack (σ : qx_S) (i : Int32) (v : Int64) : qx_S := qx_s_stack σ (vp_updL (qx_g_stack σ) i.toNatClampNeg v)
abbrev qm_S : Type := Int32 × (Nat → Int64) × (Nat → Int64) × (Nat → Int64) × (Nat → Int64) × (Nat → Int32) × (Nat → Int32) × (Nat → Int32) × (Nat → Int32) × (Nat → Int64) × Int64 × Int32 × Int32 × (Nat → Int64) × Int64 × Int32 × Int32 × Int32 × Int32 × Int64 × Int64 × Int64 × Int32 × (Nat → Int32) × (Nat → Int64) × (Nat → Int64) × (Nat → Int64) × (Nat → Int32) × (Nat → Int64) × Int32 × (Nat → Int64) × (Nat → Int64) × (Nat → Int32) × (Nat → Int32) × (Nat → Int64) × Int32
def qm_g_objects (σ : qm_S) : Int32 := σ.1
def qm_g_first (σ : qm_S) : Nat → Int64 := σ.2.1
def qm_g_second (σ : qm_S) : Nat → Int64 := σ.2.2.1
def qm_g_third (σ : qm_S) : Nat → Int64 := σ.2.2.2.1
def qm_g_fourth (σ : qm_S) : Nat → Int64 := σ.2.2.2.2.1
def qm_g_symbolOf (σ : qm_S) : Nat → Int32 := σ.2.2.2.2.2.1
def qm_g_nextOf (σ : qm_S) : Nat → Int32 := σ.2.2.2.2.2.2.1
def qm_g_headOf (σ : qm_S) : Nat → Int32 := σ.2.2.2.2.2.2.2.1
def qm_g_isGround (σ : qm_S) : Nat → Int32 := σ.2.2.2.2.2.2.2.2.1
def qm_g_groundValue (σ : qm_S) : Nat → Int64 := σ.2.2.2.2.2.2.2.2.2.1
def qm_g_found (σ : qm_S) : Int64 := σ.2.2.2.2.2.2.2.2.2.2.1
def qm_g_foundAt (σ : qm_S) : Int32 := σ.2.2.2.2.2.2.2.2.2.2.2.1
def qm_g_values (σ : qm_S) : Int32 := σ.2.2.2.2.2.2.2.2.2.2.2.2.1
def qm_g_stack (σ : qm_S) : Nat → Int64 := σ.2.2.2.2.2.2.2.2.2.2.2.2.2.1
def qm_g_present (σ : qm_S) : Int64 := σ.2.2.2.2.2.2.2.2.2.2.2.2.2.2.1
def qm_g_limit (σ : qm_S) : Int32 := σ.2.2.2.2.2.2.2.2.2.2.2.2.2.2.2.1
def qm_g_steps (σ : qm_S) : Int32 := σ.2.2.2.2.2.2.2.2.2.2.2.2.2.2.2.2.1
def qm_g_mostFrames (σ : qm_S) : Int32 := σ.2.2.2.2.2.2.2.2.2.2.2.2.2.2.2.2.2.1
def qm_g_mode (σ : qm_S) : Int32 := σ.2.2.2.2.2.2.2.2.2.2.2.2.2.2.2.2.2.2.1
def qm_g_now (σ : qm_S) : Int64 := σ.2.2.2.2.2.2.2.2.2.2.2.2.2.2.2.2.2.2.2.1
def qm_g_operands (σ : qm_S) : Int64 := σ.2.2.2.2.2.2.2.2.2.2.2.2.2.2.2.2.2.2.2.2.1
def qm_g_around (σ : qm_S) : Int64 := σ.2.2.2.2.2.2.2.2.2.2.2.2.2.2.2.2.2.2.2.2.2.1
def qm_g_frames (σ : qm_S) : Int32 := σ.2.2.2.2.2.2.2.2.2.2.2.2.2.2.2.2.2.2.2.2.2.2.1
def qm_g_frameKind (σ : qm_S) : Nat → Int32 := σ.2.2.2.2.2.2.2.2.2.2.2.2.2.2.2.2.2.2.2.2.2.2.2.1
def qm_g_frameOne (σ : qm_S) : Nat → Int64 := σ.2.2.2.2.2.2.2.2.2.2.2.2.2.2.2.2.2.2.2.2.2.2.2.2.1
def qm_g_frameOther (σ : qm_S) : Nat → Int64 := σ.2.2.2.2.2.2.2.2.2.2.2.2.2.2.2.2.2.2.2.2.2.2.2.2.2.1
def qm_g_frameAround (σ : qm_S) : Nat → Int64 := σ.2.2.2.2.2.2.2.2.2.2.2.2.2.2.2.2.2.2.2.2.2.2.2.2.2.2.1
def qm_g_frameBase (σ : qm_S) : Nat → Int32 := σ.2.2.2.2.2.2.2.2.2.2.2.2.2.2.2.2.2.2.2.2.2.2.2.2.2.2.2.1
def qm_g_results (σ : qm_S) : Nat → Int64 := σ.2.2.2.2.2.2.2.2.2.2.2.2.2.2.2.2.2.2.2.2.2.2.2.2.2.2.2.2.1
def qm_g_resultMany (σ : qm_S) : Int32 := σ.2.2.2.2.2.2.2.2.2.2.2.2.2.2.2.2.2.2.2.2.2.2.2.2.2.2.2.2.2.1
def qm_g_treeLeft (σ : qm_S) : Nat → Int64 := σ.2.2.2.2.2.2.2.2.2.2.2.2.2.2.2.2.2.2.2.2.2.2.2.2.2.2.2.2.2.2.1
def qm_g_matchLeft (σ : qm_S) : Nat → Int64 := σ.2.2.2.2.2.2.2.2.2.2.2.2.2.2.2.2.2.2.2.2.2.2.2.2.2.2.2.2.2.2.2.1
def qm_g_isSeen (σ : qm_S) : Nat → Int32 := σ.2.2.2.2.2.2.2.2.2.2.2.2.2.2.2.2.2.2.2.2.2.2.2.2.2.2.2.2.2.2.2.2.1
def qm_g_boundSymbol (σ : qm_S) : Nat → Int32 := σ.2.2.2.2.2.2.2.2.2.2.2.2.2.2.2.2.2.2.2.2.2.2.2.2.2.2.2.2.2.2.2.2.2.1
def qm_g_boundValue (σ : qm_S) : Nat → Int64 := σ.2.2.2.2.2.2.2.2.2.2.2.2.2.2.2.2.2.2.2.2.2.2.2.2.2.2.2.2.2.2.2.2.2.2.1
def qm_g_bound (σ : qm_S) : Int32 := σ.2.2.2.2.2.2.2.2.2.2.2.2.2.2.2.2.2.2.2.2.2.2.2.2.2.2.2.2.2.2.2.2.2.2.2
def qm_s_objects (σ : qm_S) (v : Int32) : qm_S := (v, σ.2)
def qm_s_first (σ : qm_S) (v : Nat → Int64) : qm_S := (σ.1, v, σ.2.2)
def qm_s_second (σ : qm_S) (v : Nat → Int64) : qm_S := (σ.1, σ.2.1, v, σ.2.2.2)
def qm_s_third (σ : qm_S) (v : Nat → Int64) : qm_S := (σ.1, σ.2.1, σ.2.2.1, v, σ.2.2.2.2)
def qm_s_fourth (σ : qm_S) (v : Nat → Int64) : qm_S := (σ.1, σ.2.1, σ.2.2.1, σ.2.2.2.1, v, σ.2.2.2.2.2)
def qm_s_symbolOf (σ : qm_S) (v : Nat → Int32) : qm_S := (σ.1, σ.2.1, σ.2.2.1, σ.2.2.2.1, σ.2.2.2.2.1, v, σ.2.2.2.2.2.2)
def qm_s_nextOf (σ : qm_S) (v : Nat → Int32) : qm_S := (σ.1, σ.2.1, σ.2.2.1, σ.2.2.2.1, σ.2.2.2.2.1, σ.2.2.2.2.2.1, v, σ.2.2.2.2.2.2.2)
def qm_s_headOf (σ : qm_S) (v : Nat → Int32) : qm_S := (σ.1, σ.2.1, σ.2.2.1, σ.2.2.2.1, σ.2.2.2.2.1, σ.2.2.2.2.2.1, σ.2.2.2.2.2.2.1, v, σ.2.2.2.2.2.2.2.2)
def qm_s_isGround (σ : qm_S) (v : Nat → Int32) : qm_S := (σ.1, σ.2.1, σ.2.2.1, σ.2.2.2.1, σ.2.2.2.2.1, σ.2.2.2.2.2.1, σ.2.2.2.2.2.2.1, σ.2.2.2.2.2.2.2.1, v, σ.2.2.2.2.2.2.2.2.2)
def qm_s_groundValue (σ : qm_S) (v : Nat → Int64) : qm_S := (σ.1, σ.2.1, σ.2.2.1, σ.2.2.2.1, σ.2.2.2.2.1, σ.2.2.2.2.2.1, σ.2.2.2.2.2.2.1, σ.2.2.2.2.2.2.2.1, σ.2.2.2.2.2.2.2.2.1, v, σ.2.2.2.2.2.2.2.2.2.2)
def qm_s_found (σ : qm_S) (v : Int64) : qm_S := (σ.1, σ.2.1, σ.2.2.1, σ.2.2.2.1, σ.2.2.2.2.1, σ.2.2.2.2.2.1, σ.2.2.2.2.2.2.1, σ.2.2.2.2.2.2.2.1, σ.2.2.2.2.2.2.2.2.1, σ.2.2.2.2.2.2.2.2.2.1, v, σ.2.2.2.2.2.2.2.2.2.2.2)
def qm_s_foundAt (σ : qm_S) (v : Int32) : qm_S := (σ.1, σ.2.1, σ.2.2.1, σ.2.2.2.1, σ.2.2.2.2.1, σ.2.2.2.2.2.1, σ.2.2.2.2.2.2.1, σ.2.2.2.2.2.2.2.1, σ.2.2.2.2.2.2.2.2.1, σ.2.2.2.2.2.2.2.2.2.1, σ.2.2.2.2.2.2.2.2.2.2.1, v, σ.2.2.2.2.2.2.2.2.2.2.2.2)
def qm_s_values (σ : qm_S) (v : Int32) : qm_S := (σ.1, σ.2.1, σ.2.2.1, σ.2.2.2.1, σ.2.2.2.2.1, σ.2.2.2.2.2.1, σ.2.2.2.2.2.2.1, σ.2.2.2.2.2.2.2.1, σ.2.2.2.2.2.2.2.2.1, σ.2.2.2.2.2.2.2.2.2.1, σ.2.2.2.2.2.2.2.2.2.2.1, σ.2.2.2.2.2.2.2.2.2.2.2.1, v, σ.2.2.2.2.2.2.2.2.2.2.2.2.2)
def qm_s_stack (σ : qm_S) (v : Nat → Int64) : qm_S := (σ.1, σ.2.1, σ.2.2.1, σ.2.2.2.1, σ.2.2.2.2.1, σ.2.2.2.2.2.1, σ.2.2.2.2.2.2.1, σ.2.2.2.2.2.2.2.1, σ.2.2.2.2.2.2.2.2.1, σ.2.2.2.2.2.2.2.2.2.1, σ.2.2.2.2.2.2.2.2.2.2.1, σ.2.2.2.2.2.2.2.2.2.2.2.1, σ.2.2.2.2.2.2.2.2.2.2.2.2.1, v, σ.2.2.2.2.2.2.2.2.2.2.2.2.2.2)
def qm_s_present (σ : qm_S) (v : Int64) : qm_S := (σ.1, σ.2.1, σ.2.2.1, σ.2.2.2.1, σ.2.2.2.2.1, σ.2.2.2.2.2.1, σ.2.2.2.2.2.2.1, σ.2.2.2.2.2.2.2.1, σ.2.2.2.2.2.2.2.2.1, σ.2.2.2.2.2.2.2.2.2.1, σ.2.2.2.2.2.2.2.2.2.2.1, σ.2.2.2.2.2.2.2.2.2.2.2.1, σ.2.2.2.2.2.2.2.2.2.2.2.2.1, σ.2.2.2.2.2.2.2.2.2.2.2.2.2.1, v, σ.2.2.2.2.2.2.2.2.2.2.2.2.2.2.2)
def qm_s_limit (σ : qm_S) (v : Int32) : qm_S := (σ.1, σ.2.1, σ.2.2.1, σ.2.2.2.1, σ.2.2.2.2.1, σ.2.2.2.2.2.1, σ.2.2.2.2.2.2.1, σ.2.2.2.2.2.2.2.1, σ.2.2.2.2.2.2.2.2.1, σ.2.2.2.2.2.2.2.2.2.1, σ.2.2.2.2.2.2.2.2.2.2.1, σ.2.2.2.2.2.2.2.2.2.2.2.1, σ.2.2.2.2.2.2.2.2.2.2.2.2.1, σ.2.2.2.2.2.2.2.2.2.2.2.2.2.1, σ.2.2.2.2.2.2.2.2.2.2.2.2.2.2.1, v, σ.2.2.2.2.2.2.2.2.2.2.2.2.2.2.2.2)
def qm_s_steps (σ : qm_S) (v : Int32) : qm_S := (σ.1, σ.2.1, σ.2.2.1, σ.2.2.2.1, σ.2.2.2.2.1, σ.2.2.2.2.2.1, σ.2.2.2.2.2.2.1, σ.2.2.2.2.2.2.2.1, σ.2.2.2.2.2.2.2.2.1, σ.2.2.2.2.2.2.2.2.2.1, σ.2.2.2.2.2.2.2.2.2.2.1, σ.2.2.2.2.2.2.2.2.2.2.2.1, σ.2.2.2.2.2.2.2.2.2.2.2.2.1, σ.2.2.2.2.2.2.2.2.2.2.2.2.2.1, σ.2.2.2.2.2.2.2.2.2.2.2.2.2.2.1, σ.2.2.2.2.2.2.2.2.2.2.2.2.2.2.2.1, v, σ.2.2.2.2.2.2.2.2.2.2.2.2.2.2.2.2.2)
def qm_s_mostFrames (σ : qm_S) (v : Int32) : qm_S := (σ.1, σ.2.1, σ.2.2.1, σ.2.2.2.1, σ.2.2.2.2.1, σ.2.2.2.2.2.1, σ.2.2.2.2.2.2.1, σ.2.2.2.2.2.2.2.1, σ.2.2.2.2.2.2.2.2.1, σ.2.2.2.2.2.2.2.2.2.1, σ.2.2.2.2.2.2.2.2.2.2.1, σ.2.2.2.2.2.2.2.2.2.2.2.1, σ.2.2.2.2.2.2.2.2.2.2.2.2.1, σ.2.2.2.2.2.2.2.2.2.2.2.2.2.1, σ.2.2.2.2.2.2.2.2.2.2.2.2.2.2.1, σ.2.2.2.2.2.2.2.2.2.2.2.2.2.2.2.1, σ.2.2.2.2.2.2.2.2.2.2.2.2.2.2.2.2.1, v, σ.2.2.2.2.2.2.2.2.2.2.2.2.2.2.2.2.2.2)
def qm_s_mode (σ : qm_S) (v : Int32) : qm_S := (σ.1, σ.2.1, σ.2.2.1, σ.2.2.2.1, σ.2.2.2.2.1, σ.2.2.2.2.2.1, σ.2.2.2.2.2.2.1, σ.2.2.2.2.2.2.2.1, σ.2.2.2.2.2.2.2.2.1, σ.2.2.2.2.2.2.2.2.2.1, σ.2.2.2.2.2.2.2.2.2.2.1, σ.2.2.2.2.2.2.2.2.2.2.2.1, σ.2.2.2.2.2.2.2.2.2.2.2.2.1, σ.2.2.2.2.2.2.2.2.2.2.2.2.2.1, σ.2.2.2.2.2.2.2.2.2.2.2.2.2.2.1, σ.2.2.2.2.2.2.2.2.2.2.2.2.2.2.2.1, σ.2.2.2.2.2.2.2.2.2.2.2.2.2.2.2.2.1, σ.2.2.2.2.2.2.2.2.2.2.2.2.2.2.2.2.2.1, v, σ.2.2.2.2.2.2.2.2.2.2.2.2.2.2.2.2.2.2.2)
def qm_s_now (σ : qm_S) (v : Int64) : qm_S := (σ.1, σ.2.1, σ.2.2.1, σ.2.2.2.1, σ.2.2.2.2.1, σ.2.2.2.2.2.1, σ.2.2.2.2.2.2.1, σ.2.2.2.2.2.2.2.1, σ.2.2.2.2.2.2.2.2.1, σ.2.2.2.2.2.2.2.2.2.1, σ.2.2.2.2.2.2.2.2.2.2.1, σ.2.2.2.2.2.2.2.2.2.2.2.1, σ.2.2.2.2.2.2.2.2.2.2.2.2.1, σ.2.2.2.2.2.2.2.2.2.2.2.2.2.1, σ.2.2.2.2.2.2.2.2.2.2.2.2.2.2.1, σ.2.2.2.2.2.2.2.2.2.2.2.2.2.2.2.1, σ.2.2.2.2.2.2.2.2.2.2.2.2.2.2.2.2.1, σ.2.2.2.2.2.2.2.2.2.2.2.2.2.2.2.2.2.1, σ.2.2.2.2.2.2.2.2.2.2.2.2.2.2.2.2.2.2.1, v, σ.2.2.2.2.2.2.2.2.2.2.2.2.2.2.2.2.2.2.2.2)
def qm_s_operands (σ : qm_S) (v : Int64) : qm_S := (σ.1, σ.2.1, σ.2.2.1, σ.2.2.2.1, σ.2.2.2.2.1, σ.2.2.2.2.2.1, σ.2.2.2.2.2.2.1, σ.2.2.2.2.2.2.2.1, σ.2.2.2.2.2.2.2.2.1, σ.2.2.2.2.2.2.2.2.2.1, σ.2.2.2.2.2.2.2.2.2.2.1, σ.2.2.2.2.2.2.2.2.2.2.2.1, σ.2.2.2.2.2.2.2.2.2.2.2.2.1, σ.2.2.2.2.2.2.2.2.2.2.2.2.2.1, σ.2.2.2.2.2.2.2.2.2.2.2.2.2.2.1, σ.2.2.2.2.2.2.2.2.2.2.2.2.2.2.2.1, σ.2.2.2.2.2.2.2.2.2.2.2.2.2.2.2.2.1, σ.2.2.2.2.2.2.2.2.2.2.2.2.2.2.2.2.2.1, σ.2.2.2.2.2.2.2.2.2.2.2.2.2.2.2.2.2.2.1, σ.2.2.2.2.2.2.2.2.2.2.2.2.2.2.2.2.2.2.2.1, v, σ.2.2.2.2.2.2.2.2.2.2.2.2.2.2.2.2.2.2.2.2.2)
def qm_s_around (σ : qm_S) (v : Int64) : qm_S := (σ.1, σ.2.1, σ.2.2.1, σ.2.2.2.1, σ.2.2.2.2.1, σ.2.2.2.2.2.1, σ.2.2.2.2.2.2.1, σ.2.2.2.2.2.2.2.1, σ.2.2.2.2.2.2.2.2.1, σ.2.2.2.2.2.2.2.2.2.1, σ.2.2.2.2.2.2.2.2.2.2.1, σ.2.2.2.2.2.2.2.2.2.2.2.1, σ.2.2.2.2.2.2.2.2.2.2.2.2.1, σ.2.2.2.2.2.2.2.2.2.2.2.2.2.1, σ.2.2.2.2.2.2.2.2.2.2.2.2.2.2.1, σ.2.2.2.2.2.2.2.2.2.2.2.2.2.2.2.1, σ.2.2.2.2.2.2.2.2.2.2.2.2.2.2.2.2.1, σ.2.2.2.2.2.2.2.2.2.2.2.2.2.2.2.2.2.1, σ.2.2.2.2.2.2.2.2.2.2.2.2.2.2.2.2.2.2.1, σ.2.2.2.2.2.2.2.2.2.2.2.2.2.2.2.2.2.2.2.1, σ.2.2.2.2.2.2.2.2.2.2.2.2.2.2.2.2.2.2.2.2.1, v, σ.2.2.2.2.2.2.2.2.2.2.2.2.2.2.2.2.2.2.2.2.2.2)
def qm_s_frames (σ : qm_S) (v : Int32) : qm_S := (σ.1, σ.2.1, σ.2.2.1, σ.2.2.2.1, σ.2.2.2.2.1, σ.2.2.2.2.2.1, σ.2.2.2.2.2.2.1, σ.2.2.2.2.2.2.2.1, σ.2.2.2.2.2.2.2.2.1, σ.2.2.2.2.2.2.2.2.2.1, σ.2.2.2.2.2.2.2.2.2.2.1, σ.2.2.2.2.2.2.2.2.2.2.2.1, σ.2.2.2.2.2.2.2.2.2.2.2.2.1, σ.2.2.2.2.2.2.2.2.2.2.2.2.2.1, σ.2.2.2.2.2.2.2.2.2.2.2.2.2.2.1, σ.2.2.2.2.2.2.2.2.2.2.2.2.2.2.2.1, σ.2.2.2.2.2.2.2.2.2.2.2.2.2.2.2.2.1, σ.2.2.2.2.2.2.2.2.2.2.2.2.2.2.2.2.2.1, σ.2.2.2.2.2.2.2.2.2.2.2.2.2.2.2.2.2.2.1, σ.2.2.2.2.2.2.2.2.2.2.2.2.2.2.2.2.2.2.2.1, σ.2.2.2.2.2.2.2.2.2.2.2.2.2.2.2.2.2.2.2.2.1, σ.2.2.2.2.2.2.2.2.2.2.2.2.2.2.2.2.2.2.2.2.2.1, v, σ.2.2.2.2.2.2.2.2.2.2.2.2.2.2.2.2.2.2.2.2.2.2.2)
def qm_s_frameKind (σ : qm_S) (v : Nat → Int32) : qm_S := (σ.1, σ.2.1, σ.2.2.1, σ.2.2.2.1, σ.2.2.2.2.1, σ.2.2.2.2.2.1, σ.2.2.2.2.2.2.1, σ.2.2.2.2.2.2.2.1, σ.2.2.2.2.2.2.2.2.1, σ.2.2.2.2.2.2.2.2.2.1, σ.2.2.2.2.2.2.2.2.2.2.1, σ.2.2.2.2.2.2.2.2.2.2.2.1, σ.2.2.2.2.2.2.2.2.2.2.2.2.1, σ.2.2.2.2.2.2.2.2.2.2.2.2.2.1, σ.2.2.2.2.2.2.2.2.2.2.2.2.2.2.1, σ.2.2.2.2.2.2.2.2.2.2.2.2.2.2.2.1, σ.2.2.2.2.2.2.2.2.2.2.2.2.2.2.2.2.1, σ.2.2.2.2.2.2.2.2.2.2.2.2.2.2.2.2.2.1, σ.2.2.2.2.2.2.2.2.2.2.2.2.2.2.2.2.2.2.1, σ.2.2.2.2.2.2.2.2.2.2.2.2.2.2.2.2.2.2.2.1, σ.2.2.2.2.2.2.2.2.2.2.2.2.2.2.2.2.2.2.2.2.1, σ.2.2.2.2.2.2.2.2.2.2.2.2.2.2.2.2.2.2.2.2.2.1, σ.2.2.2.2.2.2.2.2.2.2.2.2.2.2.2.2.2.2.2.2.2.2.1, v, σ.2.2.2.2.2.2.2.2.2.2.2.2.2.2.2.2.2.2.2.2.2.2.2.2)
def qm_s_frameOne (σ : qm_S) (v : Nat → Int64) : qm_S := (σ.1, σ.2.1, σ.2.2.1, σ.2.2.2.1, σ.2.2.2.2.1, σ.2.2.2.2.2.1, σ.2.2.2.2.2.2.1, σ.2.2.2.2.2.2.2.1, σ.2.2.2.2.2.2.2.2.1, σ.2.2.2.2.2.2.2.2.2.1, σ.2.2.2.2.2.2.2.2.2.2.1, σ.2.2.2.2.2.2.2.2.2.2.2.1, σ.2.2.2.2.2.2.2.2.2.2.2.2.1, σ.2.2.2.2.2.2.2.2.2.2.2.2.2.1, σ.2.2.2.2.2.2.2.2.2.2.2.2.2.2.1, σ.2.2.2.2.2.2.2.2.2.2.2.2.2.2.2.1, σ.2.2.2.2.2.2.2.2.2.2.2.2.2.2.2.2.1, σ.2.2.2.2.2.2.2.2.2.2.2.2.2.2.2.2.2.1, σ.2.2.2.2.2.2.2.2.2.2.2.2.2.2.2.2.2.2.1, σ.2.2.2.2.2.2.2.2.2.2.2.2.2.2.2.2.2.2.2.1, σ.2.2.2.2.2.2.2.2.2.2.2.2.2.2.2.2.2.2.2.2.1, σ.2.2.2.2.2.2.2.2.2.2.2.2.2.2.2.2.2.2.2.2.2.1, σ.2.2.2.2.2.2.2.2.2.2.2.2.2.2.2.2.2.2.2.2.2.2.1, σ.2.2.2.2.2.2.2.2.2.2.2.2.2.2.2.2.2.2.2.2.2.2.2.1, v, σ.2.2.2.2.2.2.2.2.2.2.2.2.2.2.2.2.2.2.2.2.2.2.2.2.2)
def qm_s_frameOther (σ : qm_S) (v : Nat → Int64) : qm_S := (σ.1, σ.2.1, σ.2.2.1, σ.2.2.2.1, σ.2.2.2.2.1, σ.2.2.2.2.2.1, σ.2.2.2.2.2.2.1, σ.2.2.2.2.2.2.2.1, σ.2.2.2.2.2.2.2.2.1, σ.2.2.2.2.2.2.2.2.2.1, σ.2.2.2.2.2.2.2.2.2.2.1, σ.2.2.2.2.2.2.2.2.2.2.2.1, σ.2.2.2.2.2.2.2.2.2.2.2.2.1, σ.2.2.2.2.2.2.2.2.2.2.2.2.2.1, σ.2.2.2.2.2.2.2.2.2.2.2.2.2.2.1, σ.2.2.2.2.2.2.2.2.2.2.2.2.2.2.2.1, σ.2.2.2.2.2.2.2.2.2.2.2.2.2.2.2.2.1, σ.2.2.2.2.2.2.2.2.2.2.2.2.2.2.2.2.2.1, σ.2.2.2.2.2.2.2.2.2.2.2.2.2.2.2.2.2.2.1, σ.2.2.2.2.2.2.2.2.2.2.2.2.2.2.2.2.2.2.2.1, σ.2.2.2.2.2.2.2.2.2.2.2.2.2.2.2.2.2.2.2.2.1, σ.2.2.2.2.2.2.2.2.2.2.2.2.2.2.2.2.2.2.2.2.2.1, σ.2.2.2.2.2.2.2.2.2.2.2.2.2.2.2.2.2.2.2.2.2.2.1, σ.2.2.2.2.2.2.2.2.2.2.2.2.2.2.2.2.2.2.2.2.2.2.2.1, σ.2.2.2.2.2.2.2.2.2.2.2.2.2.2.2.2.2.2.2.2.2.2.2.2.1, v, σ.2.2.2.2.2.2.2.2.2.2.2.2.2.2.2.2.2.2.2.2.2.2.2.2.2.2)
def qm_s_frameAround (σ : qm_S) (v : Nat → Int64) : qm_S := (σ.1, σ.2.1, σ.2.2.1, σ.2.2.2.1, σ.2.2.2.2.1, σ.2.2.2.2.2.1, σ.2.2.2.2.2.2.1, σ.2.2.2.2.2.2.2.1, σ.2.2.2.2.2.2.2.2.1, σ.2.2.2.2.2.2.2.2.2.1, σ.2.2.2.2.2.2.2.2.2.2.1, σ.2.2.2.2.2.2.2.2.2.2.2.1, σ.2.2.2.2.2.2.2.2.2.2.2.2.1, σ.2.2.2.2.2.2.2.2.2.2.2.2.2.1, σ.2.2.2.2.2.2.2.2.2.2.2.2.2.2.1, σ.2.2.2.2.2.2.2.2.2.2.2.2.2.2.2.1, σ.2.2.2.2.2.2.2.2.2.2.2.2.2.2.2.2.1, σ.2.2.2.2.2.2.2.2.2.2.2.2.2.2.2.2.2.1, σ.2.2.2.2.2.2.2.2.2.2.2.2.2.2.2.2.2.2.1, σ.2.2.2.2.2.2.2.2.2.2.2.2.2.2.2.2.2.2.2.1, σ.2.2.2.2.2.2.2.2.2.2.2.2.2.2.2.2.2.2.2.2.1, σ.2.2.2.2.2.2.2.2.2.2.2.2.2.2.2.2.2.2.2.2.2.1, σ.2.2.2.2.2.2.2.2.2.2.2.2.2.2.2.2.2.2.2.2.2.2.1, σ.2.2.2.2.2.2.2.2.2.2.2.2.2.2.2.2.2.2.2.2.2.2.2.1, σ.2.2.2.2.2.2.2.2.2.2.2.2.2.2.2.2.2.2.2.2.2.2.2.2.1, σ.2.2.2.2.2.2.2.2.2.2.2.2.2.2.2.2.2.2.2.2.2.2.2.2.2.1, v, σ.2.2.2.2.2.2.2.2.2.2.2.2.2.2.2.2.2.2.2.2.2.2.2.2.2.2.2)
def qm_s_frameBase (σ : qm_S) (v : Nat → Int32) : qm_S := (σ.1, σ.2.1, σ.2.2.1, σ.2.2.2.1, σ.2.2.2.2.1, σ.2.2.2.2.2.1, σ.2.2.2.2.2.2.1, σ.2.2.2.2.2.2.2.1, σ.2.2.2.2.2.2.2.2.1, σ.2.2.2.2.2.2.2.2.2.1, σ.2.2.2.2.2.2.2.2.2.2.1, σ.2.2.2.2.2.2.2.2.2.2.2.1, σ.2.2.2.2.2.2.2.2.2.2.2.2.1, σ.2.2.2.2.2.2.2.2.2.2.2.2.2.1, σ.2.2.2.2.2.2.2.2.2.2.2.2.2.2.1, σ.2.2.2.2.2.2.2.2.2.2.2.2.2.2.2.1, σ.2.2.2.2.2.2.2.2.2.2.2.2.2.2.2.2.1, σ.2.2.2.2.2.2.2.2.2.2.2.2.2.2.2.2.2.1, σ.2.2.2.2.2.2.2.2.2.2.2.2.2.2.2.2.2.2.1, σ.2.2.2.2.2.2.2.2.2.2.2.2.2.2.2.2.2.2.2.1, σ.2.2.2.2.2.2.2.2.2.2.2.2.2.2.2.2.2.2.2.2.1, σ.2.2.2.2.2.2.2.2.2.2.2.2.2.2.2.2.2.2.2.2.2.1, σ.2.2.2.2.2.2.2.2.2.2.2.2.2.2.2.2.2.2.2.2.2.2.1, σ.2.2.2.2.2.2.2.2.2.2.2.2.2.2.2.2.2.2.2.2.2.2.2.1, σ.2.2.2.2.2.2.2.2.2.2.2.2.2.2.2.2.2.2.2.2.2.2.2.2.1, σ.2.2.2.2.2.2.2.2.2.2.2.2.2.2.2.2.2.2.2.2.2.2.2.2.2.1, σ.2.2.2.2.2.2.2.2.2.2.2.2.2.2.2.2.2.2.2.2.2.2.2.2.2.2.1, v, σ.2.2.2.2.2.2.2.2.2.2.2.2.2.2.2.2.2.2.2.2.2.2.2.2.2.2.2.2)
def qm_s_results (σ : qm_S) (v : Nat → Int64) : qm_S := (σ.1, σ.2.1, σ.2.2.1, σ.2.2.2.1, σ.2.2.2.2.1, σ.2.2.2.2.2.1, σ.2.2.2.2.2.2.1, σ.2.2.2.2.2.2.2.1, σ.2.2.2.2.2.2.2.2.1, σ.2.2.2.2.2.2.2.2.2.1, σ.2.2.2.2.2.2.2.2.2.2.1, σ.2.2.2.2.2.2.2.2.2.2.2.1, σ.2.2.2.2.2.2.2.2.2.2.2.2.1, σ.2.2.2.2.2.2.2.2.2.2.2.2.2.1, σ.2.2.2.2.2.2.2.2.2.2.2.2.2.2.1, σ.2.2.2.2.2.2.2.2.2.2.2.2.2.2.2.1, σ.2.2.2.2.2.2.2.2.2.2.2.2.2.2.2.2.1, σ.2.2.2.2.2.2.2.2.2.2.2.2.2.2.2.2.2.1, σ.2.2.2.2.2.2.2.2.2.2.2.2.2.2.2.2.2.2.1, σ.2.2.2.2.2.2.2.2.2.2.2.2.2.2.2.2.2.2.2.1, σ.2.2.2.2.2.2.2.2.2.2.2.2.2.2.2.2.2.2.2.2.1, σ.2.2.2.2.2.2.2.2.2.2.2.2.2.2.2.2.2.2.2.2.2.1, σ.2.2.2.2.2.2.2.2.2.2.2.2.2.2.2.2.2.2.2.2.2.2.1, σ.2.2.2.2.2.2.2.2.2.2.2.2.2.2.2.2.2.2.2.2.2.2.2.1, σ.2.2.2.2.2.2.2.2.2.2.2.2.2.2.2.2.2.2.2.2.2.2.2.2.1, σ.2.2.2.2.2.2.2.2.2.2.2.2.2.2.2.2.2.2.2.2.2.2.2.2.2.1, σ.2.2.2.2.2.2.2.2.2.2.2.2.2.2.2.2.2.2.2.2.2.2.2.2.2.2.1, σ.2.2.2.2.2.2.2.2.2.2.2.2.2.2.2.2.2.2.2.2.2.2.2.2.2.2.2.1, v, σ.2.2.2.2.2.2.2.2.2.2.2.2.2.2.2.2.2.2.2.2.2.2.2.2.2.2.2.2.2)
def qm_s_resultMany (σ : qm_S) (v : Int32) : qm_S := (σ.1, σ.2.1, σ.2.2.1, σ.2.2.2.1, σ.2.2.2.2.1, σ.2.2.2.2.2.1, σ.2.2.2.2.2.2.1, σ.2.2.2.2.2.2.2.1, σ.2.2.2.2.2.2.2.2.1, σ.2.2.2.2.2.2.2.2.2.1, σ.2.2.2.2.2.2.2.2.2.2.1, σ.2.2.2.2.2.2.2.2.2.2.2.1, σ.2.2.2.2.2.2.2.2.2.2.2.2.1, σ.2.2.2.2.2.2.2.2.2.2.2.2.2.1, σ.2.2.2.2.2.2.2.2.2.2.2.2.2.2.1, σ.2.2.2.2.2.2.2.2.2.2.2.2.2.2.2.1, σ.2.2.2.2.2.2.2.2.2.2.2.2.2.2.2.2.1, σ.2.2.2.2.2.2.2.2.2.2.2.2.2.2.2.2.2.1, σ.2.2.2.2.2.2.2.2.2.2.2.2.2.2.2.2.2.2.1, σ.2.2.2.2.2.2.2.2.2.2.2.2.2.2.2.2.2.2.2.1, σ.2.2.2.2.2.2.2.2.2.2.2.2.2.2.2.2.2.2.2.2.1, σ.2.2.2.2.2.2.2.2.2.2.2.2.2.2.2.2.2.2.2.2.2.1, σ.2.2.2.2.2.2.2.2.2.2.2.2.2.2.2.2.2.2.2.2.2.2.1, σ.2.2.2.2.2.2.2.2.2.2.2.2.2.2.2.2.2.2.2.2.2.2.2.1, σ.2.2.2.2.2.2.2.2.2.2.2.2.2.2.2.2.2.2.2.2.2.2.2.2.1, σ.2.2.2.2.2.2.2.2.2.2.2.2.2.2.2.2.2.2.2.2.2.2.2.2.2.1, σ.2.2.2.2.2.2.2.2.2.2.2.2.2.2.2.2.2.2.2.2.2.2.2.2.2.2.1, σ.2.2.2.2.2.2.2.2.2.2.2.2.2.2.2.2.2.2.2.2.2.2.2.2.2.2.2.1, σ.2.2.2.2.2.2.2.2.2.2.2.2.2.2.2.2.2.2.2.2.2.2.2.2.2.2.2.2.1, v, σ.2.2.2.2.2.2.2.2.2.2.2.2.2.2.2.2.2.2.2.2.2.2.2.2.2.2.2.2.2.2)
def qm_s_treeLeft (σ : qm_S) (v : Nat → Int64) : qm_S := (σ.1, σ.2.1, σ.2.2.1, σ.2.2.2.1, σ.2.2.2.2.1, σ.2.2.2.2.2.1, σ.2.2.2.2.2.2.1, σ.2.2.2.2.2.2.2.1, σ.2.2.2.2.2.2.2.2.1, σ.2.2.2.2.2.2.2.2.2.1, σ.2.2.2.2.2.2.2.2.2.2.1, σ.2.2.2.2.2.2.2.2.2.2.2.1, σ.2.2.2.2.2.2.2.2.2.2.2.2.1, σ.2.2.2.2.2.2.2.2.2.2.2.2.2.1, σ.2.2.2.2.2.2.2.2.2.2.2.2.2.2.1, σ.2.2.2.2.2.2.2.2.2.2.2.2.2.2.2.1, σ.2.2.2.2.2.2.2.2.2.2.2.2.2.2.2.2.1, σ.2.2.2.2.2.2.2.2.2.2.2.2.2.2.2.2.2.1, σ.2.2.2.2.2.2.2.2.2.2.2.2.2.2.2.2.2.2.1, σ.2.2.2.2.2.2.2.2.2.2.2.2.2.2.2.2.2.2.2.1, σ.2.2.2.2.2.2.2.2.2.2.2.2.2.2.2.2.2.2.2.2.1, σ.2.2.2.2.2.2.2.2.2.2.2.2.2.2.2.2.2.2.2.2.2.1, σ.2.2.2.2.2.2.2.2.2.2.2.2.2.2.2.2.2.2.2.2.2.2.1, σ.2.2.2.2.2.2.2.2.2.2.2.2.2.2.2.2.2.2.2.2.2.2.2.1, σ.2.2.2.2.2.2.2.2.2.2.2.2.2.2.2.2.2.2.2.2.2.2.2.2.1, σ.2.2.2.2.2.2.2.2.2.2.2.2.2.2.2.2.2.2.2.2.2.2.2.2.2.1, σ.2.2.2.2.2.2.2.2.2.2.2.2.2.2.2.2.2.2.2.2.2.2.2.2.2.2.1, σ.2.2.2.2.2.2.2.2.2.2.2.2.2.2.2.2.2.2.2.2.2.2.2.2.2.2.2.1, σ.2.2.2.2.2.2.2.2.2.2.2.2.2.2.2.2.2.2.2.2.2.2.2.2.2.2.2.2.1, σ.2.2.2.2.2.2.2.2.2.2.2.2.2.2.2.2.2.2.2.2.2.2.2.2.2.2.2.2.2.1, v, σ.2.2.2.2.2.2.2.2.2.2.2.2.2.2.2.2.2.2.2.2.2.2.2.2.2.2.2.2.2.2.2)
def qm_s_matchLeft (σ : qm_S) (v : Nat → Int64) : qm_S := (σ.1, σ.2.1, σ.2.2.1, σ.2.2.2.1, σ.2.2.2.2.1, σ.2.2.2.2.2.1, σ.2.2.2.2.2.2.1, σ.2.2.2.2.2.2.2.1, σ.2.2.2.2.2.2.2.2.1, σ.2.2.2.2.2.2.2.2.2.1, σ.2.2.2.2.2.2.2.2.2.2.1, σ.2.2.2.2.2.2.2.2.2.2.2.1, σ.2.2.2.2.2.2.2.2.2.2.2.2.1, σ.2.2.2.2.2.2.2.2.2.2.2.2.2.1, σ.2.2.2.2.2.2.2.2.2.2.2.2.2.2.1, σ.2.2.2.2.2.2.2.2.2.2.2.2.2.2.2.1, σ.2.2.2.2.2.2.2.2.2.2.2.2.2.2.2.2.1, σ.2.2.2.2.2.2.2.2.2.2.2.2.2.2.2.2.2.1, σ.2.2.2.2.2.2.2.2.2.2.2.2.2.2.2.2.2.2.1, σ.2.2.2.2.2.2.2.2.2.2.2.2.2.2.2.2.2.2.2.1, σ.2.2.2.2.2.2.2.2.2.2.2.2.2.2.2.2.2.2.2.2.1, σ.2.2.2.2.2.2.2.2.2.2.2.2.2.2.2.2.2.2.2.2.2.1, σ.2.2.2.2.2.2.2.2.2.2.2.2.2.2.2.2.2.2.2.2.2.2.1, σ.2.2.2.2.2.2.2.2.2.2.2.2.2.2.2.2.2.2.2.2.2.2.2.1, σ.2.2.2.2.2.2.2.2.2.2.2.2.2.2.2.2.2.2.2.2.2.2.2.2.1, σ.2.2.2.2.2.2.2.2.2.2.2.2.2.2.2.2.2.2.2.2.2.2.2.2.2.1, σ.2.2.2.2.2.2.2.2.2.2.2.2.2.2.2.2.2.2.2.2.2.2.2.2.2.2.1, σ.2.2.2.2.2.2.2.2.2.2.2.2.2.2.2.2.2.2.2.2.2.2.2.2.2.2.2.1, σ.2.2.2.2.2.2.2.2.2.2.2.2.2.2.2.2.2.2.2.2.2.2.2.2.2.2.2.2.1, σ.2.2.2.2.2.2.2.2.2.2.2.2.2.2.2.2.2.2.2.2.2.2.2.2.2.2.2.2.2.1, σ.2.2.2.2.2.2.2.2.2.2.2.2.2.2.2.2.2.2.2.2.2.2.2.2.2.2.2.2.2.2.1, v, σ.2.2.2.2.2.2.2.2.2.2.2.2.2.2.2.2.2.2.2.2.2.2.2.2.2.2.2.2.2.2.2.2)
def qm_s_isSeen (σ : qm_S) (v : Nat → Int32) : qm_S := (σ.1, σ.2.1, σ.2.2.1, σ.2.2.2.1, σ.2.2.2.2.1, σ.2.2.2.2.2.1, σ.2.2.2.2.2.2.1, σ.2.2.2.2.2.2.2.1, σ.2.2.2.2.2.2.2.2.1, σ.2.2.2.2.2.2.2.2.2.1, σ.2.2.2.2.2.2.2.2.2.2.1, σ.2.2.2.2.2.2.2.2.2.2.2.1, σ.2.2.2.2.2.2.2.2.2.2.2.2.1, σ.2.2.2.2.2.2.2.2.2.2.2.2.2.1, σ.2.2.2.2.2.2.2.2.2.2.2.2.2.2.1, σ.2.2.2.2.2.2.2.2.2.2.2.2.2.2.2.1, σ.2.2.2.2.2.2.2.2.2.2.2.2.2.2.2.2.1, σ.2.2.2.2.2.2.2.2.2.2.2.2.2.2.2.2.2.1, σ.2.2.2.2.2.2.2.2.2.2.2.2.2.2.2.2.2.2.1, σ.2.2.2.2.2.2.2.2.2.2.2.2.2.2.2.2.2.2.2.1, σ.2.2.2.2.2.2.2.2.2.2.2.2.2.2.2.2.2.2.2.2.1, σ.2.2.2.2.2.2.2.2.2.2.2.2.2.2.2.2.2.2.2.2.2.1, σ.2.2.2.2.2.2.2.2.2.2.2.2.2.2.2.2.2.2.2.2.2.2.1, σ.2.2.2.2.2.2.2.2.2.2.2.2.2.2.2.2.2.2.2.2.2.2.2.1, σ.2.2.2.2.2.2.2.2.2.2.2.2.2.2.2.2.2.2.2.2.2.2.2.2.1, σ.2.2.2.2.2.2.2.2.2.2.2.2.2.2.2.2.2.2.2.2.2.2.2.2.2.1, σ.2.2.2.2.2.2.2.2.2.2.2.2.2.2.2.2.2.2.2.2.2.2.2.2.2.2.1, σ.2.2.2.2.2.2.2.2.2.2.2.2.2.2.2.2.2.2.2.2.2.2.2.2.2.2.2.1, σ.2.2.2.2.2.2.2.2.2.2.2.2.2.2.2.2.2.2.2.2.2.2.2.2.2.2.2.2.1, σ.2.2.2.2.2.2.2.2.2.2.2.2.2.2.2.2.2.2.2.2.2.2.2.2.2.2.2.2.2.1, σ.2.2.2.2.2.2.2.2.2.2.2.2.2.2.2.2.2.2.2.2.2.2.2.2.2.2.2.2.2.2.1, σ.2.2.2.2.2.2.2.2.2.2.2.2.2.2.2.2.2.2.2.2.2.2.2.2.2.2.2.2.2.2.2.1, v, σ.2.2.2.2.2.2.2.2.2.2.2.2.2.2.2.2.2.2.2.2.2.2.2.2.2.2.2.2.2.2.2.2.2)
def qm_s_boundSymbol (σ : qm_S) (v : Nat → Int32) : qm_S := (σ.1, σ.2.1, σ.2.2.1, σ.2.2.2.1, σ.2.2.2.2.1, σ.2.2.2.2.2.1, σ.2.2.2.2.2.2.1, σ.2.2.2.2.2.2.2.1, σ.2.2.2.2.2.2.2.2.1, σ.2.2.2.2.2.2.2.2.2.1, σ.2.2.2.2.2.2.2.2.2.2.1, σ.2.2.2.2.2.2.2.2.2.2.2.1, σ.2.2.2.2.2.2.2.2.2.2.2.2.1, σ.2.2.2.2.2.2.2.2.2.2.2.2.2.1, σ.2.2.2.2.2.2.2.2.2.2.2.2.2.2.1, σ.2.2.2.2.2.2.2.2.2.2.2.2.2.2.2.1, σ.2.2.2.2.2.2.2.2.2.2.2.2.2.2.2.2.1, σ.2.2.2.2.2.2.2.2.2.2.2.2.2.2.2.2.2.1, σ.2.2.2.2.2.2.2.2.2.2.2.2.2.2.2.2.2.2.1, σ.2.2.2.2.2.2.2.2.2.2.2.2.2.2.2.2.2.2.2.1, σ.2.2.2.2.2.2.2.2.2.2.2.2.2.2.2.2.2.2.2.2.1, σ.2.2.2.2.2.2.2.2.2.2.2.2.2.2.2.2.2.2.2.2.2.1, σ.2.2.2.2.2.2.2.2.2.2.2.2.2.2.2.2.2.2.2.2.2.2.1, σ.2.2.2.2.2.2.2.2.2.2.2.2.2.2.2.2.2.2.2.2.2.2.2.1, σ.2.2.2.2.2.2.2.2.2.2.2.2.2.2.2.2.2.2.2.2.2.2.2.2.1, σ.2.2.2.2.2.2.2.2.2.2.2.2.2.2.2.2.2.2.2.2.2.2.2.2.2.1, σ.2.2.2.2.2.2.2.2.2.2.2.2.2.2.2.2.2.2.2.2.2.2.2.2.2.2.1, σ.2.2.2.2.2.2.2.2.2.2.2.2.2.2.2.2.2.2.2.2.2.2.2.2.2.2.2.1, σ.2.2.2.2.2.2.2.2.2.2.2.2.2.2.2.2.2.2.2.2.2.2.2.2.2.2.2.2.1, σ.2.2.2.2.2.2.2.2.2.2.2.2.2.2.2.2.2.2.2.2.2.2.2.2.2.2.2.2.2.1, σ.2.2.2.2.2.2.2.2.2.2.2.2.2.2.2.2.2.2.2.2.2.2.2.2.2.2.2.2.2.2.1, σ.2.2.2.2.2.2.2.2.2.2.2.2.2.2.2.2.2.2.2.2.2.2.2.2.2.2.2.2.2.2.2.1, σ.2.2.2.2.2.2.2.2.2.2.2.2.2.2.2.2.2.2.2.2.2.2.2.2.2.2.2.2.2.2.2.2.1, v, σ.2.2.2.2.2.2.2.2.2.2.2.2.2.2.2.2.2.2.2.2.2.2.2.2.2.2.2.2.2.2.2.2.2.2)
def qm_s_boundValue (σ : qm_S) (v : Nat → Int64) : qm_S := (σ.1, σ.2.1, σ.2.2.1, σ.2.2.2.1, σ.2.2.2.2.1, σ.2.2.2.2.2.1, σ.2.2.2.2.2.2.1, σ.2.2.2.2.2.2.2.1, σ.2.2.2.2.2.2.2.2.1, σ.2.2.2.2.2.2.2.2.2.1, σ.2.2.2.2.2.2.2.2.2.2.1, σ.2.2.2.2.2.2.2.2.2.2.2.1, σ.2.2.2.2.2.2.2.2.2.2.2.2.1, σ.2.2.2.2.2.2.2.2.2.2.2.2.2.1, σ.2.2.2.2.2.2.2.2.2.2.2.2.2.2.1, σ.2.2.2.2.2.2.2.2.2.2.2.2.2.2.2.1, σ.2.2.2.2.2.2.2.2.2.2.2.2.2.2.2.2.1, σ.2.2.2.2.2.2.2.2.2.2.2.2.2.2.2.2.2.1, σ.2.2.2.2.2.2.2.2.2.2.2.2.2.2.2.2.2.2.1, σ.2.2.2.2.2.2.2.2.2.2.2.2.2.2.2.2.2.2.2.1, σ.2.2.2.2.2.2.2.2.2.2.2.2.2.2.2.2.2.2.2.2.1, σ.2.2.2.2.2.2.2.2.2.2.2.2.2.2.2.2.2.2.2.2.2.1, σ.2.2.2.2.2.2.2.2.2.2.2.2.2.2.2.2.2.2.2.2.2.2.1, σ.2.2.2.2.2.2.2.2.2.2.2.2.2.2.2.2.2.2.2.2.2.2.2.1, σ.2.2.2.2.2.2.2.2.2.2.2.2.2.2.2.2.2.2.2.2.2.2.2.2.1, σ.2.2.2.2.2.2.2.2.2.2.2.2.2.2.2.2.2.2.2.2.2.2.2.2.2.1, σ.2.2.2.2.2.2.2.2.2.2.2.2.2.2.2.2.2.2.2.2.2.2.2.2.2.2.1, σ.2.2.2.2.2.2.2.2.2.2.2.2.2.2.2.2.2.2.2.2.2.2.2.2.2.2.2.1, σ.2.2.2.2.2.2.2.2.2.2.2.2.2.2.2.2.2.2.2.2.2.2.2.2.2.2.2.2.1, σ.2.2.2.2.2.2.2.2.2.2.2.2.2.2.2.2.2.2.2.2.2.2.2.2.2.2.2.2.2.1, σ.2.2.2.2.2.2.2.2.2.2.2.2.2.2.2.2.2.2.2.2.2.2.2.2.2.2.2.2.2.2.1, σ.2.2.2.2.2.2.2.2.2.2.2.2.2.2.2.2.2.2.2.2.2.2.2.2.2.2.2.2.2.2.2.1, σ.2.2.2.2.2.2.2.2.2.2.2.2.2.2.2.2.2.2.2.2.2.2.2.2.2.2.2.2.2.2.2.2.1, σ.2.2.2.2.2.2.2.2.2.2.2.2.2.2.2.2.2.2.2.2.2.2.2.2.2.2.2.2.2.2.2.2.2.1, v, σ.2.2.2.2.2.2.2.2.2.2.2.2.2.2.2.2.2.2.2.2.2.2.2.2.2.2.2.2.2.2.2.2.2.2.2)
def qm_s_bound (σ : qm_S) (v : Int32) : qm_S := (σ.1, σ.2.1, σ.2.2.1, σ.2.2.2.1, σ.2.2.2.2.1, σ.2.2.2.2.2.1, σ.2.2.2.2.2.2.1, σ.2.2.2.2.2.2.2.1, σ.2.2.2.2.2.2.2.2.1, σ.2.2.2.2.2.2.2.2.2.1, σ.2.2.2.2.2.2.2.2.2.2.1, σ.2.2.2.2.2.2.2.2.2.2.2.1, σ.2.2.2.2.2.2.2.2.2.2.2.2.1, σ.2.2.2.2.2.2.2.2.2.2.2.2.2.1, σ.2.2.2.2.2.2.2.2.2.2.2.2.2.2.1, σ.2.2.2.2.2.2.2.2.2.2.2.2.2.2.2.1, σ.2.2.2.2.2.2.2.2.2.2.2.2.2.2.2.2.1, σ.2.2.2.2.2.2.2.2.2.2.2.2.2.2.2.2.2.1, σ.2.2.2.2.2.2.2.2.2.2.2.2.2.2.2.2.2.2.1, σ.2.2.2.2.2.2.2.2.2.2.2.2.2.2.2.2.2.2.2.1, σ.2.2.2.2.2.2.2.2.2.2.2.2.2.2.2.2.2.2.2.2.1, σ.2.2.2.2.2.2.2.2.2.2.2.2.2.2.2.2.2.2.2.2.2.1, σ.2.2.2.2.2.2.2.2.2.2.2.2.2.2.2.2.2.2.2.2.2.2.1, σ.2.2.2.2.2.2.2.2.2.2.2.2.2.2.2.2.2.2.2.2.2.2.2.1, σ.2.2.2.2.2.2.2.2.2.2.2.2.2.2.2.2.2.2.2.2.2.2.2.2.1, σ.2.2.2.2.2.2.2.2.2.2.2.2.2.2.2.2.2.2.2.2.2.2.2.2.2.1, σ.2.2.2.2.2.2.2.2.2.2.2.2.2.2.2.2.2.2.2.2.2.2.2.2.2.2.1, σ.2.2.2.2.2.2.2.2.2.2.2.2.2.2.2.2.2.2.2.2.2.2.2.2.2.2.2.1, σ.2.2.2.2.2.2.2.2.2.2.2.2.2.2.2.2.2.2.2.2.2.2.2.2.2.2.2.2.1, σ.2.2.2.2.2.2.2.2.2.2.2.2.2.2.2.2.2.2.2.2.2.2.2.2.2.2.2.2.2.1, σ.2.2.2.2.2.2.2.2.2.2.2.2.2.2.2.2.2.2.2.2.2.2.2.2.2.2.2.2.2.2.1, σ.2.2.2.2.2.2.2.2.2.2.2.2.2.2.2.2.2.2.2.2.2.2.2.2.2.2.2.2.2.2.2.1, σ.2.2.2.2.2.2.2.2.2.2.2.2.2.2.2.2.2.2.2.2.2.2.2.2.2.2.2.2.2.2.2.2.1, σ.2.2.2.2.2.2.2.2.2.2.2.2.2.2.2.2.2.2.2.2.2.2.2.2.2.2.2.2.2.2.2.2.2.1, σ.2.2.2.2.2.2.2.2.2.2.2.2.2.2.2.2.2.2.2.2.2.2.2.2.2.2.2.2.2.2.2.2.2.2.1, v)
def qm_t_first (σ : qm_S) (i : Int32) (v : Int64) : qm_S := qm_s_first σ (vp_updL (qm_g_first σ) i.toNatClampNeg v)
def qm_t_second (σ : qm_S) (i : Int32) (v : Int64) : qm_S := qm_s_second σ (vp_updL (qm_g_second σ) i.toNatClampNeg v)
def qm_t_third (σ : qm_S) (i : Int32) (v : Int64) : qm_S := qm_s_third σ (vp_updL (qm_g_third σ) i.toNatClampNeg v)
def qm_t_fourth (σ : qm_S) (i : Int32) (v : Int64) : qm_S := qm_s_fourth σ (vp_updL (qm_g_fourth σ) i.toNatClampNeg v)
def qm_t_symbolOf (σ : qm_S) (i : Int32) (v : Int32) : qm_S := qm_s_symbolOf σ (upd (qm_g_symbolOf σ) i.toNatClampNeg v)
def qm_t_nextOf (σ : qm_S) (i : Int32) (v : Int32) : qm_S := qm_s_nextOf σ (upd (qm_g_nextOf σ) i.toNatClampNeg v)
def qm_t_headOf (σ : qm_S) (i : Int32) (v : Int32) : qm_S := qm_s_headOf σ (upd (qm_g_headOf σ) i.toNatClampNeg v)
def qm_t_isGround (σ : qm_S) (i : Int32) (v : Int32) : qm_S := qm_s_isGround σ (upd (qm_g_isGround σ) i.toNatClampNeg (bz v))
def qm_t_groundValue (σ : qm_S) (i : Int32) (v : Int64) : qm_S := qm_s_groundValue σ (vp_updL (qm_g_groundValue σ) i.toNatClampNeg v)
def qm_t_stack (σ : qm_S) (i : Int32) (v : Int64) : qm_S := qm_s_stack σ (vp_updL (qm_g_stack σ) i.toNatClampNeg v)
def qm_t_frameKind (σ : qm_S) (i : Int32) (v : Int32) : qm_S := qm_s_frameKind σ (upd (qm_g_frameKind σ) i.toNatClampNeg v)
def qm_t_frameOne (σ : qm_S) (i : Int32) (v : Int64) : qm_S := qm_s_frameOne σ (vp_updL (qm_g_frameOne σ) i.toNatClampNeg v)
def qm_t_frameOther (σ : qm_S) (i : Int32) (v : Int64) : qm_S := qm_s_frameOther σ (vp_updL (qm_g_frameOther σ) i.toNatClampNeg v)
def qm_t_frameAround (σ : qm_S) (i : Int32) (v : Int64) : qm_S := qm_s_frameAround σ (vp_updL (qm_g_frameAround σ) i.toNatClampNeg v)
def qm_t_frameBase (σ : qm_S) (i : Int32) (v : Int32) : qm_S := qm_s_frameBase σ (upd (qm_g_frameBase σ) i.toNatClampNeg v)
def qm_t_results (σ : qm_S) (i : Int32) (v : Int64) : qm_S := qm_s_results σ (vp_updL (qm_g_results σ) i.toNatClampNeg v)
def qm_t_treeLeft (σ : qm_S) (i : Int32) (v : Int64) : qm_S := qm_s_treeLeft σ (vp_updL (qm_g_treeLeft σ) i.toNatClampNeg v)
def qm_t_matchLeft (σ : qm_S) (i : Int32) (v : Int64) : qm_S := qm_s_matchLeft σ (vp_updL (qm_g_matchLeft σ) i.toNatClampNeg v)
def qm_t_isSeen (σ : qm_S) (i : Int32) (v : Int32) : qm_S := qm_s_isSeen σ (upd (qm_g_isSeen σ) i.toNatClampNeg (bz v))
def qm_t_boundSymbol (σ : qm_S) (i : Int32) (v : Int32) : qm_S := qm_s_boundSymbol σ (upd (qm_g_boundSymbol σ) i.toNatClampNeg v)
def qm_t_boundValue (σ : qm_S) (i : Int32) (v : Int64) : qm_S := qm_s_boundValue σ (vp_updL (qm_g_boundValue σ) i.toNatClampNeg v)
def qn_gF (σ : qn_S) : qf_S := σ.2.1
def qn_gT (σ : qn_S) : qt_S := σ.2.2
def qn_gH (σ : qn_S) : qh_S := σ.2.2.2
def qn_sF (σ : qn_S) (v : qf_S) : qn_S := (σ.1, v, σ.2.2)
def qn_sT (σ : qn_S) (v : qt_S) : qn_S := (σ.1, σ.2.1, v)
def qn_sH (σ : qn_S) (v : qh_S) : qn_S := (σ.1, σ.2.1, (σ.2.2.1, v))
def qt_gH (σ : qt_S) : qh_S := σ.2
def qt_sH (σ : qt_S) (v : qh_S) : qt_S := (σ.1, v)
def qx_gN (σ : qx_S) : qn_S := σ.2
def qx_gH (σ : qx_S) : qh_S := σ.2.2.2.2
def qx_sN (σ : qx_S) (v : qn_S) : qx_S := (σ.1, v)
def qx_sH (σ : qx_S) (v : qh_S) : qx_S := (σ.1, (σ.2.1, σ.2.2.1, (σ.2.2.2.1, v)))
def qh_w (K : kk_T) (σ : qh_S) : va_W := [(kq K 15, .inr (1, [.ref (kq K 16), .ref (kq K 17), .int (qh_g_nextRow σ)])), (kq K 16, .inl (kJ K, 4100, .inr (.inl (qh_g_first σ)))), (kq K 17, .inl (kJ K, 4100, .inr (.inl (qh_g_second σ))))]
def qf_w (K : kk_T) (σ : qf_S) : va_W := [(kq K 9, .inr (4, [.ref (kq K 10), .ref (kq K 11), .ref (kq K 12), .ref (kq K 13), .ref (kq K 14), .int (qf_g_count σ), .int (qf_g_most σ)])), (kq K 10, .inl (kI K, 300, .inl (qf_g_tasks σ))), (kq K 11, .inl (kI K, 300, .inl (qf_g_environments σ))), (kq K 12, .inl (kJ K, 300, .inr (.inl (qf_g_rests σ)))), (kq K 13, .inl (kJ K, 300, .inr (.inl (qf_g_helds σ)))), (kq K 14, .inl (kI K, 300, .inl (qf_g_gathereds σ)))]
def qt_own (K : kk_T) (σ : qt_S) : va_W := [(kq K 4, .inr (3, [.ref (kq K 15), .ref (kq K 5), .ref (kq K 6), .int (qt_g_pendingCount σ), .ref (kq K 7), .ref (kq K 8), .int (qt_g_symbolCount σ)])), (kq K 5, .inl (kJ K, 101, .inr (.inl (qt_g_pendingTrees σ)))), (kq K 6, .inl (kJ K, 101, .inr (.inl (qt_g_pendingParts σ)))), (kq K 7, .inl (kI K, 100, .inl (qt_g_symbols σ))), (kq K 8, .inl (kJ K, 100, .inr (.inl (qt_g_parts σ))))]
def qt_w (K : kk_T) (σ : qt_S) : va_W := qt_own K σ ++ qh_w K (qt_gH σ)
def qn_own (K : kk_T) (σ : qn_S) : va_W := [(kq K 2, .inr (2, [.ref (kq K 15), .ref (kq K 4), .ref (kq K 9), .ref (kq K 3), .int (qn_g_argumentCount σ), .int (qn_g_mode σ), .long (qn_g_current σ), .long (qn_g_operands σ), .int (qn_g_environment σ), .int (qn_g_steps σ), .int (qn_g_limit σ), .int (qn_g_failure σ)])), (kq K 3, .inl (kJ K, 1500, .inr (.inl (qn_g_arguments σ))))]
def qn_w (K : kk_T) (σ : qn_S) : va_W := qn_own K σ ++ (qf_w K (qn_gF σ) ++ qt_w K (qn_gT σ))
def qx_own (K : kk_T) (σ : qx_S) : va_W := [(kq K 0, .inr (0, [.ref (kq K 15), .ref (kq K 2), .ref (kq K 1), .int (qx_g_stackSize σ), .int (qx_g_present σ), .int (qx_g_limit σ)])), (kq K 1, .inl (kJ K, 40, .inr (.inl (qx_g_stack σ))))]
def qx_w (K : kk_T) (σ : qx_S) : va_W := qx_own K σ ++ qn_w K (qx_gN σ)
def qm_w (K : kk_T) (σ : qm_S) : va_W := [(kq K 18, .inr (5, [.int (qm_g_objects σ), .ref (kq K 19), .ref (kq K 20), .ref (kq K 21), .ref (kq K 22), .ref (kq K 23), .ref (kq K 24), .ref (kq K 25), .ref (kq K 26), .ref (kq K 27), .long (qm_g_found σ), .int (qm_g_foundAt σ), .int (qm_g_values σ), .ref (kq K 28), .long (qm_g_present σ), .int (qm_g_limit σ), .int (qm_g_steps σ), .int (qm_g_mostFrames σ), .int (qm_g_mode σ), .long (qm_g_now σ), .long (qm_g_operands σ), .long (qm_g_around σ), .int (qm_g_frames σ), .ref (kq K 29), .ref (kq K 30), .ref (kq K 31), .ref (kq K 32), .ref (kq K 33), .ref (kq K 34), .int (qm_g_resultMany σ), .ref (kq K 35), .ref (kq K 36), .ref (kq K 37), .ref (kq K 38), .ref (kq K 39), .int (qm_g_bound σ)])), (kq K 19, .inl (kJ K, 4000, .inr (.inl (qm_g_first σ)))), (kq K 20, .inl (kJ K, 4000, .inr (.inl (qm_g_second σ)))), (kq K 21, .inl (kJ K, 4000, .inr (.inl (qm_g_third σ)))), (kq K 22, .inl (kJ K, 4000, .inr (.inl (qm_g_fourth σ)))), (kq K 23, .inl (kI K, 4000, .inl (qm_g_symbolOf σ))), (kq K 24, .inl (kI K, 4000, .inl (qm_g_nextOf σ))), (kq K 25, .inl (kI K, 4002, .inl (qm_g_headOf σ))), (kq K 26, .inl (kZ K, 100, .inl (qm_g_isGround σ))), (kq K 27, .inl (kJ K, 100, .inr (.inl (qm_g_groundValue σ)))), (kq K 28, .inl (kJ K, 40, .inr (.inl (qm_g_stack σ)))), (kq K 29, .inl (kI K, 300, .inl (qm_g_frameKind σ))), (kq K 30, .inl (kJ K, 300, .inr (.inl (qm_g_frameOne σ)))), (kq K 31, .inl (kJ K, 300, .inr (.inl (qm_g_frameOther σ)))), (kq K 32, .inl (kJ K, 300, .inr (.inl (qm_g_frameAround σ)))), (kq K 33, .inl (kI K, 300, .inl (qm_g_frameBase σ))), (kq K 34, .inl (kJ K, 1501, .inr (.inl (qm_g_results σ)))), (kq K 35, .inl (kJ K, 204, .inr (.inl (qm_g_treeLeft σ)))), (kq K 36, .inl (kJ K, 204, .inr (.inl (qm_g_matchLeft σ)))), (kq K 37, .inl (kZ K, 100, .inl (qm_g_isSeen σ))), (kq K 38, .inl (kI K, 102, .inl (qm_g_boundSymbol σ))), (kq K 39, .inl (kJ K, 102, .inr (.inl (qm_g_boundValue σ))))]
def qw_w : Unit → va_W := fun _ => []
section
variable {R : Type} {Γ : cx_T} {own : String} {cc : ByteArray} {nL : Nat} {ret : Option FieldType} {rm : Nat × Nat} {Qf : R → qh_S → State → Prop} {X : Option (R × qh_S)} {σ : qh_S} {pc n index : Nat} {lv : List (Nat × Value)} {st : List Value} {i : Int32}
theorem qh_r_first (C : cx_C Γ (qh_w (gK Γ)) qcl own cc nL ret rm) (hl : Cond.fieldLink own index "ScopeInterpreter$Heap" "first" "[J" ∈ gw) (hd : decode cc pc = .ok (.getfield index, 3)) (hp : pc + 3 = n) (k : J Γ (qh_w (gK Γ)) qcl Qf X σ n lv (.ref (kq (gK Γ) 16) :: st)) : J Γ (qh_w (gK Γ)) qcl Qf X σ pc lv (.ref (kq (gK Γ) 15) :: st) := j_get C qh_in 0 rfl rfl 0 (by decide) rfl hl hd hp k
theorem qh_r_second (C : cx_C Γ (qh_w (gK Γ)) qcl own cc nL ret rm) (hl : Cond.fieldLink own index "ScopeInterpreter$Heap" "second" "[J" ∈ gw) (hd : decode cc pc = .ok (.getfield index, 3)) (hp : pc + 3 = n) (k : J Γ (qh_w (gK Γ)) qcl Qf X σ n lv (.ref (kq (gK Γ) 17) :: st)) : J Γ (qh_w (gK Γ)) qcl Qf X σ pc lv (.ref (kq (gK Γ) 15) :: st) := j_get C qh_in 0 rfl rfl 1 (by decide) rfl hl hd hp k
theorem qh_r_nextRow (C : cx_C Γ (qh_w (gK Γ)) qcl own cc nL ret rm) {x : Int32} (hl : Cond.fieldLink own index "ScopeInterpreter$Heap" "nextRow" "I" ∈ gw) (hd : decode cc pc = .ok (.getfield index, 3)) (hp : pc + 3 = n) (hx : qh_g_nextRow σ = x) (k : J Γ (qh_w (gK Γ)) qcl Qf X σ n lv (.int x :: st)) : J Γ (qh_w (gK Γ)) qcl Qf X σ pc lv (.ref (kq (gK Γ) 15) :: st) := j_get C qh_in 0 rfl rfl 2 (by decide) (by rw [← hx]; rfl) hl hd hp k
theorem qh_p_nextRow (C : cx_C Γ (qh_w (gK Γ)) qcl own cc nL ret rm) {v : Int32} (hl : Cond.fieldLink own index "ScopeInterpreter$Heap" "nextRow" "I" ∈ gw) (hd : decode cc pc = .ok (.putfield index, 3)) (hp : pc + 3 = n) (k : J Γ (qh_w (gK Γ)) qcl Qf X (qh_s_nextRow σ v) n lv st) : J Γ (qh_w (gK Γ)) qcl Qf X σ pc lv (.int v :: .ref (kq (gK Γ) 15) :: st) := j_put C qh_in qh_ty qh_tyok qh_nm 0 rfl rfl 2 (by decide) rfl (ty := .int) (by decide +kernel) rfl rfl (Nat.le_of_ble_eq_true rfl) rfl hl hd hp k
theorem qh_l_first (C : cx_C Γ (qh_w (gK Γ)) qcl own cc nL ret rm) {x : Int64} (hin : vp_in i 4100) (hd : decode cc pc = .ok (.laload, 1)) (hp : pc + 1 = n) (hx : qh_g_first σ i.toNatClampNeg = x) (k : J Γ (qh_w (gK Γ)) qcl Qf X σ n lv (.long x :: st)) : J Γ (qh_w (gK Γ)) qcl Qf X σ pc lv (.int i :: .ref (kq (gK Γ) 16) :: st) := j_lald C 1 rfl hin hd hp (by subst hx; exact k)
theorem qh_a_first (C : cx_C Γ (qh_w (gK Γ)) qcl own cc nL ret rm) {v : Int64} (hin : vp_in i 4100) (hd : decode cc pc = .ok (.lastore, 1)) (hp : pc + 1 = n) (k : J Γ (qh_w (gK Γ)) qcl Qf X (qh_t_first σ i v) n lv st) : J Γ (qh_w (gK Γ)) qcl Qf X σ pc lv (.long v :: .int i :: .ref (kq (gK Γ) 16) :: st) := j_last C 1 rfl rfl hin hd hp k
theorem qh_l_second (C : cx_C Γ (qh_w (gK Γ)) qcl own cc nL ret rm) {x : Int64} (hin : vp_in i 4100) (hd : decode cc pc = .ok (.laload, 1)) (hp : pc + 1 = n) (hx : qh_g_second σ i.toNatClampNeg = x) (k : J Γ (qh_w (gK Γ)) qcl Qf X σ n lv (.long x :: st)) : J Γ (qh_w (gK Γ)) qcl Qf X σ pc lv (.int i :: .ref (kq (gK Γ) 17) :: st) := j_lald C 2 rfl hin hd hp (by subst hx; exact k)
theorem qh_a_second (C : cx_C Γ (qh_w (gK Γ)) qcl own cc nL ret rm) {v : Int64} (hin : vp_in i 4100) (hd : decode cc pc = .ok (.lastore, 1)) (hp : pc + 1 = n) (k : J Γ (qh_w (gK Γ)) qcl Qf X (qh_t_second σ i v) n lv st) : J Γ (qh_w (gK Γ)) qcl Qf X σ pc lv (.long v :: .int i :: .ref (kq (gK Γ) 17) :: st) := j_last C 2 rfl rfl hin hd hp k
end
section
variable {R : Type} {Γ : cx_T} {own : String} {cc : ByteArray} {nL : Nat} {ret : Option FieldType} {rm : Nat × Nat} {Qf : R → qf_S → State → Prop} {X : Option (R × qf_S)} {σ : qf_S} {pc n index : Nat} {lv : List (Nat × Value)} {st : List Value} {i : Int32}
theorem qf_r_tasks (C : cx_C Γ (qf_w (gK Γ)) qcl own cc nL ret rm) (hl : Cond.fieldLink own index "ScopeInterpreter$Frames" "tasks" "[I" ∈ gw) (hd : decode cc pc = .ok (.getfield index, 3)) (hp : pc + 3 = n) (k : J Γ (qf_w (gK Γ)) qcl Qf X σ n lv (.ref (kq (gK Γ) 10) :: st)) : J Γ (qf_w (gK Γ)) qcl Qf X σ pc lv (.ref (kq (gK Γ) 9) :: st) := j_get C qf_in 0 rfl rfl 0 (by decide) rfl hl hd hp k
theorem qf_r_environments (C : cx_C Γ (qf_w (gK Γ)) qcl own cc nL ret rm) (hl : Cond.fieldLink own index "ScopeInterpreter$Frames" "environments" "[I" ∈ gw) (hd : decode cc pc = .ok (.getfield index, 3)) (hp : pc + 3 = n) (k : J Γ (qf_w (gK Γ)) qcl Qf X σ n lv (.ref (kq (gK Γ) 11) :: st)) : J Γ (qf_w (gK Γ)) qcl Qf X σ pc lv (.ref (kq (gK Γ) 9) :: st) := j_get C qf_in 0 rfl rfl 1 (by decide) rfl hl hd hp k
theorem qf_r_rests (C : cx_C Γ (qf_w (gK Γ)) qcl own cc nL ret rm) (hl : Cond.fieldLink own index "ScopeInterpreter$Frames" "rests" "[J" ∈ gw) (hd : decode cc pc = .ok (.getfield index, 3)) (hp : pc + 3 = n) (k : J Γ (qf_w (gK Γ)) qcl Qf X σ n lv (.ref (kq (gK Γ) 12) :: st)) : J Γ (qf_w (gK Γ)) qcl Qf X σ pc lv (.ref (kq (gK Γ) 9) :: st) := j_get C qf_in 0 rfl rfl 2 (by decide) rfl hl hd hp k
theorem qf_r_helds (C : cx_C Γ (qf_w (gK Γ)) qcl own cc nL ret rm) (hl : Cond.fieldLink own index "ScopeInterpreter$Frames" "helds" "[J" ∈ gw) (hd : decode cc pc = .ok (.getfield index, 3)) (hp : pc + 3 = n) (k : J Γ (qf_w (gK Γ)) qcl Qf X σ n lv (.ref (kq (gK Γ) 13) :: st)) : J Γ (qf_w (gK Γ)) qcl Qf X σ pc lv (.ref (kq (gK Γ) 9) :: st) := j_get C qf_in 0 rfl rfl 3 (by decide) rfl hl hd hp k
theorem qf_r_gathereds (C : cx_C Γ (qf_w (gK Γ)) qcl own cc nL ret rm) (hl : Cond.fieldLink own index "ScopeInterpreter$Frames" "gathereds" "[I" ∈ gw) (hd : decode cc pc = .ok (.getfield index, 3)) (hp : pc + 3 = n) (k : J Γ (qf_w (gK Γ)) qcl Qf X σ n lv (.ref (kq (gK Γ) 14) :: st)) : J Γ (qf_w (gK Γ)) qcl Qf X σ pc lv (.ref (kq (gK Γ) 9) :: st) := j_get C qf_in 0 rfl rfl 4 (by decide) rfl hl hd hp k
theorem qf_r_count (C : cx_C Γ (qf_w (gK Γ)) qcl own cc nL ret rm) {x : Int32} (hl : Cond.fieldLink own index "ScopeInterpreter$Frames" "count" "I" ∈ gw) (hd : decode cc pc = .ok (.getfield index, 3)) (hp : pc + 3 = n) (hx : qf_g_count σ = x) (k : J Γ (qf_w (gK Γ)) qcl Qf X σ n lv (.int x :: st)) : J Γ (qf_w (gK Γ)) qcl Qf X σ pc lv (.ref (kq (gK Γ) 9) :: st) := j_get C qf_in 0 rfl rfl 5 (by decide) (by rw [← hx]; rfl) hl hd hp k
theorem qf_p_count (C : cx_C Γ (qf_w (gK Γ)) qcl own cc nL ret rm) {v : Int32} (hl : Cond.fieldLink own index "ScopeInterpreter$Frames" "count" "I" ∈ gw) (hd : decode cc pc = .ok (.putfield index, 3)) (hp : pc + 3 = n) (k : J Γ (qf_w (gK Γ)) qcl Qf X (qf_s_count σ v) n lv st) : J Γ (qf_w (gK Γ)) qcl Qf X σ pc lv (.int v :: .ref (kq (gK Γ) 9) :: st) := j_put C qf_in qf_ty qf_tyok qf_nm 0 rfl rfl 5 (by decide) rfl (ty := .int) (by decide +kernel) rfl rfl (Nat.le_of_ble_eq_true rfl) rfl hl hd hp k
theorem qf_r_most (C : cx_C Γ (qf_w (gK Γ)) qcl own cc nL ret rm) {x : Int32} (hl : Cond.fieldLink own index "ScopeInterpreter$Frames" "most" "I" ∈ gw) (hd : decode cc pc = .ok (.getfield index, 3)) (hp : pc + 3 = n) (hx : qf_g_most σ = x) (k : J Γ (qf_w (gK Γ)) qcl Qf X σ n lv (.int x :: st)) : J Γ (qf_w (gK Γ)) qcl Qf X σ pc lv (.ref (kq (gK Γ) 9) :: st) := j_get C qf_in 0 rfl rfl 6 (by decide) (by rw [← hx]; rfl) hl hd hp k
theorem qf_p_most (C : cx_C Γ (qf_w (gK Γ)) qcl own cc nL ret rm) {v : Int32} (hl : Cond.fieldLink own index "ScopeInterpreter$Frames" "most" "I" ∈ gw) (hd : decode cc pc = .ok (.putfield index, 3)) (hp : pc + 3 = n) (k : J Γ (qf_w (gK Γ)) qcl Qf X (qf_s_most σ v) n lv st) : J Γ (qf_w (gK Γ)) qcl Qf X σ pc lv (.int v :: .ref (kq (gK Γ) 9) :: st) := j_put C qf_in qf_ty qf_tyok qf_nm 0 rfl rfl 6 (by decide) rfl (ty := .int) (by decide +kernel) rfl rfl (Nat.le_of_ble_eq_true rfl) rfl hl hd hp k
theorem qf_l_tasks (C : cx_C Γ (qf_w (gK Γ)) qcl own cc nL ret rm) {x : Int32} (hin : vp_in i 300) (hd : decode cc pc = .ok (.iaload, 1)) (hp : pc + 1 = n) (hx : qf_g_tasks σ i.toNatClampNeg = x) (k : J Γ (qf_w (gK Γ)) qcl Qf X σ n lv (.int x :: st)) : J Γ (qf_w (gK Γ)) qcl Qf X σ pc lv (.int i :: .ref (kq (gK Γ) 10) :: st) := j_iald C 1 rfl hin hd hp (by subst hx; exact k)
theorem qf_a_tasks (C : cx_C Γ (qf_w (gK Γ)) qcl own cc nL ret rm) {v : Int32} (hin : vp_in i 300) (hd : decode cc pc = .ok (.iastore, 1)) (hp : pc + 1 = n) (k : J Γ (qf_w (gK Γ)) qcl Qf X (qf_t_tasks σ i v) n lv st) : J Γ (qf_w (gK Γ)) qcl Qf X σ pc lv (.int v :: .int i :: .ref (kq (gK Γ) 10) :: st) := j_iast C 1 rfl rfl hin hd hp k
theorem qf_l_environments (C : cx_C Γ (qf_w (gK Γ)) qcl own cc nL ret rm) {x : Int32} (hin : vp_in i 300) (hd : decode cc pc = .ok (.iaload, 1)) (hp : pc + 1 = n) (hx : qf_g_environments σ i.toNatClampNeg = x) (k : J Γ (qf_w (gK Γ)) qcl Qf X σ n lv (.int x :: st)) : J Γ (qf_w (gK Γ)) qcl Qf X σ pc lv (.int i :: .ref (kq (gK Γ) 11) :: st) := j_iald C 2 rfl hin hd hp (by subst hx; exact k)
theorem qf_a_environments (C : cx_C Γ (qf_w (gK Γ)) qcl own cc nL ret rm) {v : Int32} (hin : vp_in i 300) (hd : decode cc pc = .ok (.iastore, 1)) (hp : pc + 1 = n) (k : J Γ (qf_w (gK Γ)) qcl Qf X (qf_t_environments σ i v) n lv st) : J Γ (qf_w (gK Γ)) qcl Qf X σ pc lv (.int v :: .int i :: .ref (kq (gK Γ) 11) :: st) := j_iast C 2 rfl rfl hin hd hp k
theorem qf_l_rests (C : cx_C Γ (qf_w (gK Γ)) qcl own cc nL ret rm) {x : Int64} (hin : vp_in i 300) (hd : decode cc pc = .ok (.laload, 1)) (hp : pc + 1 = n) (hx : qf_g_rests σ i.toNatClampNeg = x) (k : J Γ (qf_w (gK Γ)) qcl Qf X σ n lv (.long x :: st)) : J Γ (qf_w (gK Γ)) qcl Qf X σ pc lv (.int i :: .ref (kq (gK Γ) 12) :: st) := j_lald C 3 rfl hin hd hp (by subst hx; exact k)
theorem qf_a_rests (C : cx_C Γ (qf_w (gK Γ)) qcl own cc nL ret rm) {v : Int64} (hin : vp_in i 300) (hd : decode cc pc = .ok (.lastore, 1)) (hp : pc + 1 = n) (k : J Γ (qf_w (gK Γ)) qcl Qf X (qf_t_rests σ i v) n lv st) : J Γ (qf_w (gK Γ)) qcl Qf X σ pc lv (.long v :: .int i :: .ref (kq (gK Γ) 12) :: st) := j_last C 3 rfl rfl hin hd hp k
theorem qf_l_helds (C : cx_C Γ (qf_w (gK Γ)) qcl own cc nL ret rm) {x : Int64} (hin : vp_in i 300) (hd : decode cc pc = .ok (.laload, 1)) (hp : pc + 1 = n) (hx : qf_g_helds σ i.toNatClampNeg = x) (k : J Γ (qf_w (gK Γ)) qcl Qf X σ n lv (.long x :: st)) : J Γ (qf_w (gK Γ)) qcl Qf X σ pc lv (.int i :: .ref (kq (gK Γ) 13) :: st) := j_lald C 4 rfl hin hd hp (by subst hx; exact k)
theorem qf_a_helds (C : cx_C Γ (qf_w (gK Γ)) qcl own cc nL ret rm) {v : Int64} (hin : vp_in i 300) (hd : decode cc pc = .ok (.lastore, 1)) (hp : pc + 1 = n) (k : J Γ (qf_w (gK Γ)) qcl Qf X (qf_t_helds σ i v) n lv st) : J Γ (qf_w (gK Γ)) qcl Qf X σ pc lv (.long v :: .int i :: .ref (kq (gK Γ) 13) :: st) := j_last C 4 rfl rfl hin hd hp k
theorem qf_l_gathereds (C : cx_C Γ (qf_w (gK Γ)) qcl own cc nL ret rm) {x : Int32} (hin : vp_in i 300) (hd : decode cc pc = .ok (.iaload, 1)) (hp : pc + 1 = n) (hx : qf_g_gathereds σ i.toNatClampNeg = x) (k : J Γ (qf_w (gK Γ)) qcl Qf X σ n lv (.int x :: st)) : J Γ (qf_w (gK Γ)) qcl Qf X σ pc lv (.int i :: .ref (kq (gK Γ) 14) :: st) := j_iald C 5 rfl hin hd hp (by subst hx; exact k)
theorem qf_a_gathereds (C : cx_C Γ (qf_w (gK Γ)) qcl own cc nL ret rm) {v : Int32} (hin : vp_in i 300) (hd : decode cc pc = .ok (.iastore, 1)) (hp : pc + 1 = n) (k : J Γ (qf_w (gK Γ)) qcl Qf X (qf_t_gathereds σ i v) n lv st) : J Γ (qf_w (gK Γ)) qcl Qf X σ pc lv (.int v :: .int i :: .ref (kq (gK Γ) 14) :: st) := j_iast C 5 rfl rfl hin hd hp k
end
section
variable {R : Type} {Γ : cx_T} {own : String} {cc : ByteArray} {nL : Nat} {ret : Option FieldType} {rm : Nat × Nat} {Qf : R → qt_S → State → Prop} {X : Option (R × qt_S)} {σ : qt_S} {pc n index : Nat} {lv : List (Nat × Value)} {st : List Value} {i : Int32}
theorem qt_r_heap (C : cx_C Γ (qt_w (gK Γ)) qcl own cc nL ret rm) (hl : Cond.fieldLink own index "ScopeInterpreter$Matcher" "heap" "LScopeInterpreter$Heap;" ∈ gw) (hd : decode cc pc = .ok (.getfield index, 3)) (hp : pc + 3 = n) (k : J Γ (qt_w (gK Γ)) qcl Qf X σ n lv (.ref (kq (gK Γ) 15) :: st)) : J Γ (qt_w (gK Γ)) qcl Qf X σ pc lv (.ref (kq (gK Γ) 4) :: st) := j_get C qt_in 0 rfl rfl 0 (by decide) rfl hl hd hp k
theorem qt_r_pendingTrees (C : cx_C Γ (qt_w (gK Γ)) qcl own cc nL ret rm) (hl : Cond.fieldLink own index "ScopeInterpreter$Matcher" "pendingTrees" "[J" ∈ gw) (hd : decode cc pc = .ok (.getfield index, 3)) (hp : pc + 3 = n) (k : J Γ (qt_w (gK Γ)) qcl Qf X σ n lv (.ref (kq (gK Γ) 5) :: st)) : J Γ (qt_w (gK Γ)) qcl Qf X σ pc lv (.ref (kq (gK Γ) 4) :: st) := j_get C qt_in 0 rfl rfl 1 (by decide) rfl hl hd hp k
theorem qt_r_pendingParts (C : cx_C Γ (qt_w (gK Γ)) qcl own cc nL ret rm) (hl : Cond.fieldLink own index "ScopeInterpreter$Matcher" "pendingParts" "[J" ∈ gw) (hd : decode cc pc = .ok (.getfield index, 3)) (hp : pc + 3 = n) (k : J Γ (qt_w (gK Γ)) qcl Qf X σ n lv (.ref (kq (gK Γ) 6) :: st)) : J Γ (qt_w (gK Γ)) qcl Qf X σ pc lv (.ref (kq (gK Γ) 4) :: st) := j_get C qt_in 0 rfl rfl 2 (by decide) rfl hl hd hp k
theorem qt_r_pendingCount (C : cx_C Γ (qt_w (gK Γ)) qcl own cc nL ret rm) {x : Int32} (hl : Cond.fieldLink own index "ScopeInterpreter$Matcher" "pendingCount" "I" ∈ gw) (hd : decode cc pc = .ok (.getfield index, 3)) (hp : pc + 3 = n) (hx : qt_g_pendingCount σ = x) (k : J Γ (qt_w (gK Γ)) qcl Qf X σ n lv (.int x :: st)) : J Γ (qt_w (gK Γ)) qcl Qf X σ pc lv (.ref (kq (gK Γ) 4) :: st) := j_get C qt_in 0 rfl rfl 3 (by decide) (by rw [← hx]; rfl) hl hd hp k
theorem qt_p_pendingCount (C : cx_C Γ (qt_w (gK Γ)) qcl own cc nL ret rm) {v : Int32} (hl : Cond.fieldLink own index "ScopeInterpreter$Matcher" "pendingCount" "I" ∈ gw) (hd : decode cc pc = .ok (.putfield index, 3)) (hp : pc + 3 = n) (k : J Γ (qt_w (gK Γ)) qcl Qf X (qt_s_pendingCount σ v) n lv st) : J Γ (qt_w (gK Γ)) qcl Qf X σ pc lv (.int v :: .ref (kq (gK Γ) 4) :: st) := j_put C qt_in qt_ty qt_tyok qt_nm 0 rfl rfl 3 (by decide) rfl (ty := .int) (by decide +kernel) rfl rfl (Nat.le_of_ble_eq_true rfl) rfl hl hd hp k
theorem qt_r_symbols (C : cx_C Γ (qt_w (gK Γ)) qcl own cc nL ret rm) (hl : Cond.fieldLink own index "ScopeInterpreter$Matcher" "symbols" "[I" ∈ gw) (hd : decode cc pc = .ok (.getfield index, 3)) (hp : pc + 3 = n) (k : J Γ (qt_w (gK Γ)) qcl Qf X σ n lv (.ref (kq (gK Γ) 7) :: st)) : J Γ (qt_w (gK Γ)) qcl Qf X σ pc lv (.ref (kq (gK Γ) 4) :: st) := j_get C qt_in 0 rfl rfl 4 (by decide) rfl hl hd hp k
theorem qt_r_parts (C : cx_C Γ (qt_w (gK Γ)) qcl own cc nL ret rm) (hl : Cond.fieldLink own index "ScopeInterpreter$Matcher" "parts" "[J" ∈ gw) (hd : decode cc pc = .ok (.getfield index, 3)) (hp : pc + 3 = n) (k : J Γ (qt_w (gK Γ)) qcl Qf X σ n lv (.ref (kq (gK Γ) 8) :: st)) : J Γ (qt_w (gK Γ)) qcl Qf X σ pc lv (.ref (kq (gK Γ) 4) :: st) := j_get C qt_in 0 rfl rfl 5 (by decide) rfl hl hd hp k
theorem qt_r_symbolCount (C : cx_C Γ (qt_w (gK Γ)) qcl own cc nL ret rm) {x : Int32} (hl : Cond.fieldLink own index "ScopeInterpreter$Matcher" "symbolCount" "I" ∈ gw) (hd : decode cc pc = .ok (.getfield index, 3)) (hp : pc + 3 = n) (hx : qt_g_symbolCount σ = x) (k : J Γ (qt_w (gK Γ)) qcl Qf X σ n lv (.int x :: st)) : J Γ (qt_w (gK Γ)) qcl Qf X σ pc lv (.ref (kq (gK Γ) 4) :: st) := j_get C qt_in 0 rfl rfl 6 (by decide) (by rw [← hx]; rfl) hl hd hp k
theorem qt_p_symbolCount (C : cx_C Γ (qt_w (gK Γ)) qcl own cc nL ret rm) {v : Int32} (hl : Cond.fieldLink own index "ScopeInterpreter$Matcher" "symbolCount" "I" ∈ gw) (hd : decode cc pc = .ok (.putfield index, 3)) (hp : pc + 3 = n) (k : J Γ (qt_w (gK Γ)) qcl Qf X (qt_s_symbolCount σ v) n lv st) : J Γ (qt_w (gK Γ)) qcl Qf X σ pc lv (.int v :: .ref (kq (gK Γ) 4) :: st) := j_put C qt_in qt_ty qt_tyok qt_nm 0 rfl rfl 6 (by decide) rfl (ty := .int) (by decide +kernel) rfl rfl (Nat.le_of_ble_eq_true rfl) rfl hl hd hp k
theorem qt_l_pendingTrees (C : cx_C Γ (qt_w (gK Γ)) qcl own cc nL ret rm) {x : Int64} (hin : vp_in i 101) (hd : decode cc pc = .ok (.laload, 1)) (hp : pc + 1 = n) (hx : qt_g_pendingTrees σ i.toNatClampNeg = x) (k : J Γ (qt_w (gK Γ)) qcl Qf X σ n lv (.long x :: st)) : J Γ (qt_w (gK Γ)) qcl Qf X σ pc lv (.int i :: .ref (kq (gK Γ) 5) :: st) := j_lald C 1 rfl hin hd hp (by subst hx; exact k)
theorem qt_a_pendingTrees (C : cx_C Γ (qt_w (gK Γ)) qcl own cc nL ret rm) {v : Int64} (hin : vp_in i 101) (hd : decode cc pc = .ok (.lastore, 1)) (hp : pc + 1 = n) (k : J Γ (qt_w (gK Γ)) qcl Qf X (qt_t_pendingTrees σ i v) n lv st) : J Γ (qt_w (gK Γ)) qcl Qf X σ pc lv (.long v :: .int i :: .ref (kq (gK Γ) 5) :: st) := j_last C 1 rfl rfl hin hd hp k
theorem qt_l_pendingParts (C : cx_C Γ (qt_w (gK Γ)) qcl own cc nL ret rm) {x : Int64} (hin : vp_in i 101) (hd : decode cc pc = .ok (.laload, 1)) (hp : pc + 1 = n) (hx : qt_g_pendingParts σ i.toNatClampNeg = x) (k : J Γ (qt_w (gK Γ)) qcl Qf X σ n lv (.long x :: st)) : J Γ (qt_w (gK Γ)) qcl Qf X σ pc lv (.int i :: .ref (kq (gK Γ) 6) :: st) := j_lald C 2 rfl hin hd hp (by subst hx; exact k)
theorem qt_a_pendingParts (C : cx_C Γ (qt_w (gK Γ)) qcl own cc nL ret rm) {v : Int64} (hin : vp_in i 101) (hd : decode cc pc = .ok (.lastore, 1)) (hp : pc + 1 = n) (k : J Γ (qt_w (gK Γ)) qcl Qf X (qt_t_pendingParts σ i v) n lv st) : J Γ (qt_w (gK Γ)) qcl Qf X σ pc lv (.long v :: .int i :: .ref (kq (gK Γ) 6) :: st) := j_last C 2 rfl rfl hin hd hp k
theorem qt_l_symbols (C : cx_C Γ (qt_w (gK Γ)) qcl own cc nL ret rm) {x : Int32} (hin : vp_in i 100) (hd : decode cc pc = .ok (.iaload, 1)) (hp : pc + 1 = n) (hx : qt_g_symbols σ i.toNatClampNeg = x) (k : J Γ (qt_w (gK Γ)) qcl Qf X σ n lv (.int x :: st)) : J Γ (qt_w (gK Γ)) qcl Qf X σ pc lv (.int i :: .ref (kq (gK Γ) 7) :: st) := j_iald C 3 rfl hin hd hp (by subst hx; exact k)
theorem qt_a_symbols (C : cx_C Γ (qt_w (gK Γ)) qcl own cc nL ret rm) {v : Int32} (hin : vp_in i 100) (hd : decode cc pc = .ok (.iastore, 1)) (hp : pc + 1 = n) (k : J Γ (qt_w (gK Γ)) qcl Qf X (qt_t_symbols σ i v) n lv st) : J Γ (qt_w (gK Γ)) qcl Qf X σ pc lv (.int v :: .int i :: .ref (kq (gK Γ) 7) :: st) := j_iast C 3 rfl rfl hin hd hp k
theorem qt_l_parts (C : cx_C Γ (qt_w (gK Γ)) qcl own cc nL ret rm) {x : Int64} (hin : vp_in i 100) (hd : decode cc pc = .ok (.laload, 1)) (hp : pc + 1 = n) (hx : qt_g_parts σ i.toNatClampNeg = x) (k : J Γ (qt_w (gK Γ)) qcl Qf X σ n lv (.long x :: st)) : J Γ (qt_w (gK Γ)) qcl Qf X σ pc lv (.int i :: .ref (kq (gK Γ) 8) :: st) := j_lald C 4 rfl hin hd hp (by subst hx; exact k)
theorem qt_a_parts (C : cx_C Γ (qt_w (gK Γ)) qcl own cc nL ret rm) {v : Int64} (hin : vp_in i 100) (hd : decode cc pc = .ok (.lastore, 1)) (hp : pc + 1 = n) (k : J Γ (qt_w (gK Γ)) qcl Qf X (qt_t_parts σ i v) n lv st) : J Γ (qt_w (gK Γ)) qcl Qf X σ pc lv (.long v :: .int i :: .ref (kq (gK Γ) 8) :: st) := j_last C 4 rfl rfl hin hd hp k
end
section
variable {R : Type} {Γ : cx_T} {own : String} {cc : ByteArray} {nL : Nat} {ret : Option FieldType} {rm : Nat × Nat} {Qf : R → qn_S → State → Prop} {X : Option (R × qn_S)} {σ : qn_S} {pc n index : Nat} {lv : List (Nat × Value)} {st : List Value} {i : Int32}
theorem qn_r_heap (C : cx_C Γ (qn_w (gK Γ)) qcl own cc nL ret rm) (hl : Cond.fieldLink own index "ScopeInterpreter$Machine" "heap" "LScopeInterpreter$Heap;" ∈ gw) (hd : decode cc pc = .ok (.getfield index, 3)) (hp : pc + 3 = n) (k : J Γ (qn_w (gK Γ)) qcl Qf X σ n lv (.ref (kq (gK Γ) 15) :: st)) : J Γ (qn_w (gK Γ)) qcl Qf X σ pc lv (.ref (kq (gK Γ) 2) :: st) := j_get C qn_in 0 rfl rfl 0 (by decide) rfl hl hd hp k
theorem qn_r_matcher (C : cx_C Γ (qn_w (gK Γ)) qcl own cc nL ret rm) (hl : Cond.fieldLink own index "ScopeInterpreter$Machine" "matcher" "LScopeInterpreter$Matcher;" ∈ gw) (hd : decode cc pc = .ok (.getfield index, 3)) (hp : pc + 3 = n) (k : J Γ (qn_w (gK Γ)) qcl Qf X σ n lv (.ref (kq (gK Γ) 4) :: st)) : J Γ (qn_w (gK Γ)) qcl Qf X σ pc lv (.ref (kq (gK Γ) 2) :: st) := j_get C qn_in 0 rfl rfl 1 (by decide) rfl hl hd hp k
theorem qn_r_frames (C : cx_C Γ (qn_w (gK Γ)) qcl own cc nL ret rm) (hl : Cond.fieldLink own index "ScopeInterpreter$Machine" "frames" "LScopeInterpreter$Frames;" ∈ gw) (hd : decode cc pc = .ok (.getfield index, 3)) (hp : pc + 3 = n) (k : J Γ (qn_w (gK Γ)) qcl Qf X σ n lv (.ref (kq (gK Γ) 9) :: st)) : J Γ (qn_w (gK Γ)) qcl Qf X σ pc lv (.ref (kq (gK Γ) 2) :: st) := j_get C qn_in 0 rfl rfl 2 (by decide) rfl hl hd hp k
theorem qn_r_arguments (C : cx_C Γ (qn_w (gK Γ)) qcl own cc nL ret rm) (hl : Cond.fieldLink own index "ScopeInterpreter$Machine" "arguments" "[J" ∈ gw) (hd : decode cc pc = .ok (.getfield index, 3)) (hp : pc + 3 = n) (k : J Γ (qn_w (gK Γ)) qcl Qf X σ n lv (.ref (kq (gK Γ) 3) :: st)) : J Γ (qn_w (gK Γ)) qcl Qf X σ pc lv (.ref (kq (gK Γ) 2) :: st) := j_get C qn_in 0 rfl rfl 3 (by decide) rfl hl hd hp k
theorem qn_r_argumentCount (C : cx_C Γ (qn_w (gK Γ)) qcl own cc nL ret rm) {x : Int32} (hl : Cond.fieldLink own index "ScopeInterpreter$Machine" "argumentCount" "I" ∈ gw) (hd : decode cc pc = .ok (.getfield index, 3)) (hp : pc + 3 = n) (hx : qn_g_argumentCount σ = x) (k : J Γ (qn_w (gK Γ)) qcl Qf X σ n lv (.int x :: st)) : J Γ (qn_w (gK Γ)) qcl Qf X σ pc lv (.ref (kq (gK Γ) 2) :: st) := j_get C qn_in 0 rfl rfl 4 (by decide) (by rw [← hx]; rfl) hl hd hp k
theorem qn_p_argumentCount (C : cx_C Γ (qn_w (gK Γ)) qcl own cc nL ret rm) {v : Int32} (hl : Cond.fieldLink own index "ScopeInterpreter$Machine" "argumentCount" "I" ∈ gw) (hd : decode cc pc = .ok (.putfield index, 3)) (hp : pc + 3 = n) (k : J Γ (qn_w (gK Γ)) qcl Qf X (qn_s_argumentCount σ v) n lv st) : J Γ (qn_w (gK Γ)) qcl Qf X σ pc lv (.int v :: .ref (kq (gK Γ) 2) :: st) := j_put C qn_in qn_ty qn_tyok qn_nm 0 rfl rfl 4 (by decide) rfl (ty := .int) (by decide +kernel) rfl rfl (Nat.le_of_ble_eq_true rfl) rfl hl hd hp k
theorem qn_r_mode (C : cx_C Γ (qn_w (gK Γ)) qcl own cc nL ret rm) {x : Int32} (hl : Cond.fieldLink own index "ScopeInterpreter$Machine" "mode" "I" ∈ gw) (hd : decode cc pc = .ok (.getfield index, 3)) (hp : pc + 3 = n) (hx : qn_g_mode σ = x) (k : J Γ (qn_w (gK Γ)) qcl Qf X σ n lv (.int x :: st)) : J Γ (qn_w (gK Γ)) qcl Qf X σ pc lv (.ref (kq (gK Γ) 2) :: st) := j_get C qn_in 0 rfl rfl 5 (by decide) (by rw [← hx]; rfl) hl hd hp k
theorem qn_p_mode (C : cx_C Γ (qn_w (gK Γ)) qcl own cc nL ret rm) {v : Int32} (hl : Cond.fieldLink own index "ScopeInterpreter$Machine" "mode" "I" ∈ gw) (hd : decode cc pc = .ok (.putfield index, 3)) (hp : pc + 3 = n) (k : J Γ (qn_w (gK Γ)) qcl Qf X (qn_s_mode σ v) n lv st) : J Γ (qn_w (gK Γ)) qcl Qf X σ pc lv (.int v :: .ref (kq (gK Γ) 2) :: st) := j_put C qn_in qn_ty qn_tyok qn_nm 0 rfl rfl 5 (by decide) rfl (ty := .int) (by decide +kernel) rfl rfl (Nat.le_of_ble_eq_true rfl) rfl hl hd hp k
theorem qn_r_current (C : cx_C Γ (qn_w (gK Γ)) qcl own cc nL ret rm) {x : Int64} (hl : Cond.fieldLink own index "ScopeInterpreter$Machine" "current" "J" ∈ gw) (hd : decode cc pc = .ok (.getfield index, 3)) (hp : pc + 3 = n) (hx : qn_g_current σ = x) (k : J Γ (qn_w (gK Γ)) qcl Qf X σ n lv (.long x :: st)) : J Γ (qn_w (gK Γ)) qcl Qf X σ pc lv (.ref (kq (gK Γ) 2) :: st) := j_get C qn_in 0 rfl rfl 6 (by decide) (by rw [← hx]; rfl) hl hd hp k
theorem qn_p_current (C : cx_C Γ (qn_w (gK Γ)) qcl own cc nL ret rm) {v : Int64} (hl : Cond.fieldLink own index "ScopeInterpreter$Machine" "current" "J" ∈ gw) (hd : decode cc pc = .ok (.putfield index, 3)) (hp : pc + 3 = n) (k : J Γ (qn_w (gK Γ)) qcl Qf X (qn_s_current σ v) n lv st) : J Γ (qn_w (gK Γ)) qcl Qf X σ pc lv (.long v :: .ref (kq (gK Γ) 2) :: st) := j_put C qn_in qn_ty qn_tyok qn_nm 0 rfl rfl 6 (by decide) rfl (ty := .long) (by decide +kernel) rfl rfl (Nat.le_of_ble_eq_true rfl) rfl hl hd hp k
theorem qn_r_operands (C : cx_C Γ (qn_w (gK Γ)) qcl own cc nL ret rm) {x : Int64} (hl : Cond.fieldLink own index "ScopeInterpreter$Machine" "operands" "J" ∈ gw) (hd : decode cc pc = .ok (.getfield index, 3)) (hp : pc + 3 = n) (hx : qn_g_operands σ = x) (k : J Γ (qn_w (gK Γ)) qcl Qf X σ n lv (.long x :: st)) : J Γ (qn_w (gK Γ)) qcl Qf X σ pc lv (.ref (kq (gK Γ) 2) :: st) := j_get C qn_in 0 rfl rfl 7 (by decide) (by rw [← hx]; rfl) hl hd hp k
theorem qn_p_operands (C : cx_C Γ (qn_w (gK Γ)) qcl own cc nL ret rm) {v : Int64} (hl : Cond.fieldLink own index "ScopeInterpreter$Machine" "operands" "J" ∈ gw) (hd : decode cc pc = .ok (.putfield index, 3)) (hp : pc + 3 = n) (k : J Γ (qn_w (gK Γ)) qcl Qf X (qn_s_operands σ v) n lv st) : J Γ (qn_w (gK Γ)) qcl Qf X σ pc lv (.long v :: .ref (kq (gK Γ) 2) :: st) := j_put C qn_in qn_ty qn_tyok qn_nm 0 rfl rfl 7 (by decide) rfl (ty := .long) (by decide +kernel) rfl rfl (Nat.le_of_ble_eq_true rfl) rfl hl hd hp k
theorem qn_r_environment (C : cx_C Γ (qn_w (gK Γ)) qcl own cc nL ret rm) {x : Int32} (hl : Cond.fieldLink own index "ScopeInterpreter$Machine" "environment" "I" ∈ gw) (hd : decode cc pc = .ok (.getfield index, 3)) (hp : pc + 3 = n) (hx : qn_g_environment σ = x) (k : J Γ (qn_w (gK Γ)) qcl Qf X σ n lv (.int x :: st)) : J Γ (qn_w (gK Γ)) qcl Qf X σ pc lv (.ref (kq (gK Γ) 2) :: st) := j_get C qn_in 0 rfl rfl 8 (by decide) (by rw [← hx]; rfl) hl hd hp k
theorem qn_p_environment (C : cx_C Γ (qn_w (gK Γ)) qcl own cc nL ret rm) {v : Int32} (hl : Cond.fieldLink own index "ScopeInterpreter$Machine" "environment" "I" ∈ gw) (hd : decode cc pc = .ok (.putfield index, 3)) (hp : pc + 3 = n) (k : J Γ (qn_w (gK Γ)) qcl Qf X (qn_s_environment σ v) n lv st) : J Γ (qn_w (gK Γ)) qcl Qf X σ pc lv (.int v :: .ref (kq (gK Γ) 2) :: st) := j_put C qn_in qn_ty qn_tyok qn_nm 0 rfl rfl 8 (by decide) rfl (ty := .int) (by decide +kernel) rfl rfl (Nat.le_of_ble_eq_true rfl) rfl hl hd hp k
theorem qn_r_steps (C : cx_C Γ (qn_w (gK Γ)) qcl own cc nL ret rm) {x : Int32} (hl : Cond.fieldLink own index "ScopeInterpreter$Machine" "steps" "I" ∈ gw) (hd : decode cc pc = .ok (.getfield index, 3)) (hp : pc + 3 = n) (hx : qn_g_steps σ = x) (k : J Γ (qn_w (gK Γ)) qcl Qf X σ n lv (.int x :: st)) : J Γ (qn_w (gK Γ)) qcl Qf X σ pc lv (.ref (kq (gK Γ) 2) :: st) := j_get C qn_in 0 rfl rfl 9 (by decide) (by rw [← hx]; rfl) hl hd hp k
theorem qn_p_steps (C : cx_C Γ (qn_w (gK Γ)) qcl own cc nL ret rm) {v : Int32} (hl : Cond.fieldLink own index "ScopeInterpreter$Machine" "steps" "I" ∈ gw) (hd : decode cc pc = .ok (.putfield index, 3)) (hp : pc + 3 = n) (k : J Γ (qn_w (gK Γ)) qcl Qf X (qn_s_steps σ v) n lv st) : J Γ (qn_w (gK Γ)) qcl Qf X σ pc lv (.int v :: .ref (kq (gK Γ) 2) :: st) := j_put C qn_in qn_ty qn_tyok qn_nm 0 rfl rfl 9 (by decide) rfl (ty := .int) (by decide +kernel) rfl rfl (Nat.le_of_ble_eq_true rfl) rfl hl hd hp k
theorem qn_r_limit (C : cx_C Γ (qn_w (gK Γ)) qcl own cc nL ret rm) {x : Int32} (hl : Cond.fieldLink own index "ScopeInterpreter$Machine" "limit" "I" ∈ gw) (hd : decode cc pc = .ok (.getfield index, 3)) (hp : pc + 3 = n) (hx : qn_g_limit σ = x) (k : J Γ (qn_w (gK Γ)) qcl Qf X σ n lv (.int x :: st)) : J Γ (qn_w (gK Γ)) qcl Qf X σ pc lv (.ref (kq (gK Γ) 2) :: st) := j_get C qn_in 0 rfl rfl 10 (by decide) (by rw [← hx]; rfl) hl hd hp k
theorem qn_p_limit (C : cx_C Γ (qn_w (gK Γ)) qcl own cc nL ret rm) {v : Int32} (hl : Cond.fieldLink own index "ScopeInterpreter$Machine" "limit" "I" ∈ gw) (hd : decode cc pc = .ok (.putfield index, 3)) (hp : pc + 3 = n) (k : J Γ (qn_w (gK Γ)) qcl Qf X (qn_s_limit σ v) n lv st) : J Γ (qn_w (gK Γ)) qcl Qf X σ pc lv (.int v :: .ref (kq (gK Γ) 2) :: st) := j_put C qn_in qn_ty qn_tyok qn_nm 0 rfl rfl 10 (by decide) rfl (ty := .int) (by decide +kernel) rfl rfl (Nat.le_of_ble_eq_true rfl) rfl hl hd hp k
theorem qn_r_failure (C : cx_C Γ (qn_w (gK Γ)) qcl own cc nL ret rm) {x : Int32} (hl : Cond.fieldLink own index "ScopeInterpreter$Machine" "failure" "I" ∈ gw) (hd : decode cc pc = .ok (.getfield index, 3)) (hp : pc + 3 = n) (hx : qn_g_failure σ = x) (k : J Γ (qn_w (gK Γ)) qcl Qf X σ n lv (.int x :: st)) : J Γ (qn_w (gK Γ)) qcl Qf X σ pc lv (.ref (kq (gK Γ) 2) :: st) := j_get C qn_in 0 rfl rfl 11 (by decide) (by rw [← hx]; rfl) hl hd hp k
theorem qn_p_failure (C : cx_C Γ (qn_w (gK Γ)) qcl own cc nL ret rm) {v : Int32} (hl : Cond.fieldLink own index "ScopeInterpreter$Machine" "failure" "I" ∈ gw) (hd : decode cc pc = .ok (.putfield index, 3)) (hp : pc + 3 = n) (k : J Γ (qn_w (gK Γ)) qcl Qf X (qn_s_failure σ v) n lv st) : J Γ (qn_w (gK Γ)) qcl Qf X σ pc lv (.int v :: .ref (kq (gK Γ) 2) :: st) := j_put C qn_in qn_ty qn_tyok qn_nm 0 rfl rfl 11 (by decide) rfl (ty := .int) (by decide +kernel) rfl rfl (Nat.le_of_ble_eq_true rfl) rfl hl hd hp k
theorem qn_l_arguments (C : cx_C Γ (qn_w (gK Γ)) qcl own cc nL ret rm) {x : Int64} (hin : vp_in i 1500) (hd : decode cc pc = .ok (.laload, 1)) (hp : pc + 1 = n) (hx : qn_g_arguments σ i.toNatClampNeg = x) (k : J Γ (qn_w (gK Γ)) qcl Qf X σ n lv (.long x :: st)) : J Γ (qn_w (gK Γ)) qcl Qf X σ pc lv (.int i :: .ref (kq (gK Γ) 3) :: st) := j_lald C 1 rfl hin hd hp (by subst hx; exact k)
theorem qn_a_arguments (C : cx_C Γ (qn_w (gK Γ)) qcl own cc nL ret rm) {v : Int64} (hin : vp_in i 1500) (hd : decode cc pc = .ok (.lastore, 1)) (hp : pc + 1 = n) (k : J Γ (qn_w (gK Γ)) qcl Qf X (qn_t_arguments σ i v) n lv st) : J Γ (qn_w (gK Γ)) qcl Qf X σ pc lv (.long v :: .int i :: .ref (kq (gK Γ) 3) :: st) := j_last C 1 rfl rfl hin hd hp k
end
section
variable {R : Type} {Γ : cx_T} {own : String} {cc : ByteArray} {nL : Nat} {ret : Option FieldType} {rm : Nat × Nat} {Qf : R → qx_S → State → Prop} {X : Option (R × qx_S)} {σ : qx_S} {pc n index : Nat} {lv : List (Nat × Value)} {st : List Value} {i : Int32}
theorem qx_r_heap (C : cx_C Γ (qx_w (gK Γ)) qcl own cc nL ret rm) (hl : Cond.fieldLink own index "ScopeInterpreter" "heap" "LScopeInterpreter$Heap;" ∈ gw) (hd : decode cc pc = .ok (.getfield index, 3)) (hp : pc + 3 = n) (k : J Γ (qx_w (gK Γ)) qcl Qf X σ n lv (.ref (kq (gK Γ) 15) :: st)) : J Γ (qx_w (gK Γ)) qcl Qf X σ pc lv (.ref (kq (gK Γ) 0) :: st) := j_get C qx_in 0 rfl rfl 0 (by decide) rfl hl hd hp k
theorem qx_r_machine (C : cx_C Γ (qx_w (gK Γ)) qcl own cc nL ret rm) (hl : Cond.fieldLink own index "ScopeInterpreter" "machine" "LScopeInterpreter$Machine;" ∈ gw) (hd : decode cc pc = .ok (.getfield index, 3)) (hp : pc + 3 = n) (k : J Γ (qx_w (gK Γ)) qcl Qf X σ n lv (.ref (kq (gK Γ) 2) :: st)) : J Γ (qx_w (gK Γ)) qcl Qf X σ pc lv (.ref (kq (gK Γ) 0) :: st) := j_get C qx_in 0 rfl rfl 1 (by decide) rfl hl hd hp k
theorem qx_r_stack (C : cx_C Γ (qx_w (gK Γ)) qcl own cc nL ret rm) (hl : Cond.fieldLink own index "ScopeInterpreter" "stack" "[J" ∈ gw) (hd : decode cc pc = .ok (.getfield index, 3)) (hp : pc + 3 = n) (k : J Γ (qx_w (gK Γ)) qcl Qf X σ n lv (.ref (kq (gK Γ) 1) :: st)) : J Γ (qx_w (gK Γ)) qcl Qf X σ pc lv (.ref (kq (gK Γ) 0) :: st) := j_get C qx_in 0 rfl rfl 2 (by decide) rfl hl hd hp k
theorem qx_r_stackSize (C : cx_C Γ (qx_w (gK Γ)) qcl own cc nL ret rm) {x : Int32} (hl : Cond.fieldLink own index "ScopeInterpreter" "stackSize" "I" ∈ gw) (hd : decode cc pc = .ok (.getfield index, 3)) (hp : pc + 3 = n) (hx : qx_g_stackSize σ = x) (k : J Γ (qx_w (gK Γ)) qcl Qf X σ n lv (.int x :: st)) : J Γ (qx_w (gK Γ)) qcl Qf X σ pc lv (.ref (kq (gK Γ) 0) :: st) := j_get C qx_in 0 rfl rfl 3 (by decide) (by rw [← hx]; rfl) hl hd hp k
theorem qx_p_stackSize (C : cx_C Γ (qx_w (gK Γ)) qcl own cc nL ret rm) {v : Int32} (hl : Cond.fieldLink own index "ScopeInterpreter" "stackSize" "I" ∈ gw) (hd : decode cc pc = .ok (.putfield index, 3)) (hp : pc + 3 = n) (k : J Γ (qx_w (gK Γ)) qcl Qf X (qx_s_stackSize σ v) n lv st) : J Γ (qx_w (gK Γ)) qcl Qf X σ pc lv (.int v :: .ref (kq (gK Γ) 0) :: st) := j_put C qx_in qx_ty qx_tyok qx_nm 0 rfl rfl 3 (by decide) rfl (ty := .int) (by decide +kernel) rfl rfl (Nat.le_of_ble_eq_true rfl) rfl hl hd hp k
theorem qx_r_present (C : cx_C Γ (qx_w (gK Γ)) qcl own cc nL ret rm) {x : Int32} (hl : Cond.fieldLink own index "ScopeInterpreter" "present" "I" ∈ gw) (hd : decode cc pc = .ok (.getfield index, 3)) (hp : pc + 3 = n) (hx : qx_g_present σ = x) (k : J Γ (qx_w (gK Γ)) qcl Qf X σ n lv (.int x :: st)) : J Γ (qx_w (gK Γ)) qcl Qf X σ pc lv (.ref (kq (gK Γ) 0) :: st) := j_get C qx_in 0 rfl rfl 4 (by decide) (by rw [← hx]; rfl) hl hd hp k
theorem qx_p_present (C : cx_C Γ (qx_w (gK Γ)) qcl own cc nL ret rm) {v : Int32} (hl : Cond.fieldLink own index "ScopeInterpreter" "present" "I" ∈ gw) (hd : decode cc pc = .ok (.putfield index, 3)) (hp : pc + 3 = n) (k : J Γ (qx_w (gK Γ)) qcl Qf X (qx_s_present σ v) n lv st) : J Γ (qx_w (gK Γ)) qcl Qf X σ pc lv (.int v :: .ref (kq (gK Γ) 0) :: st) := j_put C qx_in qx_ty qx_tyok qx_nm 0 rfl rfl 4 (by decide) rfl (ty := .int) (by decide +kernel) rfl rfl (Nat.le_of_ble_eq_true rfl) rfl hl hd hp k
theorem qx_r_limit (C : cx_C Γ (qx_w (gK Γ)) qcl own cc nL ret rm) {x : Int32} (hl : Cond.fieldLink own index "ScopeInterpreter" "limit" "I" ∈ gw) (hd : decode cc pc = .ok (.getfield index, 3)) (hp : pc + 3 = n) (hx : qx_g_limit σ = x) (k : J Γ (qx_w (gK Γ)) qcl Qf X σ n lv (.int x :: st)) : J Γ (qx_w (gK Γ)) qcl Qf X σ pc lv (.ref (kq (gK Γ) 0) :: st) := j_get C qx_in 0 rfl rfl 5 (by decide) (by rw [← hx]; rfl) hl hd hp k
theorem qx_p_limit (C : cx_C Γ (qx_w (gK Γ)) qcl own cc nL ret rm) {v : Int32} (hl : Cond.fieldLink own index "ScopeInterpreter" "limit" "I" ∈ gw) (hd : decode cc pc = .ok (.putfield index, 3)) (hp : pc + 3 = n) (k : J Γ (qx_w (gK Γ)) qcl Qf X (qx_s_limit σ v) n lv st) : J Γ (qx_w (gK Γ)) qcl Qf X σ pc lv (.int v :: .ref (kq (gK Γ) 0) :: st) := j_put C qx_in qx_ty qx_tyok qx_nm 0 rfl rfl 5 (by decide) rfl (ty := .int) (by decide +kernel) rfl rfl (Nat.le_of_ble_eq_true rfl) rfl hl hd hp k
theorem qx_l_stack (C : cx_C Γ (qx_w (gK Γ)) qcl own cc nL ret rm) {x : Int64} (hin : vp_in i 40) (hd : decode cc pc = .ok (.laload, 1)) (hp : pc + 1 = n) (hx : qx_g_stack σ i.toNatClampNeg = x) (k : J Γ (qx_w (gK Γ)) qcl Qf X σ n lv (.long x :: st)) : J Γ (qx_w (gK Γ)) qcl Qf X σ pc lv (.int i :: .ref (kq (gK Γ) 1) :: st) := j_lald C 1 rfl hin hd hp (by subst hx; exact k)
theorem qx_a_stack (C : cx_C Γ (qx_w (gK Γ)) qcl own cc nL ret rm) {v : Int64} (hin : vp_in i 40) (hd : decode cc pc = .ok (.lastore, 1)) (hp : pc + 1 = n) (k : J Γ (qx_w (gK Γ)) qcl Qf X (qx_t_stack σ i v) n lv st) : J Γ (qx_w (gK Γ)) qcl Qf X σ pc lv (.long v :: .int i :: .ref (kq (gK Γ) 1) :: st) := j_last C 1 rfl rfl hin hd hp k
end
section
variable {R : Type} {Γ : cx_T} {own : String} {cc : ByteArray} {nL : Nat} {ret : Option FieldType} {rm : Nat × Nat} {Qf : R → qm_S → State → Prop} {X : Option (R × qm_S)} {σ : qm_S} {pc n index : Nat} {lv : List (Nat × Value)} {st : List Value} {i : Int32}
theorem qm_r_objects (C : cx_C Γ (qm_w (gK Γ)) qcl own cc nL ret rm) {x : Int32} (hl : Cond.fieldLink own index "ScopeInterpreterModel" "objects" "I" ∈ gw) (hd : decode cc pc = .ok (.getfield index, 3)) (hp : pc + 3 = n) (hx : qm_g_objects σ = x) (k : J Γ (qm_w (gK Γ)) qcl Qf X σ n lv (.int x :: st)) : J Γ (qm_w (gK Γ)) qcl Qf X σ pc lv (.ref (kq (gK Γ) 18) :: st) := j_get C qm_in 0 rfl rfl 0 (by decide) (by rw [← hx]; rfl) hl hd hp k
theorem qm_p_objects (C : cx_C Γ (qm_w (gK Γ)) qcl own cc nL ret rm) {v : Int32} (hl : Cond.fieldLink own index "ScopeInterpreterModel" "objects" "I" ∈ gw) (hd : decode cc pc = .ok (.putfield index, 3)) (hp : pc + 3 = n) (k : J Γ (qm_w (gK Γ)) qcl Qf X (qm_s_objects σ v) n lv st) : J Γ (qm_w (gK Γ)) qcl Qf X σ pc lv (.int v :: .ref (kq (gK Γ) 18) :: st) := j_put C qm_in qm_ty qm_tyok qm_nm 0 rfl rfl 0 (by decide) rfl (ty := .int) (by decide +kernel) rfl rfl (Nat.le_of_ble_eq_true rfl) rfl hl hd hp k
theorem qm_r_first (C : cx_C Γ (qm_w (gK Γ)) qcl own cc nL ret rm) (hl : Cond.fieldLink own index "ScopeInterpreterModel" "first" "[J" ∈ gw) (hd : decode cc pc = .ok (.getfield index, 3)) (hp : pc + 3 = n) (k : J Γ (qm_w (gK Γ)) qcl Qf X σ n lv (.ref (kq (gK Γ) 19) :: st)) : J Γ (qm_w (gK Γ)) qcl Qf X σ pc lv (.ref (kq (gK Γ) 18) :: st) := j_get C qm_in 0 rfl rfl 1 (by decide) rfl hl hd hp k
theorem qm_r_second (C : cx_C Γ (qm_w (gK Γ)) qcl own cc nL ret rm) (hl : Cond.fieldLink own index "ScopeInterpreterModel" "second" "[J" ∈ gw) (hd : decode cc pc = .ok (.getfield index, 3)) (hp : pc + 3 = n) (k : J Γ (qm_w (gK Γ)) qcl Qf X σ n lv (.ref (kq (gK Γ) 20) :: st)) : J Γ (qm_w (gK Γ)) qcl Qf X σ pc lv (.ref (kq (gK Γ) 18) :: st) := j_get C qm_in 0 rfl rfl 2 (by decide) rfl hl hd hp k
theorem qm_r_third (C : cx_C Γ (qm_w (gK Γ)) qcl own cc nL ret rm) (hl : Cond.fieldLink own index "ScopeInterpreterModel" "third" "[J" ∈ gw) (hd : decode cc pc = .ok (.getfield index, 3)) (hp : pc + 3 = n) (k : J Γ (qm_w (gK Γ)) qcl Qf X σ n lv (.ref (kq (gK Γ) 21) :: st)) : J Γ (qm_w (gK Γ)) qcl Qf X σ pc lv (.ref (kq (gK Γ) 18) :: st) := j_get C qm_in 0 rfl rfl 3 (by decide) rfl hl hd hp k
theorem qm_r_fourth (C : cx_C Γ (qm_w (gK Γ)) qcl own cc nL ret rm) (hl : Cond.fieldLink own index "ScopeInterpreterModel" "fourth" "[J" ∈ gw) (hd : decode cc pc = .ok (.getfield index, 3)) (hp : pc + 3 = n) (k : J Γ (qm_w (gK Γ)) qcl Qf X σ n lv (.ref (kq (gK Γ) 22) :: st)) : J Γ (qm_w (gK Γ)) qcl Qf X σ pc lv (.ref (kq (gK Γ) 18) :: st) := j_get C qm_in 0 rfl rfl 4 (by decide) rfl hl hd hp k
theorem qm_r_symbolOf (C : cx_C Γ (qm_w (gK Γ)) qcl own cc nL ret rm) (hl : Cond.fieldLink own index "ScopeInterpreterModel" "symbolOf" "[I" ∈ gw) (hd : decode cc pc = .ok (.getfield index, 3)) (hp : pc + 3 = n) (k : J Γ (qm_w (gK Γ)) qcl Qf X σ n lv (.ref (kq (gK Γ) 23) :: st)) : J Γ (qm_w (gK Γ)) qcl Qf X σ pc lv (.ref (kq (gK Γ) 18) :: st) := j_get C qm_in 0 rfl rfl 5 (by decide) rfl hl hd hp k
theorem qm_r_nextOf (C : cx_C Γ (qm_w (gK Γ)) qcl own cc nL ret rm) (hl : Cond.fieldLink own index "ScopeInterpreterModel" "nextOf" "[I" ∈ gw) (hd : decode cc pc = .ok (.getfield index, 3)) (hp : pc + 3 = n) (k : J Γ (qm_w (gK Γ)) qcl Qf X σ n lv (.ref (kq (gK Γ) 24) :: st)) : J Γ (qm_w (gK Γ)) qcl Qf X σ pc lv (.ref (kq (gK Γ) 18) :: st) := j_get C qm_in 0 rfl rfl 6 (by decide) rfl hl hd hp k
theorem qm_r_headOf (C : cx_C Γ (qm_w (gK Γ)) qcl own cc nL ret rm) (hl : Cond.fieldLink own index "ScopeInterpreterModel" "headOf" "[I" ∈ gw) (hd : decode cc pc = .ok (.getfield index, 3)) (hp : pc + 3 = n) (k : J Γ (qm_w (gK Γ)) qcl Qf X σ n lv (.ref (kq (gK Γ) 25) :: st)) : J Γ (qm_w (gK Γ)) qcl Qf X σ pc lv (.ref (kq (gK Γ) 18) :: st) := j_get C qm_in 0 rfl rfl 7 (by decide) rfl hl hd hp k
theorem qm_r_isGround (C : cx_C Γ (qm_w (gK Γ)) qcl own cc nL ret rm) (hl : Cond.fieldLink own index "ScopeInterpreterModel" "isGround" "[Z" ∈ gw) (hd : decode cc pc = .ok (.getfield index, 3)) (hp : pc + 3 = n) (k : J Γ (qm_w (gK Γ)) qcl Qf X σ n lv (.ref (kq (gK Γ) 26) :: st)) : J Γ (qm_w (gK Γ)) qcl Qf X σ pc lv (.ref (kq (gK Γ) 18) :: st) := j_get C qm_in 0 rfl rfl 8 (by decide) rfl hl hd hp k
theorem qm_r_groundValue (C : cx_C Γ (qm_w (gK Γ)) qcl own cc nL ret rm) (hl : Cond.fieldLink own index "ScopeInterpreterModel" "groundValue" "[J" ∈ gw) (hd : decode cc pc = .ok (.getfield index, 3)) (hp : pc + 3 = n) (k : J Γ (qm_w (gK Γ)) qcl Qf X σ n lv (.ref (kq (gK Γ) 27) :: st)) : J Γ (qm_w (gK Γ)) qcl Qf X σ pc lv (.ref (kq (gK Γ) 18) :: st) := j_get C qm_in 0 rfl rfl 9 (by decide) rfl hl hd hp k
theorem qm_r_found (C : cx_C Γ (qm_w (gK Γ)) qcl own cc nL ret rm) {x : Int64} (hl : Cond.fieldLink own index "ScopeInterpreterModel" "found" "J" ∈ gw) (hd : decode cc pc = .ok (.getfield index, 3)) (hp : pc + 3 = n) (hx : qm_g_found σ = x) (k : J Γ (qm_w (gK Γ)) qcl Qf X σ n lv (.long x :: st)) : J Γ (qm_w (gK Γ)) qcl Qf X σ pc lv (.ref (kq (gK Γ) 18) :: st) := j_get C qm_in 0 rfl rfl 10 (by decide) (by rw [← hx]; rfl) hl hd hp k
theorem qm_p_found (C : cx_C Γ (qm_w (gK Γ)) qcl own cc nL ret rm) {v : Int64} (hl : Cond.fieldLink own index "ScopeInterpreterModel" "found" "J" ∈ gw) (hd : decode cc pc = .ok (.putfield index, 3)) (hp : pc + 3 = n) (k : J Γ (qm_w (gK Γ)) qcl Qf X (qm_s_found σ v) n lv st) : J Γ (qm_w (gK Γ)) qcl Qf X σ pc lv (.long v :: .ref (kq (gK Γ) 18) :: st) := j_put C qm_in qm_ty qm_tyok qm_nm 0 rfl rfl 10 (by decide) rfl (ty := .long) (by decide +kernel) rfl rfl (Nat.le_of_ble_eq_true rfl) rfl hl hd hp k
theorem qm_r_foundAt (C : cx_C Γ (qm_w (gK Γ)) qcl own cc nL ret rm) {x : Int32} (hl : Cond.fieldLink own index "ScopeInterpreterModel" "foundAt" "I" ∈ gw) (hd : decode cc pc = .ok (.getfield index, 3)) (hp : pc + 3 = n) (hx : qm_g_foundAt σ = x) (k : J Γ (qm_w (gK Γ)) qcl Qf X σ n lv (.int x :: st)) : J Γ (qm_w (gK Γ)) qcl Qf X σ pc lv (.ref (kq (gK Γ) 18) :: st) := j_get C qm_in 0 rfl rfl 11 (by decide) (by rw [← hx]; rfl) hl hd hp k
theorem qm_p_foundAt (C : cx_C Γ (qm_w (gK Γ)) qcl own cc nL ret rm) {v : Int32} (hl : Cond.fieldLink own index "ScopeInterpreterModel" "foundAt" "I" ∈ gw) (hd : decode cc pc = .ok (.putfield index, 3)) (hp : pc + 3 = n) (k : J Γ (qm_w (gK Γ)) qcl Qf X (qm_s_foundAt σ v) n lv st) : J Γ (qm_w (gK Γ)) qcl Qf X σ pc lv (.int v :: .ref (kq (gK Γ) 18) :: st) := j_put C qm_in qm_ty qm_tyok qm_nm 0 rfl rfl 11 (by decide) rfl (ty := .int) (by decide +kernel) rfl rfl (Nat.le_of_ble_eq_true rfl) rfl hl hd hp k
theorem qm_r_values (C : cx_C Γ (qm_w (gK Γ)) qcl own cc nL ret rm) {x : Int32} (hl : Cond.fieldLink own index "ScopeInterpreterModel" "values" "I" ∈ gw) (hd : decode cc pc = .ok (.getfield index, 3)) (hp : pc + 3 = n) (hx : qm_g_values σ = x) (k : J Γ (qm_w (gK Γ)) qcl Qf X σ n lv (.int x :: st)) : J Γ (qm_w (gK Γ)) qcl Qf X σ pc lv (.ref (kq (gK Γ) 18) :: st) := j_get C qm_in 0 rfl rfl 12 (by decide) (by rw [← hx]; rfl) hl hd hp k
theorem qm_p_values (C : cx_C Γ (qm_w (gK Γ)) qcl own cc nL ret rm) {v : Int32} (hl : Cond.fieldLink own index "ScopeInterpreterModel" "values" "I" ∈ gw) (hd : decode cc pc = .ok (.putfield index, 3)) (hp : pc + 3 = n) (k : J Γ (qm_w (gK Γ)) qcl Qf X (qm_s_values σ v) n lv st) : J Γ (qm_w (gK Γ)) qcl Qf X σ pc lv (.int v :: .ref (kq (gK Γ) 18) :: st) := j_put C qm_in qm_ty qm_tyok qm_nm 0 rfl rfl 12 (by decide) rfl (ty := .int) (by decide +kernel) rfl rfl (Nat.le_of_ble_eq_true rfl) rfl hl hd hp k
theorem qm_r_stack (C : cx_C Γ (qm_w (gK Γ)) qcl own cc nL ret rm) (hl : Cond.fieldLink own index "ScopeInterpreterModel" "stack" "[J" ∈ gw) (hd : decode cc pc = .ok (.getfield index, 3)) (hp : pc + 3 = n) (k : J Γ (qm_w (gK Γ)) qcl Qf X σ n lv (.ref (kq (gK Γ) 28) :: st)) : J Γ (qm_w (gK Γ)) qcl Qf X σ pc lv (.ref (kq (gK Γ) 18) :: st) := j_get C qm_in 0 rfl rfl 13 (by decide) rfl hl hd hp k
theorem qm_r_present (C : cx_C Γ (qm_w (gK Γ)) qcl own cc nL ret rm) {x : Int64} (hl : Cond.fieldLink own index "ScopeInterpreterModel" "present" "J" ∈ gw) (hd : decode cc pc = .ok (.getfield index, 3)) (hp : pc + 3 = n) (hx : qm_g_present σ = x) (k : J Γ (qm_w (gK Γ)) qcl Qf X σ n lv (.long x :: st)) : J Γ (qm_w (gK Γ)) qcl Qf X σ pc lv (.ref (kq (gK Γ) 18) :: st) := j_get C qm_in 0 rfl rfl 14 (by decide) (by rw [← hx]; rfl) hl hd hp k
theorem qm_p_present (C : cx_C Γ (qm_w (gK Γ)) qcl own cc nL ret rm) {v : Int64} (hl : Cond.fieldLink own index "ScopeInterpreterModel" "present" "J" ∈ gw) (hd : decode cc pc = .ok (.putfield index, 3)) (hp : pc + 3 = n) (k : J Γ (qm_w (gK Γ)) qcl Qf X (qm_s_present σ v) n lv st) : J Γ (qm_w (gK Γ)) qcl Qf X σ pc lv (.long v :: .ref (kq (gK Γ) 18) :: st) := j_put C qm_in qm_ty qm_tyok qm_nm 0 rfl rfl 14 (by decide) rfl (ty := .long) (by decide +kernel) rfl rfl (Nat.le_of_ble_eq_true rfl) rfl hl hd hp k
theorem qm_r_limit (C : cx_C Γ (qm_w (gK Γ)) qcl own cc nL ret rm) {x : Int32} (hl : Cond.fieldLink own index "ScopeInterpreterModel" "limit" "I" ∈ gw) (hd : decode cc pc = .ok (.getfield index, 3)) (hp : pc + 3 = n) (hx : qm_g_limit σ = x) (k : J Γ (qm_w (gK Γ)) qcl Qf X σ n lv (.int x :: st)) : J Γ (qm_w (gK Γ)) qcl Qf X σ pc lv (.ref (kq (gK Γ) 18) :: st) := j_get C qm_in 0 rfl rfl 15 (by decide) (by rw [← hx]; rfl) hl hd hp k
theorem qm_p_limit (C : cx_C Γ (qm_w (gK Γ)) qcl own cc nL ret rm) {v : Int32} (hl : Cond.fieldLink own index "ScopeInterpreterModel" "limit" "I" ∈ gw) (hd : decode cc pc = .ok (.putfield index, 3)) (hp : pc + 3 = n) (k : J Γ (qm_w (gK Γ)) qcl Qf X (qm_s_limit σ v) n lv st) : J Γ (qm_w (gK Γ)) qcl Qf X σ pc lv (.int v :: .ref (kq (gK Γ) 18) :: st) := j_put C qm_in qm_ty qm_tyok qm_nm 0 rfl rfl 15 (by decide) rfl (ty := .int) (by decide +kernel) rfl rfl (Nat.le_of_ble_eq_true rfl) rfl hl hd hp k
theorem qm_r_steps (C : cx_C Γ (qm_w (gK Γ)) qcl own cc nL ret rm) {x : Int32} (hl : Cond.fieldLink own index "ScopeInterpreterModel" "steps" "I" ∈ gw) (hd : decode cc pc = .ok (.getfield index, 3)) (hp : pc + 3 = n) (hx : qm_g_steps σ = x) (k : J Γ (qm_w (gK Γ)) qcl Qf X σ n lv (.int x :: st)) : J Γ (qm_w (gK Γ)) qcl Qf X σ pc lv (.ref (kq (gK Γ) 18) :: st) := j_get C qm_in 0 rfl rfl 16 (by decide) (by rw [← hx]; rfl) hl hd hp k
theorem qm_p_steps (C : cx_C Γ (qm_w (gK Γ)) qcl own cc nL ret rm) {v : Int32} (hl : Cond.fieldLink own index "ScopeInterpreterModel" "steps" "I" ∈ gw) (hd : decode cc pc = .ok (.putfield index, 3)) (hp : pc + 3 = n) (k : J Γ (qm_w (gK Γ)) qcl Qf X (qm_s_steps σ v) n lv st) : J Γ (qm_w (gK Γ)) qcl Qf X σ pc lv (.int v :: .ref (kq (gK Γ) 18) :: st) := j_put C qm_in qm_ty qm_tyok qm_nm 0 rfl rfl 16 (by decide) rfl (ty := .int) (by decide +kernel) rfl rfl (Nat.le_of_ble_eq_true rfl) rfl hl hd hp k
theorem qm_r_mostFrames (C : cx_C Γ (qm_w (gK Γ)) qcl own cc nL ret rm) {x : Int32} (hl : Cond.fieldLink own index "ScopeInterpreterModel" "mostFrames" "I" ∈ gw) (hd : decode cc pc = .ok (.getfield index, 3)) (hp : pc + 3 = n) (hx : qm_g_mostFrames σ = x) (k : J Γ (qm_w (gK Γ)) qcl Qf X σ n lv (.int x :: st)) : J Γ (qm_w (gK Γ)) qcl Qf X σ pc lv (.ref (kq (gK Γ) 18) :: st) := j_get C qm_in 0 rfl rfl 17 (by decide) (by rw [← hx]; rfl) hl hd hp k
theorem qm_p_mostFrames (C : cx_C Γ (qm_w (gK Γ)) qcl own cc nL ret rm) {v : Int32} (hl : Cond.fieldLink own index "ScopeInterpreterModel" "mostFrames" "I" ∈ gw) (hd : decode cc pc = .ok (.putfield index, 3)) (hp : pc + 3 = n) (k : J Γ (qm_w (gK Γ)) qcl Qf X (qm_s_mostFrames σ v) n lv st) : J Γ (qm_w (gK Γ)) qcl Qf X σ pc lv (.int v :: .ref (kq (gK Γ) 18) :: st) := j_put C qm_in qm_ty qm_tyok qm_nm 0 rfl rfl 17 (by decide) rfl (ty := .int) (by decide +kernel) rfl rfl (Nat.le_of_ble_eq_true rfl) rfl hl hd hp k
theorem qm_r_mode (C : cx_C Γ (qm_w (gK Γ)) qcl own cc nL ret rm) {x : Int32} (hl : Cond.fieldLink own index "ScopeInterpreterModel" "mode" "I" ∈ gw) (hd : decode cc pc = .ok (.getfield index, 3)) (hp : pc + 3 = n) (hx : qm_g_mode σ = x) (k : J Γ (qm_w (gK Γ)) qcl Qf X σ n lv (.int x :: st)) : J Γ (qm_w (gK Γ)) qcl Qf X σ pc lv (.ref (kq (gK Γ) 18) :: st) := j_get C qm_in 0 rfl rfl 18 (by decide) (by rw [← hx]; rfl) hl hd hp k
theorem qm_p_mode (C : cx_C Γ (qm_w (gK Γ)) qcl own cc nL ret rm) {v : Int32} (hl : Cond.fieldLink own index "ScopeInterpreterModel" "mode" "I" ∈ gw) (hd : decode cc pc = .ok (.putfield index, 3)) (hp : pc + 3 = n) (k : J Γ (qm_w (gK Γ)) qcl Qf X (qm_s_mode σ v) n lv st) : J Γ (qm_w (gK Γ)) qcl Qf X σ pc lv (.int v :: .ref (kq (gK Γ) 18) :: st) := j_put C qm_in qm_ty qm_tyok qm_nm 0 rfl rfl 18 (by decide) rfl (ty := .int) (by decide +kernel) rfl rfl (Nat.le_of_ble_eq_true rfl) rfl hl hd hp k
theorem qm_r_now (C : cx_C Γ (qm_w (gK Γ)) qcl own cc nL ret rm) {x : Int64} (hl : Cond.fieldLink own index "ScopeInterpreterModel" "now" "J" ∈ gw) (hd : decode cc pc = .ok (.getfield index, 3)) (hp : pc + 3 = n) (hx : qm_g_now σ = x) (k : J Γ (qm_w (gK Γ)) qcl Qf X σ n lv (.long x :: st)) : J Γ (qm_w (gK Γ)) qcl Qf X σ pc lv (.ref (kq (gK Γ) 18) :: st) := j_get C qm_in 0 rfl rfl 19 (by decide) (by rw [← hx]; rfl) hl hd hp k
theorem qm_p_now (C : cx_C Γ (qm_w (gK Γ)) qcl own cc nL ret rm) {v : Int64} (hl : Cond.fieldLink own index "ScopeInterpreterModel" "now" "J" ∈ gw) (hd : decode cc pc = .ok (.putfield index, 3)) (hp : pc + 3 = n) (k : J Γ (qm_w (gK Γ)) qcl Qf X (qm_s_now σ v) n lv st) : J Γ (qm_w (gK Γ)) qcl Qf X σ pc lv (.long v :: .ref (kq (gK Γ) 18) :: st) := j_put C qm_in qm_ty qm_tyok qm_nm 0 rfl rfl 19 (by decide) rfl (ty := .long) (by decide +kernel) rfl rfl (Nat.le_of_ble_eq_true rfl) rfl hl hd hp k
theorem qm_r_operands (C : cx_C Γ (qm_w (gK Γ)) qcl own cc nL ret rm) {x : Int64} (hl : Cond.fieldLink own index "ScopeInterpreterModel" "operands" "J" ∈ gw) (hd : decode cc pc = .ok (.getfield index, 3)) (hp : pc + 3 = n) (hx : qm_g_operands σ = x) (k : J Γ (qm_w (gK Γ)) qcl Qf X σ n lv (.long x :: st)) : J Γ (qm_w (gK Γ)) qcl Qf X σ pc lv (.ref (kq (gK Γ) 18) :: st) := j_get C qm_in 0 rfl rfl 20 (by decide) (by rw [← hx]; rfl) hl hd hp k
theorem qm_p_operands (C : cx_C Γ (qm_w (gK Γ)) qcl own cc nL ret rm) {v : Int64} (hl : Cond.fieldLink own index "ScopeInterpreterModel" "operands" "J" ∈ gw) (hd : decode cc pc = .ok (.putfield index, 3)) (hp : pc + 3 = n) (k : J Γ (qm_w (gK Γ)) qcl Qf X (qm_s_operands σ v) n lv st) : J Γ (qm_w (gK Γ)) qcl Qf X σ pc lv (.long v :: .ref (kq (gK Γ) 18) :: st) := j_put C qm_in qm_ty qm_tyok qm_nm 0 rfl rfl 20 (by decide) rfl (ty := .long) (by decide +kernel) rfl rfl (Nat.le_of_ble_eq_true rfl) rfl hl hd hp k
theorem qm_r_around (C : cx_C Γ (qm_w (gK Γ)) qcl own cc nL ret rm) {x : Int64} (hl : Cond.fieldLink own index "ScopeInterpreterModel" "around" "J" ∈ gw) (hd : decode cc pc = .ok (.getfield index, 3)) (hp : pc + 3 = n) (hx : qm_g_around σ = x) (k : J Γ (qm_w (gK Γ)) qcl Qf X σ n lv (.long x :: st)) : J Γ (qm_w (gK Γ)) qcl Qf X σ pc lv (.ref (kq (gK Γ) 18) :: st) := j_get C qm_in 0 rfl rfl 21 (by decide) (by rw [← hx]; rfl) hl hd hp k
theorem qm_p_around (C : cx_C Γ (qm_w (gK Γ)) qcl own cc nL ret rm) {v : Int64} (hl : Cond.fieldLink own index "ScopeInterpreterModel" "around" "J" ∈ gw) (hd : decode cc pc = .ok (.putfield index, 3)) (hp : pc + 3 = n) (k : J Γ (qm_w (gK Γ)) qcl Qf X (qm_s_around σ v) n lv st) : J Γ (qm_w (gK Γ)) qcl Qf X σ pc lv (.long v :: .ref (kq (gK Γ) 18) :: st) := j_put C qm_in qm_ty qm_tyok qm_nm 0 rfl rfl 21 (by decide) rfl (ty := .long) (by decide +kernel) rfl rfl (Nat.le_of_ble_eq_true rfl) rfl hl hd hp k
theorem qm_r_frames (C : cx_C Γ (qm_w (gK Γ)) qcl own cc nL ret rm) {x : Int32} (hl : Cond.fieldLink own index "ScopeInterpreterModel" "frames" "I" ∈ gw) (hd : decode cc pc = .ok (.getfield index, 3)) (hp : pc + 3 = n) (hx : qm_g_frames σ = x) (k : J Γ (qm_w (gK Γ)) qcl Qf X σ n lv (.int x :: st)) : J Γ (qm_w (gK Γ)) qcl Qf X σ pc lv (.ref (kq (gK Γ) 18) :: st) := j_get C qm_in 0 rfl rfl 22 (by decide) (by rw [← hx]; rfl) hl hd hp k
theorem qm_p_frames (C : cx_C Γ (qm_w (gK Γ)) qcl own cc nL ret rm) {v : Int32} (hl : Cond.fieldLink own index "ScopeInterpreterModel" "frames" "I" ∈ gw) (hd : decode cc pc = .ok (.putfield index, 3)) (hp : pc + 3 = n) (k : J Γ (qm_w (gK Γ)) qcl Qf X (qm_s_frames σ v) n lv st) : J Γ (qm_w (gK Γ)) qcl Qf X σ pc lv (.int v :: .ref (kq (gK Γ) 18) :: st) := j_put C qm_in qm_ty qm_tyok qm_nm 0 rfl rfl 22 (by decide) rfl (ty := .int) (by decide +kernel) rfl rfl (Nat.le_of_ble_eq_true rfl) rfl hl hd hp k
theorem qm_r_frameKind (C : cx_C Γ (qm_w (gK Γ)) qcl own cc nL ret rm) (hl : Cond.fieldLink own index "ScopeInterpreterModel" "frameKind" "[I" ∈ gw) (hd : decode cc pc = .ok (.getfield index, 3)) (hp : pc + 3 = n) (k : J Γ (qm_w (gK Γ)) qcl Qf X σ n lv (.ref (kq (gK Γ) 29) :: st)) : J Γ (qm_w (gK Γ)) qcl Qf X σ pc lv (.ref (kq (gK Γ) 18) :: st) := j_get C qm_in 0 rfl rfl 23 (by decide) rfl hl hd hp k
theorem qm_r_frameOne (C : cx_C Γ (qm_w (gK Γ)) qcl own cc nL ret rm) (hl : Cond.fieldLink own index "ScopeInterpreterModel" "frameOne" "[J" ∈ gw) (hd : decode cc pc = .ok (.getfield index, 3)) (hp : pc + 3 = n) (k : J Γ (qm_w (gK Γ)) qcl Qf X σ n lv (.ref (kq (gK Γ) 30) :: st)) : J Γ (qm_w (gK Γ)) qcl Qf X σ pc lv (.ref (kq (gK Γ) 18) :: st) := j_get C qm_in 0 rfl rfl 24 (by decide) rfl hl hd hp k
theorem qm_r_frameOther (C : cx_C Γ (qm_w (gK Γ)) qcl own cc nL ret rm) (hl : Cond.fieldLink own index "ScopeInterpreterModel" "frameOther" "[J" ∈ gw) (hd : decode cc pc = .ok (.getfield index, 3)) (hp : pc + 3 = n) (k : J Γ (qm_w (gK Γ)) qcl Qf X σ n lv (.ref (kq (gK Γ) 31) :: st)) : J Γ (qm_w (gK Γ)) qcl Qf X σ pc lv (.ref (kq (gK Γ) 18) :: st) := j_get C qm_in 0 rfl rfl 25 (by decide) rfl hl hd hp k
theorem qm_r_frameAround (C : cx_C Γ (qm_w (gK Γ)) qcl own cc nL ret rm) (hl : Cond.fieldLink own index "ScopeInterpreterModel" "frameAround" "[J" ∈ gw) (hd : decode cc pc = .ok (.getfield index, 3)) (hp : pc + 3 = n) (k : J Γ (qm_w (gK Γ)) qcl Qf X σ n lv (.ref (kq (gK Γ) 32) :: st)) : J Γ (qm_w (gK Γ)) qcl Qf X σ pc lv (.ref (kq (gK Γ) 18) :: st) := j_get C qm_in 0 rfl rfl 26 (by decide) rfl hl hd hp k
theorem qm_r_frameBase (C : cx_C Γ (qm_w (gK Γ)) qcl own cc nL ret rm) (hl : Cond.fieldLink own index "ScopeInterpreterModel" "frameBase" "[I" ∈ gw) (hd : decode cc pc = .ok (.getfield index, 3)) (hp : pc + 3 = n) (k : J Γ (qm_w (gK Γ)) qcl Qf X σ n lv (.ref (kq (gK Γ) 33) :: st)) : J Γ (qm_w (gK Γ)) qcl Qf X σ pc lv (.ref (kq (gK Γ) 18) :: st) := j_get C qm_in 0 rfl rfl 27 (by decide) rfl hl hd hp k
theorem qm_r_results (C : cx_C Γ (qm_w (gK Γ)) qcl own cc nL ret rm) (hl : Cond.fieldLink own index "ScopeInterpreterModel" "results" "[J" ∈ gw) (hd : decode cc pc = .ok (.getfield index, 3)) (hp : pc + 3 = n) (k : J Γ (qm_w (gK Γ)) qcl Qf X σ n lv (.ref (kq (gK Γ) 34) :: st)) : J Γ (qm_w (gK Γ)) qcl Qf X σ pc lv (.ref (kq (gK Γ) 18) :: st) := j_get C qm_in 0 rfl rfl 28 (by decide) rfl hl hd hp k
theorem qm_r_resultMany (C : cx_C Γ (qm_w (gK Γ)) qcl own cc nL ret rm) {x : Int32} (hl : Cond.fieldLink own index "ScopeInterpreterModel" "resultMany" "I" ∈ gw) (hd : decode cc pc = .ok (.getfield index, 3)) (hp : pc + 3 = n) (hx : qm_g_resultMany σ = x) (k : J Γ (qm_w (gK Γ)) qcl Qf X σ n lv (.int x :: st)) : J Γ (qm_w (gK Γ)) qcl Qf X σ pc lv (.ref (kq (gK Γ) 18) :: st) := j_get C qm_in 0 rfl rfl 29 (by decide) (by rw [← hx]; rfl) hl hd hp k
theorem qm_p_resultMany (C : cx_C Γ (qm_w (gK Γ)) qcl own cc nL ret rm) {v : Int32} (hl : Cond.fieldLink own index "ScopeInterpreterModel" "resultMany" "I" ∈ gw) (hd : decode cc pc = .ok (.putfield index, 3)) (hp : pc + 3 = n) (k : J Γ (qm_w (gK Γ)) qcl Qf X (qm_s_resultMany σ v) n lv st) : J Γ (qm_w (gK Γ)) qcl Qf X σ pc lv (.int v :: .ref (kq (gK Γ) 18) :: st) := j_put C qm_in qm_ty qm_tyok qm_nm 0 rfl rfl 29 (by decide) rfl (ty := .int) (by decide +kernel) rfl rfl (Nat.le_of_ble_eq_true rfl) rfl hl hd hp k
theorem qm_r_treeLeft (C : cx_C Γ (qm_w (gK Γ)) qcl own cc nL ret rm) (hl : Cond.fieldLink own index "ScopeInterpreterModel" "treeLeft" "[J" ∈ gw) (hd : decode cc pc = .ok (.getfield index, 3)) (hp : pc + 3 = n) (k : J Γ (qm_w (gK Γ)) qcl Qf X σ n lv (.ref (kq (gK Γ) 35) :: st)) : J Γ (qm_w (gK Γ)) qcl Qf X σ pc lv (.ref (kq (gK Γ) 18) :: st) := j_get C qm_in 0 rfl rfl 30 (by decide) rfl hl hd hp k
theorem qm_r_matchLeft (C : cx_C Γ (qm_w (gK Γ)) qcl own cc nL ret rm) (hl : Cond.fieldLink own index "ScopeInterpreterModel" "matchLeft" "[J" ∈ gw) (hd : decode cc pc = .ok (.getfield index, 3)) (hp : pc + 3 = n) (k : J Γ (qm_w (gK Γ)) qcl Qf X σ n lv (.ref (kq (gK Γ) 36) :: st)) : J Γ (qm_w (gK Γ)) qcl Qf X σ pc lv (.ref (kq (gK Γ) 18) :: st) := j_get C qm_in 0 rfl rfl 31 (by decide) rfl hl hd hp k
theorem qm_r_isSeen (C : cx_C Γ (qm_w (gK Γ)) qcl own cc nL ret rm) (hl : Cond.fieldLink own index "ScopeInterpreterModel" "isSeen" "[Z" ∈ gw) (hd : decode cc pc = .ok (.getfield index, 3)) (hp : pc + 3 = n) (k : J Γ (qm_w (gK Γ)) qcl Qf X σ n lv (.ref (kq (gK Γ) 37) :: st)) : J Γ (qm_w (gK Γ)) qcl Qf X σ pc lv (.ref (kq (gK Γ) 18) :: st) := j_get C qm_in 0 rfl rfl 32 (by decide) rfl hl hd hp k
theorem qm_r_boundSymbol (C : cx_C Γ (qm_w (gK Γ)) qcl own cc nL ret rm) (hl : Cond.fieldLink own index "ScopeInterpreterModel" "boundSymbol" "[I" ∈ gw) (hd : decode cc pc = .ok (.getfield index, 3)) (hp : pc + 3 = n) (k : J Γ (qm_w (gK Γ)) qcl Qf X σ n lv (.ref (kq (gK Γ) 38) :: st)) : J Γ (qm_w (gK Γ)) qcl Qf X σ pc lv (.ref (kq (gK Γ) 18) :: st) := j_get C qm_in 0 rfl rfl 33 (by decide) rfl hl hd hp k
theorem qm_r_boundValue (C : cx_C Γ (qm_w (gK Γ)) qcl own cc nL ret rm) (hl : Cond.fieldLink own index "ScopeInterpreterModel" "boundValue" "[J" ∈ gw) (hd : decode cc pc = .ok (.getfield index, 3)) (hp : pc + 3 = n) (k : J Γ (qm_w (gK Γ)) qcl Qf X σ n lv (.ref (kq (gK Γ) 39) :: st)) : J Γ (qm_w (gK Γ)) qcl Qf X σ pc lv (.ref (kq (gK Γ) 18) :: st) := j_get C qm_in 0 rfl rfl 34 (by decide) rfl hl hd hp k
theorem qm_r_bound (C : cx_C Γ (qm_w (gK Γ)) qcl own cc nL ret rm) {x : Int32} (hl : Cond.fieldLink own index "ScopeInterpreterModel" "bound" "I" ∈ gw) (hd : decode cc pc = .ok (.getfield index, 3)) (hp : pc + 3 = n) (hx : qm_g_bound σ = x) (k : J Γ (qm_w (gK Γ)) qcl Qf X σ n lv (.int x :: st)) : J Γ (qm_w (gK Γ)) qcl Qf X σ pc lv (.ref (kq (gK Γ) 18) :: st) := j_get C qm_in 0 rfl rfl 35 (by decide) (by rw [← hx]; rfl) hl hd hp k
theorem qm_p_bound (C : cx_C Γ (qm_w (gK Γ)) qcl own cc nL ret rm) {v : Int32} (hl : Cond.fieldLink own index "ScopeInterpreterModel" "bound" "I" ∈ gw) (hd : decode cc pc = .ok (.putfield index, 3)) (hp : pc + 3 = n) (k : J Γ (qm_w (gK Γ)) qcl Qf X (qm_s_bound σ v) n lv st) : J Γ (qm_w (gK Γ)) qcl Qf X σ pc lv (.int v :: .ref (kq (gK Γ) 18) :: st) := j_put C qm_in qm_ty qm_tyok qm_nm 0 rfl rfl 35 (by decide) rfl (ty := .int) (by decide +kernel) rfl rfl (Nat.le_of_ble_eq_true rfl) rfl hl hd hp k
theorem qm_l_first (C : cx_C Γ (qm_w (gK Γ)) qcl own cc nL ret rm) {x : Int64} (hin : vp_in i 4000) (hd : decode cc pc = .ok (.laload, 1)) (hp : pc + 1 = n) (hx : qm_g_first σ i.toNatClampNeg = x) (k : J Γ (qm_w (gK Γ)) qcl Qf X σ n lv (.long x :: st)) : J Γ (qm_w (gK Γ)) qcl Qf X σ pc lv (.int i :: .ref (kq (gK Γ) 19) :: st) := j_lald C 1 rfl hin hd hp (by subst hx; exact k)
theorem qm_a_first (C : cx_C Γ (qm_w (gK Γ)) qcl own cc nL ret rm) {v : Int64} (hin : vp_in i 4000) (hd : decode cc pc = .ok (.lastore, 1)) (hp : pc + 1 = n) (k : J Γ (qm_w (gK Γ)) qcl Qf X (qm_t_first σ i v) n lv st) : J Γ (qm_w (gK Γ)) qcl Qf X σ pc lv (.long v :: .int i :: .ref (kq (gK Γ) 19) :: st) := j_last C 1 rfl rfl hin hd hp k
theorem qm_l_second (C : cx_C Γ (qm_w (gK Γ)) qcl own cc nL ret rm) {x : Int64} (hin : vp_in i 4000) (hd : decode cc pc = .ok (.laload, 1)) (hp : pc + 1 = n) (hx : qm_g_second σ i.toNatClampNeg = x) (k : J Γ (qm_w (gK Γ)) qcl Qf X σ n lv (.long x :: st)) : J Γ (qm_w (gK Γ)) qcl Qf X σ pc lv (.int i :: .ref (kq (gK Γ) 20) :: st) := j_lald C 2 rfl hin hd hp (by subst hx; exact k)
theorem qm_a_second (C : cx_C Γ (qm_w (gK Γ)) qcl own cc nL ret rm) {v : Int64} (hin : vp_in i 4000) (hd : decode cc pc = .ok (.lastore, 1)) (hp : pc + 1 = n) (k : J Γ (qm_w (gK Γ)) qcl Qf X (qm_t_second σ i v) n lv st) : J Γ (qm_w (gK Γ)) qcl Qf X σ pc lv (.long v :: .int i :: .ref (kq (gK Γ) 20) :: st) := j_last C 2 rfl rfl hin hd hp k
theorem qm_l_third (C : cx_C Γ (qm_w (gK Γ)) qcl own cc nL ret rm) {x : Int64} (hin : vp_in i 4000) (hd : decode cc pc = .ok (.laload, 1)) (hp : pc + 1 = n) (hx : qm_g_third σ i.toNatClampNeg = x) (k : J Γ (qm_w (gK Γ)) qcl Qf X σ n lv (.long x :: st)) : J Γ (qm_w (gK Γ)) qcl Qf X σ pc lv (.int i :: .ref (kq (gK Γ) 21) :: st) := j_lald C 3 rfl hin hd hp (by subst hx; exact k)
theorem qm_a_third (C : cx_C Γ (qm_w (gK Γ)) qcl own cc nL ret rm) {v : Int64} (hin : vp_in i 4000) (hd : decode cc pc = .ok (.lastore, 1)) (hp : pc + 1 = n) (k : J Γ (qm_w (gK Γ)) qcl Qf X (qm_t_third σ i v) n lv st) : J Γ (qm_w (gK Γ)) qcl Qf X σ pc lv (.long v :: .int i :: .ref (kq (gK Γ) 21) :: st) := j_last C 3 rfl rfl hin hd hp k
theorem qm_l_fourth (C : cx_C Γ (qm_w (gK Γ)) qcl own cc nL ret rm) {x : Int64} (hin : vp_in i 4000) (hd : decode cc pc = .ok (.laload, 1)) (hp : pc + 1 = n) (hx : qm_g_fourth σ i.toNatClampNeg = x) (k : J Γ (qm_w (gK Γ)) qcl Qf X σ n lv (.long x :: st)) : J Γ (qm_w (gK Γ)) qcl Qf X σ pc lv (.int i :: .ref (kq (gK Γ) 22) :: st) := j_lald C 4 rfl hin hd hp (by subst hx; exact k)
theorem qm_a_fourth (C : cx_C Γ (qm_w (gK Γ)) qcl own cc nL ret rm) {v : Int64} (hin : vp_in i 4000) (hd : decode cc pc = .ok (.lastore, 1)) (hp : pc + 1 = n) (k : J Γ (qm_w (gK Γ)) qcl Qf X (qm_t_fourth σ i v) n lv st) : J Γ (qm_w (gK Γ)) qcl Qf X σ pc lv (.long v :: .int i :: .ref (kq (gK Γ) 22) :: st) := j_last C 4 rfl rfl hin hd hp k
theorem qm_l_symbolOf (C : cx_C Γ (qm_w (gK Γ)) qcl own cc nL ret rm) {x : Int32} (hin : vp_in i 4000) (hd : decode cc pc = .ok (.iaload, 1)) (hp : pc + 1 = n) (hx : qm_g_symbolOf σ i.toNatClampNeg = x) (k : J Γ (qm_w (gK Γ)) qcl Qf X σ n lv (.int x :: st)) : J Γ (qm_w (gK Γ)) qcl Qf X σ pc lv (.int i :: .ref (kq (gK Γ) 23) :: st) := j_iald C 5 rfl hin hd hp (by subst hx; exact k)
theorem qm_a_symbolOf (C : cx_C Γ (qm_w (gK Γ)) qcl own cc nL ret rm) {v : Int32} (hin : vp_in i 4000) (hd : decode cc pc = .ok (.iastore, 1)) (hp : pc + 1 = n) (k : J Γ (qm_w (gK Γ)) qcl Qf X (qm_t_symbolOf σ i v) n lv st) : J Γ (qm_w (gK Γ)) qcl Qf X σ pc lv (.int v :: .int i :: .ref (kq (gK Γ) 23) :: st) := j_iast C 5 rfl rfl hin hd hp k
theorem qm_l_nextOf (C : cx_C Γ (qm_w (gK Γ)) qcl own cc nL ret rm) {x : Int32} (hin : vp_in i 4000) (hd : decode cc pc = .ok (.iaload, 1)) (hp : pc + 1 = n) (hx : qm_g_nextOf σ i.toNatClampNeg = x) (k : J Γ (qm_w (gK Γ)) qcl Qf X σ n lv (.int x :: st)) : J Γ (qm_w (gK Γ)) qcl Qf X σ pc lv (.int i :: .ref (kq (gK Γ) 24) :: st) := j_iald C 6 rfl hin hd hp (by subst hx; exact k)
theorem qm_a_nextOf (C : cx_C Γ (qm_w (gK Γ)) qcl own cc nL ret rm) {v : Int32} (hin : vp_in i 4000) (hd : decode cc pc = .ok (.iastore, 1)) (hp : pc + 1 = n) (k : J Γ (qm_w (gK Γ)) qcl Qf X (qm_t_nextOf σ i v) n lv st) : J Γ (qm_w (gK Γ)) qcl Qf X σ pc lv (.int v :: .int i :: .ref (kq (gK Γ) 24) :: st) := j_iast C 6 rfl rfl hin hd hp k
theorem qm_l_headOf (C : cx_C Γ (qm_w (gK Γ)) qcl own cc nL ret rm) {x : Int32} (hin : vp_in i 4002) (hd : decode cc pc = .ok (.iaload, 1)) (hp : pc + 1 = n) (hx : qm_g_headOf σ i.toNatClampNeg = x) (k : J Γ (qm_w (gK Γ)) qcl Qf X σ n lv (.int x :: st)) : J Γ (qm_w (gK Γ)) qcl Qf X σ pc lv (.int i :: .ref (kq (gK Γ) 25) :: st) := j_iald C 7 rfl hin hd hp (by subst hx; exact k)
theorem qm_a_headOf (C : cx_C Γ (qm_w (gK Γ)) qcl own cc nL ret rm) {v : Int32} (hin : vp_in i 4002) (hd : decode cc pc = .ok (.iastore, 1)) (hp : pc + 1 = n) (k : J Γ (qm_w (gK Γ)) qcl Qf X (qm_t_headOf σ i v) n lv st) : J Γ (qm_w (gK Γ)) qcl Qf X σ pc lv (.int v :: .int i :: .ref (kq (gK Γ) 25) :: st) := j_iast C 7 rfl rfl hin hd hp k
theorem qm_l_isGround (C : cx_C Γ (qm_w (gK Γ)) qcl own cc nL ret rm) {x : Int32} (hin : vp_in i 100) (hd : decode cc pc = .ok (.baload, 1)) (hp : pc + 1 = n) (hx : qm_g_isGround σ i.toNatClampNeg = x) (k : J Γ (qm_w (gK Γ)) qcl Qf X σ n lv (.int x :: st)) : J Γ (qm_w (gK Γ)) qcl Qf X σ pc lv (.int i :: .ref (kq (gK Γ) 26) :: st) := j_zald C 8 rfl hin hd hp (by subst hx; exact k)
theorem qm_a_isGround (C : cx_C Γ (qm_w (gK Γ)) qcl own cc nL ret rm) {v : Int32} (hin : vp_in i 100) (hd : decode cc pc = .ok (.bastore, 1)) (hp : pc + 1 = n) (k : J Γ (qm_w (gK Γ)) qcl Qf X (qm_t_isGround σ i v) n lv st) : J Γ (qm_w (gK Γ)) qcl Qf X σ pc lv (.int v :: .int i :: .ref (kq (gK Γ) 26) :: st) := j_zast C 8 rfl rfl hin hd hp k
theorem qm_l_groundValue (C : cx_C Γ (qm_w (gK Γ)) qcl own cc nL ret rm) {x : Int64} (hin : vp_in i 100) (hd : decode cc pc = .ok (.laload, 1)) (hp : pc + 1 = n) (hx : qm_g_groundValue σ i.toNatClampNeg = x) (k : J Γ (qm_w (gK Γ)) qcl Qf X σ n lv (.long x :: st)) : J Γ (qm_w (gK Γ)) qcl Qf X σ pc lv (.int i :: .ref (kq (gK Γ) 27) :: st) := j_lald C 9 rfl hin hd hp (by subst hx; exact k)
theorem qm_a_groundValue (C : cx_C Γ (qm_w (gK Γ)) qcl own cc nL ret rm) {v : Int64} (hin : vp_in i 100) (hd : decode cc pc = .ok (.lastore, 1)) (hp : pc + 1 = n) (k : J Γ (qm_w (gK Γ)) qcl Qf X (qm_t_groundValue σ i v) n lv st) : J Γ (qm_w (gK Γ)) qcl Qf X σ pc lv (.long v :: .int i :: .ref (kq (gK Γ) 27) :: st) := j_last C 9 rfl rfl hin hd hp k
theorem qm_l_stack (C : cx_C Γ (qm_w (gK Γ)) qcl own cc nL ret rm) {x : Int64} (hin : vp_in i 40) (hd : decode cc pc = .ok (.laload, 1)) (hp : pc + 1 = n) (hx : qm_g_stack σ i.toNatClampNeg = x) (k : J Γ (qm_w (gK Γ)) qcl Qf X σ n lv (.long x :: st)) : J Γ (qm_w (gK Γ)) qcl Qf X σ pc lv (.int i :: .ref (kq (gK Γ) 28) :: st) := j_lald C 10 rfl hin hd hp (by subst hx; exact k)
theorem qm_a_stack (C : cx_C Γ (qm_w (gK Γ)) qcl own cc nL ret rm) {v : Int64} (hin : vp_in i 40) (hd : decode cc pc = .ok (.lastore, 1)) (hp : pc + 1 = n) (k : J Γ (qm_w (gK Γ)) qcl Qf X (qm_t_stack σ i v) n lv st) : J Γ (qm_w (gK Γ)) qcl Qf X σ pc lv (.long v :: .int i :: .ref (kq (gK Γ) 28) :: st) := j_last C 10 rfl rfl hin hd hp k
theorem qm_l_frameKind (C : cx_C Γ (qm_w (gK Γ)) qcl own cc nL ret rm) {x : Int32} (hin : vp_in i 300) (hd : decode cc pc = .ok (.iaload, 1)) (hp : pc + 1 = n) (hx : qm_g_frameKind σ i.toNatClampNeg = x) (k : J Γ (qm_w (gK Γ)) qcl Qf X σ n lv (.int x :: st)) : J Γ (qm_w (gK Γ)) qcl Qf X σ pc lv (.int i :: .ref (kq (gK Γ) 29) :: st) := j_iald C 11 rfl hin hd hp (by subst hx; exact k)
theorem qm_a_frameKind (C : cx_C Γ (qm_w (gK Γ)) qcl own cc nL ret rm) {v : Int32} (hin : vp_in i 300) (hd : decode cc pc = .ok (.iastore, 1)) (hp : pc + 1 = n) (k : J Γ (qm_w (gK Γ)) qcl Qf X (qm_t_frameKind σ i v) n lv st) : J Γ (qm_w (gK Γ)) qcl Qf X σ pc lv (.int v :: .int i :: .ref (kq (gK Γ) 29) :: st) := j_iast C 11 rfl rfl hin hd hp k
theorem qm_l_frameOne (C : cx_C Γ (qm_w (gK Γ)) qcl own cc nL ret rm) {x : Int64} (hin : vp_in i 300) (hd : decode cc pc = .ok (.laload, 1)) (hp : pc + 1 = n) (hx : qm_g_frameOne σ i.toNatClampNeg = x) (k : J Γ (qm_w (gK Γ)) qcl Qf X σ n lv (.long x :: st)) : J Γ (qm_w (gK Γ)) qcl Qf X σ pc lv (.int i :: .ref (kq (gK Γ) 30) :: st) := j_lald C 12 rfl hin hd hp (by subst hx; exact k)
theorem qm_a_frameOne (C : cx_C Γ (qm_w (gK Γ)) qcl own cc nL ret rm) {v : Int64} (hin : vp_in i 300) (hd : decode cc pc = .ok (.lastore, 1)) (hp : pc + 1 = n) (k : J Γ (qm_w (gK Γ)) qcl Qf X (qm_t_frameOne σ i v) n lv st) : J Γ (qm_w (gK Γ)) qcl Qf X σ pc lv (.long v :: .int i :: .ref (kq (gK Γ) 30) :: st) := j_last C 12 rfl rfl hin hd hp k
theorem qm_l_frameOther (C : cx_C Γ (qm_w (gK Γ)) qcl own cc nL ret rm) {x : Int64} (hin : vp_in i 300) (hd : decode cc pc = .ok (.laload, 1)) (hp : pc + 1 = n) (hx : qm_g_frameOther σ i.toNatClampNeg = x) (k : J Γ (qm_w (gK Γ)) qcl Qf X σ n lv (.long x :: st)) : J Γ (qm_w (gK Γ)) qcl Qf X σ pc lv (.int i :: .ref (kq (gK Γ) 31) :: st) := j_lald C 13 rfl hin hd hp (by subst hx; exact k)
theorem qm_a_frameOther (C : cx_C Γ (qm_w (gK Γ)) qcl own cc nL ret rm) {v : Int64} (hin : vp_in i 300) (hd : decode cc pc = .ok (.lastore, 1)) (hp : pc + 1 = n) (k : J Γ (qm_w (gK Γ)) qcl Qf X (qm_t_frameOther σ i v) n lv st) : J Γ (qm_w (gK Γ)) qcl Qf X σ pc lv (.long v :: .int i :: .ref (kq (gK Γ) 31) :: st) := j_last C 13 rfl rfl hin hd hp k
theorem qm_l_frameAround (C : cx_C Γ (qm_w (gK Γ)) qcl own cc nL ret rm) {x : Int64} (hin : vp_in i 300) (hd : decode cc pc = .ok (.laload, 1)) (hp : pc + 1 = n) (hx : qm_g_frameAround σ i.toNatClampNeg = x) (k : J Γ (qm_w (gK Γ)) qcl Qf X σ n lv (.long x :: st)) : J Γ (qm_w (gK Γ)) qcl Qf X σ pc lv (.int i :: .ref (kq (gK Γ) 32) :: st) := j_lald C 14 rfl hin hd hp (by subst hx; exact k)
theorem qm_a_frameAround (C : cx_C Γ (qm_w (gK Γ)) qcl own cc nL ret rm) {v : Int64} (hin : vp_in i 300) (hd : decode cc pc = .ok (.lastore, 1)) (hp : pc + 1 = n) (k : J Γ (qm_w (gK Γ)) qcl Qf X (qm_t_frameAround σ i v) n lv st) : J Γ (qm_w (gK Γ)) qcl Qf X σ pc lv (.long v :: .int i :: .ref (kq (gK Γ) 32) :: st) := j_last C 14 rfl rfl hin hd hp k
theorem qm_l_frameBase (C : cx_C Γ (qm_w (gK Γ)) qcl own cc nL ret rm) {x : Int32} (hin : vp_in i 300) (hd : decode cc pc = .ok (.iaload, 1)) (hp : pc + 1 = n) (hx : qm_g_frameBase σ i.toNatClampNeg = x) (k : J Γ (qm_w (gK Γ)) qcl Qf X σ n lv (.int x :: st)) : J Γ (qm_w (gK Γ)) qcl Qf X σ pc lv (.int i :: .ref (kq (gK Γ) 33) :: st) := j_iald C 15 rfl hin hd hp (by subst hx; exact k)
theorem qm_a_frameBase (C : cx_C Γ (qm_w (gK Γ)) qcl own cc nL ret rm) {v : Int32} (hin : vp_in i 300) (hd : decode cc pc = .ok (.iastore, 1)) (hp : pc + 1 = n) (k : J Γ (qm_w (gK Γ)) qcl Qf X (qm_t_frameBase σ i v) n lv st) : J Γ (qm_w (gK Γ)) qcl Qf X σ pc lv (.int v :: .int i :: .ref (kq (gK Γ) 33) :: st) := j_iast C 15 rfl rfl hin hd hp k
theorem qm_l_results (C : cx_C Γ (qm_w (gK Γ)) qcl own cc nL ret rm) {x : Int64} (hin : vp_in i 1501) (hd : decode cc pc = .ok (.laload, 1)) (hp : pc + 1 = n) (hx : qm_g_results σ i.toNatClampNeg = x) (k : J Γ (qm_w (gK Γ)) qcl Qf X σ n lv (.long x :: st)) : J Γ (qm_w (gK Γ)) qcl Qf X σ pc lv (.int i :: .ref (kq (gK Γ) 34) :: st) := j_lald C 16 rfl hin hd hp (by subst hx; exact k)
theorem qm_a_results (C : cx_C Γ (qm_w (gK Γ)) qcl own cc nL ret rm) {v : Int64} (hin : vp_in i 1501) (hd : decode cc pc = .ok (.lastore, 1)) (hp : pc + 1 = n) (k : J Γ (qm_w (gK Γ)) qcl Qf X (qm_t_results σ i v) n lv st) : J Γ (qm_w (gK Γ)) qcl Qf X σ pc lv (.long v :: .int i :: .ref (kq (gK Γ) 34) :: st) := j_last C 16 rfl rfl hin hd hp k
theorem qm_l_treeLeft (C : cx_C Γ (qm_w (gK Γ)) qcl own cc nL ret rm) {x : Int64} (hin : vp_in i 204) (hd : decode cc pc = .ok (.laload, 1)) (hp : pc + 1 = n) (hx : qm_g_treeLeft σ i.toNatClampNeg = x) (k : J Γ (qm_w (gK Γ)) qcl Qf X σ n lv (.long x :: st)) : J Γ (qm_w (gK Γ)) qcl Qf X σ pc lv (.int i :: .ref (kq (gK Γ) 35) :: st) := j_lald C 17 rfl hin hd hp (by subst hx; exact k)
theorem qm_a_treeLeft (C : cx_C Γ (qm_w (gK Γ)) qcl own cc nL ret rm) {v : Int64} (hin : vp_in i 204) (hd : decode cc pc = .ok (.lastore, 1)) (hp : pc + 1 = n) (k : J Γ (qm_w (gK Γ)) qcl Qf X (qm_t_treeLeft σ i v) n lv st) : J Γ (qm_w (gK Γ)) qcl Qf X σ pc lv (.long v :: .int i :: .ref (kq (gK Γ) 35) :: st) := j_last C 17 rfl rfl hin hd hp k
theorem qm_l_matchLeft (C : cx_C Γ (qm_w (gK Γ)) qcl own cc nL ret rm) {x : Int64} (hin : vp_in i 204) (hd : decode cc pc = .ok (.laload, 1)) (hp : pc + 1 = n) (hx : qm_g_matchLeft σ i.toNatClampNeg = x) (k : J Γ (qm_w (gK Γ)) qcl Qf X σ n lv (.long x :: st)) : J Γ (qm_w (gK Γ)) qcl Qf X σ pc lv (.int i :: .ref (kq (gK Γ) 36) :: st) := j_lald C 18 rfl hin hd hp (by subst hx; exact k)
theorem qm_a_matchLeft (C : cx_C Γ (qm_w (gK Γ)) qcl own cc nL ret rm) {v : Int64} (hin : vp_in i 204) (hd : decode cc pc = .ok (.lastore, 1)) (hp : pc + 1 = n) (k : J Γ (qm_w (gK Γ)) qcl Qf X (qm_t_matchLeft σ i v) n lv st) : J Γ (qm_w (gK Γ)) qcl Qf X σ pc lv (.long v :: .int i :: .ref (kq (gK Γ) 36) :: st) := j_last C 18 rfl rfl hin hd hp k
theorem qm_l_isSeen (C : cx_C Γ (qm_w (gK Γ)) qcl own cc nL ret rm) {x : Int32} (hin : vp_in i 100) (hd : decode cc pc = .ok (.baload, 1)) (hp : pc + 1 = n) (hx : qm_g_isSeen σ i.toNatClampNeg = x) (k : J Γ (qm_w (gK Γ)) qcl Qf X σ n lv (.int x :: st)) : J Γ (qm_w (gK Γ)) qcl Qf X σ pc lv (.int i :: .ref (kq (gK Γ) 37) :: st) := j_zald C 19 rfl hin hd hp (by subst hx; exact k)
theorem qm_a_isSeen (C : cx_C Γ (qm_w (gK Γ)) qcl own cc nL ret rm) {v : Int32} (hin : vp_in i 100) (hd : decode cc pc = .ok (.bastore, 1)) (hp : pc + 1 = n) (k : J Γ (qm_w (gK Γ)) qcl Qf X (qm_t_isSeen σ i v) n lv st) : J Γ (qm_w (gK Γ)) qcl Qf X σ pc lv (.int v :: .int i :: .ref (kq (gK Γ) 37) :: st) := j_zast C 19 rfl rfl hin hd hp k
theorem qm_l_boundSymbol (C : cx_C Γ (qm_w (gK Γ)) qcl own cc nL ret rm) {x : Int32} (hin : vp_in i 102) (hd : decode cc pc = .ok (.iaload, 1)) (hp : pc + 1 = n) (hx : qm_g_boundSymbol σ i.toNatClampNeg = x) (k : J Γ (qm_w (gK Γ)) qcl Qf X σ n lv (.int x :: st)) : J Γ (qm_w (gK Γ)) qcl Qf X σ pc lv (.int i :: .ref (kq (gK Γ) 38) :: st) := j_iald C 20 rfl hin hd hp (by subst hx; exact k)
theorem qm_a_boundSymbol (C : cx_C Γ (qm_w (gK Γ)) qcl own cc nL ret rm) {v : Int32} (hin : vp_in i 102) (hd : decode cc pc = .ok (.iastore, 1)) (hp : pc + 1 = n) (k : J Γ (qm_w (gK Γ)) qcl Qf X (qm_t_boundSymbol σ i v) n lv st) : J Γ (qm_w (gK Γ)) qcl Qf X σ pc lv (.int v :: .int i :: .ref (kq (gK Γ) 38) :: st) := j_iast C 20 rfl rfl hin hd hp k
theorem qm_l_boundValue (C : cx_C Γ (qm_w (gK Γ)) qcl own cc nL ret rm) {x : Int64} (hin : vp_in i 102) (hd : decode cc pc = .ok (.laload, 1)) (hp : pc + 1 = n) (hx : qm_g_boundValue σ i.toNatClampNeg = x) (k : J Γ (qm_w (gK Γ)) qcl Qf X σ n lv (.long x :: st)) : J Γ (qm_w (gK Γ)) qcl Qf X σ pc lv (.int i :: .ref (kq (gK Γ) 39) :: st) := j_lald C 21 rfl hin hd hp (by subst hx; exact k)
theorem qm_a_boundValue (C : cx_C Γ (qm_w (gK Γ)) qcl own cc nL ret rm) {v : Int64} (hin : vp_in i 102) (hd : decode cc pc = .ok (.lastore, 1)) (hp : pc + 1 = n) (k : J Γ (qm_w (gK Γ)) qcl Qf X (qm_t_boundValue σ i v) n lv st) : J Γ (qm_w (gK Γ)) qcl Qf X σ pc lv (.long v :: .int i :: .ref (kq (gK Γ) 39) :: st) := j_last C 21 rfl rfl hin hd hp k
end
theorem em_qh_qh (K : kk_T) (σ : qh_S) : qh_w K σ = ([]) ++ (qh_w K σ ++ ([])) := by rw [List.append_nil]; rfl
theorem en_qh_qh (K : kk_T) (σ : qh_S) (v : qh_S) : qh_w K v = ([]) ++ (qh_w K v ++ ([])) := by rw [List.append_nil]; rfl
theorem cv_qh_qh {R : Type} {Γ : cx_T} {own : String} {cc b2 : ByteArray} {nL n2 : Nat} {ret ret2 : Option FieldType} {rm rm2 : Nat × Nat} {Qf : R → qh_S → State → Prop} {X : Option (R × qh_S)} {σ : qh_S} {v : qh_S} {pc n index : Nat} {lv : List (Nat × Value)} {rest As st : List Value} {y : MethodName} {r : Value} (C : cx_C Γ (qh_w (gK Γ)) qcl own cc nL ret rm) (M : MC (gl Γ) y b2 n2 ret2 rm2 (gK Γ) (qh_w (gK Γ)) qcl σ (.ref (kq (gK Γ) 15) :: As) (some r) v) (I : ck_V y b2 n2 ret2 As.length) (hl : Cond.methodLink own index y ∈ gw) (hR : rm2.1 + 1 ≤ rm.1 ∧ 8 + (n2 + 11) + rm2.2 ≤ rm.2) (hd : decode cc pc = .ok (.invokevirtual index, 3)) (hp : pc + 3 = n) (hs : As.reverse ++ .ref (kq (gK Γ) 15) :: rest = st) (hc : some qh_R = some y.cls ∧ (rest.map fun v => v.category).sum ≤ 8) (k : J Γ (qh_w (gK Γ)) qcl Qf X v n lv (r :: rest)) : J Γ (qh_w (gK Γ)) qcl Qf X σ pc lv st := by
  subst hs
  exact j_callV C M I hl hR hd hp (ci := 1) rfl hc.1 (em_qh_qh (gK Γ) σ) (en_qh_qh (gK Γ) σ v) hc.2 k
theorem cv0_qh_qh {R : Type} {Γ : cx_T} {own : String} {cc b2 : ByteArray} {nL n2 : Nat} {ret ret2 : Option FieldType} {rm rm2 : Nat × Nat} {Qf : R → qh_S → State → Prop} {X : Option (R × qh_S)} {σ : qh_S} {v : qh_S} {pc n index : Nat} {lv : List (Nat × Value)} {rest As st : List Value} {y : MethodName} (C : cx_C Γ (qh_w (gK Γ)) qcl own cc nL ret rm) (M : MC (gl Γ) y b2 n2 ret2 rm2 (gK Γ) (qh_w (gK Γ)) qcl σ (.ref (kq (gK Γ) 15) :: As) none v) (I : ck_V y b2 n2 ret2 As.length) (hl : Cond.methodLink own index y ∈ gw) (hR : rm2.1 + 1 ≤ rm.1 ∧ 8 + (n2 + 11) + rm2.2 ≤ rm.2) (hd : decode cc pc = .ok (.invokevirtual index, 3)) (hp : pc + 3 = n) (hs : As.reverse ++ .ref (kq (gK Γ) 15) :: rest = st) (hc : some qh_R = some y.cls ∧ (rest.map fun v => v.category).sum ≤ 8) (k : J Γ (qh_w (gK Γ)) qcl Qf X v n lv rest) : J Γ (qh_w (gK Γ)) qcl Qf X σ pc lv st := by
  subst hs
  exact j_callV C M I hl hR hd hp (ci := 1) rfl hc.1 (em_qh_qh (gK Γ) σ) (en_qh_qh (gK Γ) σ v) hc.2 k
theorem cvr_qh_qh {R : Type} {Γ : cx_T} {own : String} {cc b2 : ByteArray} {nL n2 : Nat} {ret ret2 : Option FieldType} {rm rm2 : Nat × Nat} {Qf : R → qh_S → State → Prop} {X : Option (R × qh_S)} {σ : qh_S} {pc n index : Nat} {lv : List (Nat × Value)} {rest As st : List Value} {y : MethodName} {r : Value} (C : cx_C Γ (qh_w (gK Γ)) qcl own cc nL ret rm) (M : MC (gl Γ) y b2 n2 ret2 rm2 (gK Γ) (qh_w (gK Γ)) qcl σ (.ref (kq (gK Γ) 15) :: As) (some r) σ) (I : ck_V y b2 n2 ret2 As.length) (hl : Cond.methodLink own index y ∈ gw) (hR : rm2.1 + 1 ≤ rm.1 ∧ 8 + (n2 + 11) + rm2.2 ≤ rm.2) (hd : decode cc pc = .ok (.invokevirtual index, 3)) (hp : pc + 3 = n) (hs : As.reverse ++ .ref (kq (gK Γ) 15) :: rest = st) (hc : some qh_R = some y.cls ∧ (rest.map fun v => v.category).sum ≤ 8) (k : J Γ (qh_w (gK Γ)) qcl Qf X σ n lv (r :: rest)) : J Γ (qh_w (gK Γ)) qcl Qf X σ pc lv st := by
  subst hs
  exact j_callV C M I hl hR hd hp (ci := 1) rfl hc.1 (em_qh_qh (gK Γ) σ) (em_qh_qh (gK Γ) σ) hc.2 k
theorem em_qf_qf (K : kk_T) (σ : qf_S) : qf_w K σ = ([]) ++ (qf_w K σ ++ ([])) := by rw [List.append_nil]; rfl
theorem en_qf_qf (K : kk_T) (σ : qf_S) (v : qf_S) : qf_w K v = ([]) ++ (qf_w K v ++ ([])) := by rw [List.append_nil]; rfl
theorem cv_qf_qf {R : Type} {Γ : cx_T} {own : String} {cc b2 : ByteArray} {nL n2 : Nat} {ret ret2 : Option FieldType} {rm rm2 : Nat × Nat} {Qf : R → qf_S → State → Prop} {X : Option (R × qf_S)} {σ : qf_S} {v : qf_S} {pc n index : Nat} {lv : List (Nat × Value)} {rest As st : List Value} {y : MethodName} {r : Value} (C : cx_C Γ (qf_w (gK Γ)) qcl own cc nL ret rm) (M : MC (gl Γ) y b2 n2 ret2 rm2 (gK Γ) (qf_w (gK Γ)) qcl σ (.ref (kq (gK Γ) 9) :: As) (some r) v) (I : ck_V y b2 n2 ret2 As.length) (hl : Cond.methodLink own index y ∈ gw) (hR : rm2.1 + 1 ≤ rm.1 ∧ 8 + (n2 + 11) + rm2.2 ≤ rm.2) (hd : decode cc pc = .ok (.invokevirtual index, 3)) (hp : pc + 3 = n) (hs : As.reverse ++ .ref (kq (gK Γ) 9) :: rest = st) (hc : some qf_R = some y.cls ∧ (rest.map fun v => v.category).sum ≤ 8) (k : J Γ (qf_w (gK Γ)) qcl Qf X v n lv (r :: rest)) : J Γ (qf_w (gK Γ)) qcl Qf X σ pc lv st := by
  subst hs
  exact j_callV C M I hl hR hd hp (ci := 4) rfl hc.1 (em_qf_qf (gK Γ) σ) (en_qf_qf (gK Γ) σ v) hc.2 k
theorem cv0_qf_qf {R : Type} {Γ : cx_T} {own : String} {cc b2 : ByteArray} {nL n2 : Nat} {ret ret2 : Option FieldType} {rm rm2 : Nat × Nat} {Qf : R → qf_S → State → Prop} {X : Option (R × qf_S)} {σ : qf_S} {v : qf_S} {pc n index : Nat} {lv : List (Nat × Value)} {rest As st : List Value} {y : MethodName} (C : cx_C Γ (qf_w (gK Γ)) qcl own cc nL ret rm) (M : MC (gl Γ) y b2 n2 ret2 rm2 (gK Γ) (qf_w (gK Γ)) qcl σ (.ref (kq (gK Γ) 9) :: As) none v) (I : ck_V y b2 n2 ret2 As.length) (hl : Cond.methodLink own index y ∈ gw) (hR : rm2.1 + 1 ≤ rm.1 ∧ 8 + (n2 + 11) + rm2.2 ≤ rm.2) (hd : decode cc pc = .ok (.invokevirtual index, 3)) (hp : pc + 3 = n) (hs : As.reverse ++ .ref (kq (gK Γ) 9) :: rest = st) (hc : some qf_R = some y.cls ∧ (rest.map fun v => v.category).sum ≤ 8) (k : J Γ (qf_w (gK Γ)) qcl Qf X v n lv rest) : J Γ (qf_w (gK Γ)) qcl Qf X σ pc lv st := by
  subst hs
  exact j_callV C M I hl hR hd hp (ci := 4) rfl hc.1 (em_qf_qf (gK Γ) σ) (en_qf_qf (gK Γ) σ v) hc.2 k
theorem cvr_qf_qf {R : Type} {Γ : cx_T} {own : String} {cc b2 : ByteArray} {nL n2 : Nat} {ret ret2 : Option FieldType} {rm rm2 : Nat × Nat} {Qf : R → qf_S → State → Prop} {X : Option (R × qf_S)} {σ : qf_S} {pc n index : Nat} {lv : List (Nat × Value)} {rest As st : List Value} {y : MethodName} {r : Value} (C : cx_C Γ (qf_w (gK Γ)) qcl own cc nL ret rm) (M : MC (gl Γ) y b2 n2 ret2 rm2 (gK Γ) (qf_w (gK Γ)) qcl σ (.ref (kq (gK Γ) 9) :: As) (some r) σ) (I : ck_V y b2 n2 ret2 As.length) (hl : Cond.methodLink own index y ∈ gw) (hR : rm2.1 + 1 ≤ rm.1 ∧ 8 + (n2 + 11) + rm2.2 ≤ rm.2) (hd : decode cc pc = .ok (.invokevirtual index, 3)) (hp : pc + 3 = n) (hs : As.reverse ++ .ref (kq (gK Γ) 9) :: rest = st) (hc : some qf_R = some y.cls ∧ (rest.map fun v => v.category).sum ≤ 8) (k : J Γ (qf_w (gK Γ)) qcl Qf X σ n lv (r :: rest)) : J Γ (qf_w (gK Γ)) qcl Qf X σ pc lv st := by
  subst hs
  exact j_callV C M I hl hR hd hp (ci := 4) rfl hc.1 (em_qf_qf (gK Γ) σ) (em_qf_qf (gK Γ) σ) hc.2 k
theorem em_qt_qt (K : kk_T) (σ : qt_S) : qt_w K σ = ([]) ++ (qt_w K σ ++ ([])) := by rw [List.append_nil]; rfl
theorem en_qt_qt (K : kk_T) (σ : qt_S) (v : qt_S) : qt_w K v = ([]) ++ (qt_w K v ++ ([])) := by rw [List.append_nil]; rfl
theorem cv_qt_qt {R : Type} {Γ : cx_T} {own : String} {cc b2 : ByteArray} {nL n2 : Nat} {ret ret2 : Option FieldType} {rm rm2 : Nat × Nat} {Qf : R → qt_S → State → Prop} {X : Option (R × qt_S)} {σ : qt_S} {v : qt_S} {pc n index : Nat} {lv : List (Nat × Value)} {rest As st : List Value} {y : MethodName} {r : Value} (C : cx_C Γ (qt_w (gK Γ)) qcl own cc nL ret rm) (M : MC (gl Γ) y b2 n2 ret2 rm2 (gK Γ) (qt_w (gK Γ)) qcl σ (.ref (kq (gK Γ) 4) :: As) (some r) v) (I : ck_V y b2 n2 ret2 As.length) (hl : Cond.methodLink own index y ∈ gw) (hR : rm2.1 + 1 ≤ rm.1 ∧ 8 + (n2 + 11) + rm2.2 ≤ rm.2) (hd : decode cc pc = .ok (.invokevirtual index, 3)) (hp : pc + 3 = n) (hs : As.reverse ++ .ref (kq (gK Γ) 4) :: rest = st) (hc : some qt_R = some y.cls ∧ (rest.map fun v => v.category).sum ≤ 8) (k : J Γ (qt_w (gK Γ)) qcl Qf X v n lv (r :: rest)) : J Γ (qt_w (gK Γ)) qcl Qf X σ pc lv st := by
  subst hs
  exact j_callV C M I hl hR hd hp (ci := 3) rfl hc.1 (em_qt_qt (gK Γ) σ) (en_qt_qt (gK Γ) σ v) hc.2 k
theorem cv0_qt_qt {R : Type} {Γ : cx_T} {own : String} {cc b2 : ByteArray} {nL n2 : Nat} {ret ret2 : Option FieldType} {rm rm2 : Nat × Nat} {Qf : R → qt_S → State → Prop} {X : Option (R × qt_S)} {σ : qt_S} {v : qt_S} {pc n index : Nat} {lv : List (Nat × Value)} {rest As st : List Value} {y : MethodName} (C : cx_C Γ (qt_w (gK Γ)) qcl own cc nL ret rm) (M : MC (gl Γ) y b2 n2 ret2 rm2 (gK Γ) (qt_w (gK Γ)) qcl σ (.ref (kq (gK Γ) 4) :: As) none v) (I : ck_V y b2 n2 ret2 As.length) (hl : Cond.methodLink own index y ∈ gw) (hR : rm2.1 + 1 ≤ rm.1 ∧ 8 + (n2 + 11) + rm2.2 ≤ rm.2) (hd : decode cc pc = .ok (.invokevirtual index, 3)) (hp : pc + 3 = n) (hs : As.reverse ++ .ref (kq (gK Γ) 4) :: rest = st) (hc : some qt_R = some y.cls ∧ (rest.map fun v => v.category).sum ≤ 8) (k : J Γ (qt_w (gK Γ)) qcl Qf X v n lv rest) : J Γ (qt_w (gK Γ)) qcl Qf X σ pc lv st := by
  subst hs
  exact j_callV C M I hl hR hd hp (ci := 3) rfl hc.1 (em_qt_qt (gK Γ) σ) (en_qt_qt (gK Γ) σ v) hc.2 k
theorem cvr_qt_qt {R : Type} {Γ : cx_T} {own : String} {cc b2 : ByteArray} {nL n2 : Nat} {ret ret2 : Option FieldType} {rm rm2 : Nat × Nat} {Qf : R → qt_S → State → Prop} {X : Option (R × qt_S)} {σ : qt_S} {pc n index : Nat} {lv : List (Nat × Value)} {rest As st : List Value} {y : MethodName} {r : Value} (C : cx_C Γ (qt_w (gK Γ)) qcl own cc nL ret rm) (M : MC (gl Γ) y b2 n2 ret2 rm2 (gK Γ) (qt_w (gK Γ)) qcl σ (.ref (kq (gK Γ) 4) :: As) (some r) σ) (I : ck_V y b2 n2 ret2 As.length) (hl : Cond.methodLink own index y ∈ gw) (hR : rm2.1 + 1 ≤ rm.1 ∧ 8 + (n2 + 11) + rm2.2 ≤ rm.2) (hd : decode cc pc = .ok (.invokevirtual index, 3)) (hp : pc + 3 = n) (hs : As.reverse ++ .ref (kq (gK Γ) 4) :: rest = st) (hc : some qt_R = some y.cls ∧ (rest.map fun v => v.category).sum ≤ 8) (k : J Γ (qt_w (gK Γ)) qcl Qf X σ n lv (r :: rest)) : J Γ (qt_w (gK Γ)) qcl Qf X σ pc lv st := by
  subst hs
  exact j_callV C M I hl hR hd hp (ci := 3) rfl hc.1 (em_qt_qt (gK Γ) σ) (em_qt_qt (gK Γ) σ) hc.2 k
theorem em_qn_qn (K : kk_T) (σ : qn_S) : qn_w K σ = ([]) ++ (qn_w K σ ++ ([])) := by rw [List.append_nil]; rfl
theorem en_qn_qn (K : kk_T) (σ : qn_S) (v : qn_S) : qn_w K v = ([]) ++ (qn_w K v ++ ([])) := by rw [List.append_nil]; rfl
theorem cv_qn_qn {R : Type} {Γ : cx_T} {own : String} {cc b2 : ByteArray} {nL n2 : Nat} {ret ret2 : Option FieldType} {rm rm2 : Nat × Nat} {Qf : R → qn_S → State → Prop} {X : Option (R × qn_S)} {σ : qn_S} {v : qn_S} {pc n index : Nat} {lv : List (Nat × Value)} {rest As st : List Value} {y : MethodName} {r : Value} (C : cx_C Γ (qn_w (gK Γ)) qcl own cc nL ret rm) (M : MC (gl Γ) y b2 n2 ret2 rm2 (gK Γ) (qn_w (gK Γ)) qcl σ (.ref (kq (gK Γ) 2) :: As) (some r) v) (I : ck_V y b2 n2 ret2 As.length) (hl : Cond.methodLink own index y ∈ gw) (hR : rm2.1 + 1 ≤ rm.1 ∧ 8 + (n2 + 11) + rm2.2 ≤ rm.2) (hd : decode cc pc = .ok (.invokevirtual index, 3)) (hp : pc + 3 = n) (hs : As.reverse ++ .ref (kq (gK Γ) 2) :: rest = st) (hc : some qn_R = some y.cls ∧ (rest.map fun v => v.category).sum ≤ 8) (k : J Γ (qn_w (gK Γ)) qcl Qf X v n lv (r :: rest)) : J Γ (qn_w (gK Γ)) qcl Qf X σ pc lv st := by
  subst hs
  exact j_callV C M I hl hR hd hp (ci := 2) rfl hc.1 (em_qn_qn (gK Γ) σ) (en_qn_qn (gK Γ) σ v) hc.2 k
theorem cv0_qn_qn {R : Type} {Γ : cx_T} {own : String} {cc b2 : ByteArray} {nL n2 : Nat} {ret ret2 : Option FieldType} {rm rm2 : Nat × Nat} {Qf : R → qn_S → State → Prop} {X : Option (R × qn_S)} {σ : qn_S} {v : qn_S} {pc n index : Nat} {lv : List (Nat × Value)} {rest As st : List Value} {y : MethodName} (C : cx_C Γ (qn_w (gK Γ)) qcl own cc nL ret rm) (M : MC (gl Γ) y b2 n2 ret2 rm2 (gK Γ) (qn_w (gK Γ)) qcl σ (.ref (kq (gK Γ) 2) :: As) none v) (I : ck_V y b2 n2 ret2 As.length) (hl : Cond.methodLink own index y ∈ gw) (hR : rm2.1 + 1 ≤ rm.1 ∧ 8 + (n2 + 11) + rm2.2 ≤ rm.2) (hd : decode cc pc = .ok (.invokevirtual index, 3)) (hp : pc + 3 = n) (hs : As.reverse ++ .ref (kq (gK Γ) 2) :: rest = st) (hc : some qn_R = some y.cls ∧ (rest.map fun v => v.category).sum ≤ 8) (k : J Γ (qn_w (gK Γ)) qcl Qf X v n lv rest) : J Γ (qn_w (gK Γ)) qcl Qf X σ pc lv st := by
  subst hs
  exact j_callV C M I hl hR hd hp (ci := 2) rfl hc.1 (em_qn_qn (gK Γ) σ) (en_qn_qn (gK Γ) σ v) hc.2 k
theorem cvr_qn_qn {R : Type} {Γ : cx_T} {own : String} {cc b2 : ByteArray} {nL n2 : Nat} {ret ret2 : Option FieldType} {rm rm2 : Nat × Nat} {Qf : R → qn_S → State → Prop} {X : Option (R × qn_S)} {σ : qn_S} {pc n index : Nat} {lv : List (Nat × Value)} {rest As st : List Value} {y : MethodName} {r : Value} (C : cx_C Γ (qn_w (gK Γ)) qcl own cc nL ret rm) (M : MC (gl Γ) y b2 n2 ret2 rm2 (gK Γ) (qn_w (gK Γ)) qcl σ (.ref (kq (gK Γ) 2) :: As) (some r) σ) (I : ck_V y b2 n2 ret2 As.length) (hl : Cond.methodLink own index y ∈ gw) (hR : rm2.1 + 1 ≤ rm.1 ∧ 8 + (n2 + 11) + rm2.2 ≤ rm.2) (hd : decode cc pc = .ok (.invokevirtual index, 3)) (hp : pc + 3 = n) (hs : As.reverse ++ .ref (kq (gK Γ) 2) :: rest = st) (hc : some qn_R = some y.cls ∧ (rest.map fun v => v.category).sum ≤ 8) (k : J Γ (qn_w (gK Γ)) qcl Qf X σ n lv (r :: rest)) : J Γ (qn_w (gK Γ)) qcl Qf X σ pc lv st := by
  subst hs
  exact j_callV C M I hl hR hd hp (ci := 2) rfl hc.1 (em_qn_qn (gK Γ) σ) (em_qn_qn (gK Γ) σ) hc.2 k
theorem em_qx_qx (K : kk_T) (σ : qx_S) : qx_w K σ = ([]) ++ (qx_w K σ ++ ([])) := by rw [List.append_nil]; rfl
theorem en_qx_qx (K : kk_T) (σ : qx_S) (v : qx_S) : qx_w K v = ([]) ++ (qx_w K v ++ ([])) := by rw [List.append_nil]; rfl
theorem cv_qx_qx {R : Type} {Γ : cx_T} {own : String} {cc b2 : ByteArray} {nL n2 : Nat} {ret ret2 : Option FieldType} {rm rm2 : Nat × Nat} {Qf : R → qx_S → State → Prop} {X : Option (R × qx_S)} {σ : qx_S} {v : qx_S} {pc n index : Nat} {lv : List (Nat × Value)} {rest As st : List Value} {y : MethodName} {r : Value} (C : cx_C Γ (qx_w (gK Γ)) qcl own cc nL ret rm) (M : MC (gl Γ) y b2 n2 ret2 rm2 (gK Γ) (qx_w (gK Γ)) qcl σ (.ref (kq (gK Γ) 0) :: As) (some r) v) (I : ck_V y b2 n2 ret2 As.length) (hl : Cond.methodLink own index y ∈ gw) (hR : rm2.1 + 1 ≤ rm.1 ∧ 8 + (n2 + 11) + rm2.2 ≤ rm.2) (hd : decode cc pc = .ok (.invokevirtual index, 3)) (hp : pc + 3 = n) (hs : As.reverse ++ .ref (kq (gK Γ) 0) :: rest = st) (hc : some qx_R = some y.cls ∧ (rest.map fun v => v.category).sum ≤ 8) (k : J Γ (qx_w (gK Γ)) qcl Qf X v n lv (r :: rest)) : J Γ (qx_w (gK Γ)) qcl Qf X σ pc lv st := by
  subst hs
  exact j_callV C M I hl hR hd hp (ci := 0) rfl hc.1 (em_qx_qx (gK Γ) σ) (en_qx_qx (gK Γ) σ v) hc.2 k
theorem cv0_qx_qx {R : Type} {Γ : cx_T} {own : String} {cc b2 : ByteArray} {nL n2 : Nat} {ret ret2 : Option FieldType} {rm rm2 : Nat × Nat} {Qf : R → qx_S → State → Prop} {X : Option (R × qx_S)} {σ : qx_S} {v : qx_S} {pc n index : Nat} {lv : List (Nat × Value)} {rest As st : List Value} {y : MethodName} (C : cx_C Γ (qx_w (gK Γ)) qcl own cc nL ret rm) (M : MC (gl Γ) y b2 n2 ret2 rm2 (gK Γ) (qx_w (gK Γ)) qcl σ (.ref (kq (gK Γ) 0) :: As) none v) (I : ck_V y b2 n2 ret2 As.length) (hl : Cond.methodLink own index y ∈ gw) (hR : rm2.1 + 1 ≤ rm.1 ∧ 8 + (n2 + 11) + rm2.2 ≤ rm.2) (hd : decode cc pc = .ok (.invokevirtual index, 3)) (hp : pc + 3 = n) (hs : As.reverse ++ .ref (kq (gK Γ) 0) :: rest = st) (hc : some qx_R = some y.cls ∧ (rest.map fun v => v.category).sum ≤ 8) (k : J Γ (qx_w (gK Γ)) qcl Qf X v n lv rest) : J Γ (qx_w (gK Γ)) qcl Qf X σ pc lv st := by
  subst hs
  exact j_callV C M I hl hR hd hp (ci := 0) rfl hc.1 (em_qx_qx (gK Γ) σ) (en_qx_qx (gK Γ) σ v) hc.2 k
theorem cvr_qx_qx {R : Type} {Γ : cx_T} {own : String} {cc b2 : ByteArray} {nL n2 : Nat} {ret ret2 : Option FieldType} {rm rm2 : Nat × Nat} {Qf : R → qx_S → State → Prop} {X : Option (R × qx_S)} {σ : qx_S} {pc n index : Nat} {lv : List (Nat × Value)} {rest As st : List Value} {y : MethodName} {r : Value} (C : cx_C Γ (qx_w (gK Γ)) qcl own cc nL ret rm) (M : MC (gl Γ) y b2 n2 ret2 rm2 (gK Γ) (qx_w (gK Γ)) qcl σ (.ref (kq (gK Γ) 0) :: As) (some r) σ) (I : ck_V y b2 n2 ret2 As.length) (hl : Cond.methodLink own index y ∈ gw) (hR : rm2.1 + 1 ≤ rm.1 ∧ 8 + (n2 + 11) + rm2.2 ≤ rm.2) (hd : decode cc pc = .ok (.invokevirtual index, 3)) (hp : pc + 3 = n) (hs : As.reverse ++ .ref (kq (gK Γ) 0) :: rest = st) (hc : some qx_R = some y.cls ∧ (rest.map fun v => v.category).sum ≤ 8) (k : J Γ (qx_w (gK Γ)) qcl Qf X σ n lv (r :: rest)) : J Γ (qx_w (gK Γ)) qcl Qf X σ pc lv st := by
  subst hs
  exact j_callV C M I hl hR hd hp (ci := 0) rfl hc.1 (em_qx_qx (gK Γ) σ) (em_qx_qx (gK Γ) σ) hc.2 k
theorem em_qm_qm (K : kk_T) (σ : qm_S) : qm_w K σ = ([]) ++ (qm_w K σ ++ ([])) := by rw [List.append_nil]; rfl
theorem en_qm_qm (K : kk_T) (σ : qm_S) (v : qm_S) : qm_w K v = ([]) ++ (qm_w K v ++ ([])) := by rw [List.append_nil]; rfl
theorem cv_qm_qm {R : Type} {Γ : cx_T} {own : String} {cc b2 : ByteArray} {nL n2 : Nat} {ret ret2 : Option FieldType} {rm rm2 : Nat × Nat} {Qf : R → qm_S → State → Prop} {X : Option (R × qm_S)} {σ : qm_S} {v : qm_S} {pc n index : Nat} {lv : List (Nat × Value)} {rest As st : List Value} {y : MethodName} {r : Value} (C : cx_C Γ (qm_w (gK Γ)) qcl own cc nL ret rm) (M : MC (gl Γ) y b2 n2 ret2 rm2 (gK Γ) (qm_w (gK Γ)) qcl σ (.ref (kq (gK Γ) 18) :: As) (some r) v) (I : ck_V y b2 n2 ret2 As.length) (hl : Cond.methodLink own index y ∈ gw) (hR : rm2.1 + 1 ≤ rm.1 ∧ 8 + (n2 + 11) + rm2.2 ≤ rm.2) (hd : decode cc pc = .ok (.invokevirtual index, 3)) (hp : pc + 3 = n) (hs : As.reverse ++ .ref (kq (gK Γ) 18) :: rest = st) (hc : some qm_R = some y.cls ∧ (rest.map fun v => v.category).sum ≤ 8) (k : J Γ (qm_w (gK Γ)) qcl Qf X v n lv (r :: rest)) : J Γ (qm_w (gK Γ)) qcl Qf X σ pc lv st := by
  subst hs
  exact j_callV C M I hl hR hd hp (ci := 5) rfl hc.1 (em_qm_qm (gK Γ) σ) (en_qm_qm (gK Γ) σ v) hc.2 k
theorem cv0_qm_qm {R : Type} {Γ : cx_T} {own : String} {cc b2 : ByteArray} {nL n2 : Nat} {ret ret2 : Option FieldType} {rm rm2 : Nat × Nat} {Qf : R → qm_S → State → Prop} {X : Option (R × qm_S)} {σ : qm_S} {v : qm_S} {pc n index : Nat} {lv : List (Nat × Value)} {rest As st : List Value} {y : MethodName} (C : cx_C Γ (qm_w (gK Γ)) qcl own cc nL ret rm) (M : MC (gl Γ) y b2 n2 ret2 rm2 (gK Γ) (qm_w (gK Γ)) qcl σ (.ref (kq (gK Γ) 18) :: As) none v) (I : ck_V y b2 n2 ret2 As.length) (hl : Cond.methodLink own index y ∈ gw) (hR : rm2.1 + 1 ≤ rm.1 ∧ 8 + (n2 + 11) + rm2.2 ≤ rm.2) (hd : decode cc pc = .ok (.invokevirtual index, 3)) (hp : pc + 3 = n) (hs : As.reverse ++ .ref (kq (gK Γ) 18) :: rest = st) (hc : some qm_R = some y.cls ∧ (rest.map fun v => v.category).sum ≤ 8) (k : J Γ (qm_w (gK Γ)) qcl Qf X v n lv rest) : J Γ (qm_w (gK Γ)) qcl Qf X σ pc lv st := by
  subst hs
  exact j_callV C M I hl hR hd hp (ci := 5) rfl hc.1 (em_qm_qm (gK Γ) σ) (en_qm_qm (gK Γ) σ v) hc.2 k
theorem cvr_qm_qm {R : Type} {Γ : cx_T} {own : String} {cc b2 : ByteArray} {nL n2 : Nat} {ret ret2 : Option FieldType} {rm rm2 : Nat × Nat} {Qf : R → qm_S → State → Prop} {X : Option (R × qm_S)} {σ : qm_S} {pc n index : Nat} {lv : List (Nat × Value)} {rest As st : List Value} {y : MethodName} {r : Value} (C : cx_C Γ (qm_w (gK Γ)) qcl own cc nL ret rm) (M : MC (gl Γ) y b2 n2 ret2 rm2 (gK Γ) (qm_w (gK Γ)) qcl σ (.ref (kq (gK Γ) 18) :: As) (some r) σ) (I : ck_V y b2 n2 ret2 As.length) (hl : Cond.methodLink own index y ∈ gw) (hR : rm2.1 + 1 ≤ rm.1 ∧ 8 + (n2 + 11) + rm2.2 ≤ rm.2) (hd : decode cc pc = .ok (.invokevirtual index, 3)) (hp : pc + 3 = n) (hs : As.reverse ++ .ref (kq (gK Γ) 18) :: rest = st) (hc : some qm_R = some y.cls ∧ (rest.map fun v => v.category).sum ≤ 8) (k : J Γ (qm_w (gK Γ)) qcl Qf X σ n lv (r :: rest)) : J Γ (qm_w (gK Γ)) qcl Qf X σ pc lv st := by
  subst hs
  exact j_callV C M I hl hR hd hp (ci := 5) rfl hc.1 (em_qm_qm (gK Γ) σ) (em_qm_qm (gK Γ) σ) hc.2 k
theorem em_qt_qh (K : kk_T) (σ : qt_S) : qt_w K σ = (qt_own K σ) ++ (qh_w K (qt_gH σ) ++ ([])) := by simp only [qt_w, List.append_assoc, List.append_nil, List.nil_append]; try rfl
theorem en_qt_qh (K : kk_T) (σ : qt_S) (v : qh_S) : qt_w K (qt_sH σ v) = (qt_own K σ) ++ (qh_w K v ++ ([])) := em_qt_qh K (qt_sH σ v)
theorem cv_qt_qh {R : Type} {Γ : cx_T} {own : String} {cc b2 : ByteArray} {nL n2 : Nat} {ret ret2 : Option FieldType} {rm rm2 : Nat × Nat} {Qf : R → qt_S → State → Prop} {X : Option (R × qt_S)} {σ : qt_S} {v : qh_S} {pc n index : Nat} {lv : List (Nat × Value)} {rest As st : List Value} {y : MethodName} {r : Value} (C : cx_C Γ (qt_w (gK Γ)) qcl own cc nL ret rm) (M : MC (gl Γ) y b2 n2 ret2 rm2 (gK Γ) (qh_w (gK Γ)) qcl (qt_gH σ) (.ref (kq (gK Γ) 15) :: As) (some r) v) (I : ck_V y b2 n2 ret2 As.length) (hl : Cond.methodLink own index y ∈ gw) (hR : rm2.1 + 1 ≤ rm.1 ∧ 8 + (n2 + 11) + rm2.2 ≤ rm.2) (hd : decode cc pc = .ok (.invokevirtual index, 3)) (hp : pc + 3 = n) (hs : As.reverse ++ .ref (kq (gK Γ) 15) :: rest = st) (hc : some qh_R = some y.cls ∧ (rest.map fun v => v.category).sum ≤ 8) (k : J Γ (qt_w (gK Γ)) qcl Qf X (qt_sH σ v) n lv (r :: rest)) : J Γ (qt_w (gK Γ)) qcl Qf X σ pc lv st := by
  subst hs
  exact j_callV C M I hl hR hd hp (ci := 1) rfl hc.1 (em_qt_qh (gK Γ) σ) (en_qt_qh (gK Γ) σ v) hc.2 k
theorem cv0_qt_qh {R : Type} {Γ : cx_T} {own : String} {cc b2 : ByteArray} {nL n2 : Nat} {ret ret2 : Option FieldType} {rm rm2 : Nat × Nat} {Qf : R → qt_S → State → Prop} {X : Option (R × qt_S)} {σ : qt_S} {v : qh_S} {pc n index : Nat} {lv : List (Nat × Value)} {rest As st : List Value} {y : MethodName} (C : cx_C Γ (qt_w (gK Γ)) qcl own cc nL ret rm) (M : MC (gl Γ) y b2 n2 ret2 rm2 (gK Γ) (qh_w (gK Γ)) qcl (qt_gH σ) (.ref (kq (gK Γ) 15) :: As) none v) (I : ck_V y b2 n2 ret2 As.length) (hl : Cond.methodLink own index y ∈ gw) (hR : rm2.1 + 1 ≤ rm.1 ∧ 8 + (n2 + 11) + rm2.2 ≤ rm.2) (hd : decode cc pc = .ok (.invokevirtual index, 3)) (hp : pc + 3 = n) (hs : As.reverse ++ .ref (kq (gK Γ) 15) :: rest = st) (hc : some qh_R = some y.cls ∧ (rest.map fun v => v.category).sum ≤ 8) (k : J Γ (qt_w (gK Γ)) qcl Qf X (qt_sH σ v) n lv rest) : J Γ (qt_w (gK Γ)) qcl Qf X σ pc lv st := by
  subst hs
  exact j_callV C M I hl hR hd hp (ci := 1) rfl hc.1 (em_qt_qh (gK Γ) σ) (en_qt_qh (gK Γ) σ v) hc.2 k
theorem cvr_qt_qh {R : Type} {Γ : cx_T} {own : String} {cc b2 : ByteArray} {nL n2 : Nat} {ret ret2 : Option FieldType} {rm rm2 : Nat × Nat} {Qf : R → qt_S → State → Prop} {X : Option (R × qt_S)} {σ : qt_S} {pc n index : Nat} {lv : List (Nat × Value)} {rest As st : List Value} {y : MethodName} {r : Value} (C : cx_C Γ (qt_w (gK Γ)) qcl own cc nL ret rm) (M : MC (gl Γ) y b2 n2 ret2 rm2 (gK Γ) (qh_w (gK Γ)) qcl (qt_gH σ) (.ref (kq (gK Γ) 15) :: As) (some r) (qt_gH σ)) (I : ck_V y b2 n2 ret2 As.length) (hl : Cond.methodLink own index y ∈ gw) (hR : rm2.1 + 1 ≤ rm.1 ∧ 8 + (n2 + 11) + rm2.2 ≤ rm.2) (hd : decode cc pc = .ok (.invokevirtual index, 3)) (hp : pc + 3 = n) (hs : As.reverse ++ .ref (kq (gK Γ) 15) :: rest = st) (hc : some qh_R = some y.cls ∧ (rest.map fun v => v.category).sum ≤ 8) (k : J Γ (qt_w (gK Γ)) qcl Qf X σ n lv (r :: rest)) : J Γ (qt_w (gK Γ)) qcl Qf X σ pc lv st := by
  subst hs
  exact j_callV C M I hl hR hd hp (ci := 1) rfl hc.1 (em_qt_qh (gK Γ) σ) (em_qt_qh (gK Γ) σ) hc.2 k
theorem em_qn_qf (K : kk_T) (σ : qn_S) : qn_w K σ = (qn_own K σ) ++ (qf_w K (qn_gF σ) ++ (qt_w K (qn_gT σ))) := by simp only [qn_w, qt_w, List.append_assoc, List.append_nil, List.nil_append]; try rfl
theorem en_qn_qf (K : kk_T) (σ : qn_S) (v : qf_S) : qn_w K (qn_sF σ v) = (qn_own K σ) ++ (qf_w K v ++ (qt_w K (qn_gT σ))) := em_qn_qf K (qn_sF σ v)
theorem cv_qn_qf {R : Type} {Γ : cx_T} {own : String} {cc b2 : ByteArray} {nL n2 : Nat} {ret ret2 : Option FieldType} {rm rm2 : Nat × Nat} {Qf : R → qn_S → State → Prop} {X : Option (R × qn_S)} {σ : qn_S} {v : qf_S} {pc n index : Nat} {lv : List (Nat × Value)} {rest As st : List Value} {y : MethodName} {r : Value} (C : cx_C Γ (qn_w (gK Γ)) qcl own cc nL ret rm) (M : MC (gl Γ) y b2 n2 ret2 rm2 (gK Γ) (qf_w (gK Γ)) qcl (qn_gF σ) (.ref (kq (gK Γ) 9) :: As) (some r) v) (I : ck_V y b2 n2 ret2 As.length) (hl : Cond.methodLink own index y ∈ gw) (hR : rm2.1 + 1 ≤ rm.1 ∧ 8 + (n2 + 11) + rm2.2 ≤ rm.2) (hd : decode cc pc = .ok (.invokevirtual index, 3)) (hp : pc + 3 = n) (hs : As.reverse ++ .ref (kq (gK Γ) 9) :: rest = st) (hc : some qf_R = some y.cls ∧ (rest.map fun v => v.category).sum ≤ 8) (k : J Γ (qn_w (gK Γ)) qcl Qf X (qn_sF σ v) n lv (r :: rest)) : J Γ (qn_w (gK Γ)) qcl Qf X σ pc lv st := by
  subst hs
  exact j_callV C M I hl hR hd hp (ci := 4) rfl hc.1 (em_qn_qf (gK Γ) σ) (en_qn_qf (gK Γ) σ v) hc.2 k
theorem cv0_qn_qf {R : Type} {Γ : cx_T} {own : String} {cc b2 : ByteArray} {nL n2 : Nat} {ret ret2 : Option FieldType} {rm rm2 : Nat × Nat} {Qf : R → qn_S → State → Prop} {X : Option (R × qn_S)} {σ : qn_S} {v : qf_S} {pc n index : Nat} {lv : List (Nat × Value)} {rest As st : List Value} {y : MethodName} (C : cx_C Γ (qn_w (gK Γ)) qcl own cc nL ret rm) (M : MC (gl Γ) y b2 n2 ret2 rm2 (gK Γ) (qf_w (gK Γ)) qcl (qn_gF σ) (.ref (kq (gK Γ) 9) :: As) none v) (I : ck_V y b2 n2 ret2 As.length) (hl : Cond.methodLink own index y ∈ gw) (hR : rm2.1 + 1 ≤ rm.1 ∧ 8 + (n2 + 11) + rm2.2 ≤ rm.2) (hd : decode cc pc = .ok (.invokevirtual index, 3)) (hp : pc + 3 = n) (hs : As.reverse ++ .ref (kq (gK Γ) 9) :: rest = st) (hc : some qf_R = some y.cls ∧ (rest.map fun v => v.category).sum ≤ 8) (k : J Γ (qn_w (gK Γ)) qcl Qf X (qn_sF σ v) n lv rest) : J Γ (qn_w (gK Γ)) qcl Qf X σ pc lv st := by
  subst hs
  exact j_callV C M I hl hR hd hp (ci := 4) rfl hc.1 (em_qn_qf (gK Γ) σ) (en_qn_qf (gK Γ) σ v) hc.2 k
theorem cvr_qn_qf {R : Type} {Γ : cx_T} {own : String} {cc b2 : ByteArray} {nL n2 : Nat} {ret ret2 : Option FieldType} {rm rm2 : Nat × Nat} {Qf : R → qn_S → State → Prop} {X : Option (R × qn_S)} {σ : qn_S} {pc n index : Nat} {lv : List (Nat × Value)} {rest As st : List Value} {y : MethodName} {r : Value} (C : cx_C Γ (qn_w (gK Γ)) qcl own cc nL ret rm) (M : MC (gl Γ) y b2 n2 ret2 rm2 (gK Γ) (qf_w (gK Γ)) qcl (qn_gF σ) (.ref (kq (gK Γ) 9) :: As) (some r) (qn_gF σ)) (I : ck_V y b2 n2 ret2 As.length) (hl : Cond.methodLink own index y ∈ gw) (hR : rm2.1 + 1 ≤ rm.1 ∧ 8 + (n2 + 11) + rm2.2 ≤ rm.2) (hd : decode cc pc = .ok (.invokevirtual index, 3)) (hp : pc + 3 = n) (hs : As.reverse ++ .ref (kq (gK Γ) 9) :: rest = st) (hc : some qf_R = some y.cls ∧ (rest.map fun v => v.category).sum ≤ 8) (k : J Γ (qn_w (gK Γ)) qcl Qf X σ n lv (r :: rest)) : J Γ (qn_w (gK Γ)) qcl Qf X σ pc lv st := by
  subst hs
  exact j_callV C M I hl hR hd hp (ci := 4) rfl hc.1 (em_qn_qf (gK Γ) σ) (em_qn_qf (gK Γ) σ) hc.2 k
theorem em_qn_qt (K : kk_T) (σ : qn_S) : qn_w K σ = (qn_own K σ ++ qf_w K (qn_gF σ)) ++ (qt_w K (qn_gT σ) ++ ([])) := by simp only [qn_w, qt_w, List.append_assoc, List.append_nil, List.nil_append]; try rfl
theorem en_qn_qt (K : kk_T) (σ : qn_S) (v : qt_S) : qn_w K (qn_sT σ v) = (qn_own K σ ++ qf_w K (qn_gF σ)) ++ (qt_w K v ++ ([])) := em_qn_qt K (qn_sT σ v)
theorem cv_qn_qt {R : Type} {Γ : cx_T} {own : String} {cc b2 : ByteArray} {nL n2 : Nat} {ret ret2 : Option FieldType} {rm rm2 : Nat × Nat} {Qf : R → qn_S → State → Prop} {X : Option (R × qn_S)} {σ : qn_S} {v : qt_S} {pc n index : Nat} {lv : List (Nat × Value)} {rest As st : List Value} {y : MethodName} {r : Value} (C : cx_C Γ (qn_w (gK Γ)) qcl own cc nL ret rm) (M : MC (gl Γ) y b2 n2 ret2 rm2 (gK Γ) (qt_w (gK Γ)) qcl (qn_gT σ) (.ref (kq (gK Γ) 4) :: As) (some r) v) (I : ck_V y b2 n2 ret2 As.length) (hl : Cond.methodLink own index y ∈ gw) (hR : rm2.1 + 1 ≤ rm.1 ∧ 8 + (n2 + 11) + rm2.2 ≤ rm.2) (hd : decode cc pc = .ok (.invokevirtual index, 3)) (hp : pc + 3 = n) (hs : As.reverse ++ .ref (kq (gK Γ) 4) :: rest = st) (hc : some qt_R = some y.cls ∧ (rest.map fun v => v.category).sum ≤ 8) (k : J Γ (qn_w (gK Γ)) qcl Qf X (qn_sT σ v) n lv (r :: rest)) : J Γ (qn_w (gK Γ)) qcl Qf X σ pc lv st := by
  subst hs
  exact j_callV C M I hl hR hd hp (ci := 3) rfl hc.1 (em_qn_qt (gK Γ) σ) (en_qn_qt (gK Γ) σ v) hc.2 k
theorem cv0_qn_qt {R : Type} {Γ : cx_T} {own : String} {cc b2 : ByteArray} {nL n2 : Nat} {ret ret2 : Option FieldType} {rm rm2 : Nat × Nat} {Qf : R → qn_S → State → Prop} {X : Option (R × qn_S)} {σ : qn_S} {v : qt_S} {pc n index : Nat} {lv : List (Nat × Value)} {rest As st : List Value} {y : MethodName} (C : cx_C Γ (qn_w (gK Γ)) qcl own cc nL ret rm) (M : MC (gl Γ) y b2 n2 ret2 rm2 (gK Γ) (qt_w (gK Γ)) qcl (qn_gT σ) (.ref (kq (gK Γ) 4) :: As) none v) (I : ck_V y b2 n2 ret2 As.length) (hl : Cond.methodLink own index y ∈ gw) (hR : rm2.1 + 1 ≤ rm.1 ∧ 8 + (n2 + 11) + rm2.2 ≤ rm.2) (hd : decode cc pc = .ok (.invokevirtual index, 3)) (hp : pc + 3 = n) (hs : As.reverse ++ .ref (kq (gK Γ) 4) :: rest = st) (hc : some qt_R = some y.cls ∧ (rest.map fun v => v.category).sum ≤ 8) (k : J Γ (qn_w (gK Γ)) qcl Qf X (qn_sT σ v) n lv rest) : J Γ (qn_w (gK Γ)) qcl Qf X σ pc lv st := by
  subst hs
  exact j_callV C M I hl hR hd hp (ci := 3) rfl hc.1 (em_qn_qt (gK Γ) σ) (en_qn_qt (gK Γ) σ v) hc.2 k
theorem cvr_qn_qt {R : Type} {Γ : cx_T} {own : String} {cc b2 : ByteArray} {nL n2 : Nat} {ret ret2 : Option FieldType} {rm rm2 : Nat × Nat} {Qf : R → qn_S → State → Prop} {X : Option (R × qn_S)} {σ : qn_S} {pc n index : Nat} {lv : List (Nat × Value)} {rest As st : List Value} {y : MethodName} {r : Value} (C : cx_C Γ (qn_w (gK Γ)) qcl own cc nL ret rm) (M : MC (gl Γ) y b2 n2 ret2 rm2 (gK Γ) (qt_w (gK Γ)) qcl (qn_gT σ) (.ref (kq (gK Γ) 4) :: As) (some r) (qn_gT σ)) (I : ck_V y b2 n2 ret2 As.length) (hl : Cond.methodLink own index y ∈ gw) (hR : rm2.1 + 1 ≤ rm.1 ∧ 8 + (n2 + 11) + rm2.2 ≤ rm.2) (hd : decode cc pc = .ok (.invokevirtual index, 3)) (hp : pc + 3 = n) (hs : As.reverse ++ .ref (kq (gK Γ) 4) :: rest = st) (hc : some qt_R = some y.cls ∧ (rest.map fun v => v.category).sum ≤ 8) (k : J Γ (qn_w (gK Γ)) qcl Qf X σ n lv (r :: rest)) : J Γ (qn_w (gK Γ)) qcl Qf X σ pc lv st := by
  subst hs
  exact j_callV C M I hl hR hd hp (ci := 3) rfl hc.1 (em_qn_qt (gK Γ) σ) (em_qn_qt (gK Γ) σ) hc.2 k
theorem em_qn_qh (K : kk_T) (σ : qn_S) : qn_w K σ = (qn_own K σ ++ qf_w K (qn_gF σ) ++ qt_own K (qn_gT σ)) ++ (qh_w K (qn_gH σ) ++ ([])) := by simp only [qn_w, qt_w, List.append_assoc, List.append_nil, List.nil_append]; try rfl
theorem en_qn_qh (K : kk_T) (σ : qn_S) (v : qh_S) : qn_w K (qn_sH σ v) = (qn_own K σ ++ qf_w K (qn_gF σ) ++ qt_own K (qn_gT σ)) ++ (qh_w K v ++ ([])) := em_qn_qh K (qn_sH σ v)
theorem cv_qn_qh {R : Type} {Γ : cx_T} {own : String} {cc b2 : ByteArray} {nL n2 : Nat} {ret ret2 : Option FieldType} {rm rm2 : Nat × Nat} {Qf : R → qn_S → State → Prop} {X : Option (R × qn_S)} {σ : qn_S} {v : qh_S} {pc n index : Nat} {lv : List (Nat × Value)} {rest As st : List Value} {y : MethodName} {r : Value} (C : cx_C Γ (qn_w (gK Γ)) qcl own cc nL ret rm) (M : MC (gl Γ) y b2 n2 ret2 rm2 (gK Γ) (qh_w (gK Γ)) qcl (qn_gH σ) (.ref (kq (gK Γ) 15) :: As) (some r) v) (I : ck_V y b2 n2 ret2 As.length) (hl : Cond.methodLink own index y ∈ gw) (hR : rm2.1 + 1 ≤ rm.1 ∧ 8 + (n2 + 11) + rm2.2 ≤ rm.2) (hd : decode cc pc = .ok (.invokevirtual index, 3)) (hp : pc + 3 = n) (hs : As.reverse ++ .ref (kq (gK Γ) 15) :: rest = st) (hc : some qh_R = some y.cls ∧ (rest.map fun v => v.category).sum ≤ 8) (k : J Γ (qn_w (gK Γ)) qcl Qf X (qn_sH σ v) n lv (r :: rest)) : J Γ (qn_w (gK Γ)) qcl Qf X σ pc lv st := by
  subst hs
  exact j_callV C M I hl hR hd hp (ci := 1) rfl hc.1 (em_qn_qh (gK Γ) σ) (en_qn_qh (gK Γ) σ v) hc.2 k
theorem cv0_qn_qh {R : Type} {Γ : cx_T} {own : String} {cc b2 : ByteArray} {nL n2 : Nat} {ret ret2 : Option FieldType} {rm rm2 : Nat × Nat} {Qf : R → qn_S → State → Prop} {X : Option (R × qn_S)} {σ : qn_S} {v : qh_S} {pc n index : Nat} {lv : List (Nat × Value)} {rest As st : List Value} {y : MethodName} (C : cx_C Γ (qn_w (gK Γ)) qcl own cc nL ret rm) (M : MC (gl Γ) y b2 n2 ret2 rm2 (gK Γ) (qh_w (gK Γ)) qcl (qn_gH σ) (.ref (kq (gK Γ) 15) :: As) none v) (I : ck_V y b2 n2 ret2 As.length) (hl : Cond.methodLink own index y ∈ gw) (hR : rm2.1 + 1 ≤ rm.1 ∧ 8 + (n2 + 11) + rm2.2 ≤ rm.2) (hd : decode cc pc = .ok (.invokevirtual index, 3)) (hp : pc + 3 = n) (hs : As.reverse ++ .ref (kq (gK Γ) 15) :: rest = st) (hc : some qh_R = some y.cls ∧ (rest.map fun v => v.category).sum ≤ 8) (k : J Γ (qn_w (gK Γ)) qcl Qf X (qn_sH σ v) n lv rest) : J Γ (qn_w (gK Γ)) qcl Qf X σ pc lv st := by
  subst hs
  exact j_callV C M I hl hR hd hp (ci := 1) rfl hc.1 (em_qn_qh (gK Γ) σ) (en_qn_qh (gK Γ) σ v) hc.2 k
theorem cvr_qn_qh {R : Type} {Γ : cx_T} {own : String} {cc b2 : ByteArray} {nL n2 : Nat} {ret ret2 : Option FieldType} {rm rm2 : Nat × Nat} {Qf : R → qn_S → State → Prop} {X : Option (R × qn_S)} {σ : qn_S} {pc n index : Nat} {lv : List (Nat × Value)} {rest As st : List Value} {y : MethodName} {r : Value} (C : cx_C Γ (qn_w (gK Γ)) qcl own cc nL ret rm) (M : MC (gl Γ) y b2 n2 ret2 rm2 (gK Γ) (qh_w (gK Γ)) qcl (qn_gH σ) (.ref (kq (gK Γ) 15) :: As) (some r) (qn_gH σ)) (I : ck_V y b2 n2 ret2 As.length) (hl : Cond.methodLink own index y ∈ gw) (hR : rm2.1 + 1 ≤ rm.1 ∧ 8 + (n2 + 11) + rm2.2 ≤ rm.2) (hd : decode cc pc = .ok (.invokevirtual index, 3)) (hp : pc + 3 = n) (hs : As.reverse ++ .ref (kq (gK Γ) 15) :: rest = st) (hc : some qh_R = some y.cls ∧ (rest.map fun v => v.category).sum ≤ 8) (k : J Γ (qn_w (gK Γ)) qcl Qf X σ n lv (r :: rest)) : J Γ (qn_w (gK Γ)) qcl Qf X σ pc lv st := by
  subst hs
  exact j_callV C M I hl hR hd hp (ci := 1) rfl hc.1 (em_qn_qh (gK Γ) σ) (em_qn_qh (gK Γ) σ) hc.2 k
theorem em_qx_qn (K : kk_T) (σ : qx_S) : qx_w K σ = (qx_own K σ) ++ (qn_w K (qx_gN σ) ++ ([])) := by simp only [qx_w, qn_w, qt_w, List.append_assoc, List.append_nil, List.nil_append]; try rfl
theorem en_qx_qn (K : kk_T) (σ : qx_S) (v : qn_S) : qx_w K (qx_sN σ v) = (qx_own K σ) ++ (qn_w K v ++ ([])) := em_qx_qn K (qx_sN σ v)
theorem cv_qx_qn {R : Type} {Γ : cx_T} {own : String} {cc b2 : ByteArray} {nL n2 : Nat} {ret ret2 : Option FieldType} {rm rm2 : Nat × Nat} {Qf : R → qx_S → State → Prop} {X : Option (R × qx_S)} {σ : qx_S} {v : qn_S} {pc n index : Nat} {lv : List (Nat × Value)} {rest As st : List Value} {y : MethodName} {r : Value} (C : cx_C Γ (qx_w (gK Γ)) qcl own cc nL ret rm) (M : MC (gl Γ) y b2 n2 ret2 rm2 (gK Γ) (qn_w (gK Γ)) qcl (qx_gN σ) (.ref (kq (gK Γ) 2) :: As) (some r) v) (I : ck_V y b2 n2 ret2 As.length) (hl : Cond.methodLink own index y ∈ gw) (hR : rm2.1 + 1 ≤ rm.1 ∧ 8 + (n2 + 11) + rm2.2 ≤ rm.2) (hd : decode cc pc = .ok (.invokevirtual index, 3)) (hp : pc + 3 = n) (hs : As.reverse ++ .ref (kq (gK Γ) 2) :: rest = st) (hc : some qn_R = some y.cls ∧ (rest.map fun v => v.category).sum ≤ 8) (k : J Γ (qx_w (gK Γ)) qcl Qf X (qx_sN σ v) n lv (r :: rest)) : J Γ (qx_w (gK Γ)) qcl Qf X σ pc lv st := by
  subst hs
  exact j_callV C M I hl hR hd hp (ci := 2) rfl hc.1 (em_qx_qn (gK Γ) σ) (en_qx_qn (gK Γ) σ v) hc.2 k
theorem cv0_qx_qn {R : Type} {Γ : cx_T} {own : String} {cc b2 : ByteArray} {nL n2 : Nat} {ret ret2 : Option FieldType} {rm rm2 : Nat × Nat} {Qf : R → qx_S → State → Prop} {X : Option (R × qx_S)} {σ : qx_S} {v : qn_S} {pc n index : Nat} {lv : List (Nat × Value)} {rest As st : List Value} {y : MethodName} (C : cx_C Γ (qx_w (gK Γ)) qcl own cc nL ret rm) (M : MC (gl Γ) y b2 n2 ret2 rm2 (gK Γ) (qn_w (gK Γ)) qcl (qx_gN σ) (.ref (kq (gK Γ) 2) :: As) none v) (I : ck_V y b2 n2 ret2 As.length) (hl : Cond.methodLink own index y ∈ gw) (hR : rm2.1 + 1 ≤ rm.1 ∧ 8 + (n2 + 11) + rm2.2 ≤ rm.2) (hd : decode cc pc = .ok (.invokevirtual index, 3)) (hp : pc + 3 = n) (hs : As.reverse ++ .ref (kq (gK Γ) 2) :: rest = st) (hc : some qn_R = some y.cls ∧ (rest.map fun v => v.category).sum ≤ 8) (k : J Γ (qx_w (gK Γ)) qcl Qf X (qx_sN σ v) n lv rest) : J Γ (qx_w (gK Γ)) qcl Qf X σ pc lv st := by
  subst hs
  exact j_callV C M I hl hR hd hp (ci := 2) rfl hc.1 (em_qx_qn (gK Γ) σ) (en_qx_qn (gK Γ) σ v) hc.2 k
theorem cvr_qx_qn {R : Type} {Γ : cx_T} {own : String} {cc b2 : ByteArray} {nL n2 : Nat} {ret ret2 : Option FieldType} {rm rm2 : Nat × Nat} {Qf : R → qx_S → State → Prop} {X : Option (R × qx_S)} {σ : qx_S} {pc n index : Nat} {lv : List (Nat × Value)} {rest As st : List Value} {y : MethodName} {r : Value} (C : cx_C Γ (qx_w (gK Γ)) qcl own cc nL ret rm) (M : MC (gl Γ) y b2 n2 ret2 rm2 (gK Γ) (qn_w (gK Γ)) qcl (qx_gN σ) (.ref (kq (gK Γ) 2) :: As) (some r) (qx_gN σ)) (I : ck_V y b2 n2 ret2 As.length) (hl : Cond.methodLink own index y ∈ gw) (hR : rm2.1 + 1 ≤ rm.1 ∧ 8 + (n2 + 11) + rm2.2 ≤ rm.2) (hd : decode cc pc = .ok (.invokevirtual index, 3)) (hp : pc + 3 = n) (hs : As.reverse ++ .ref (kq (gK Γ) 2) :: rest = st) (hc : some qn_R = some y.cls ∧ (rest.map fun v => v.category).sum ≤ 8) (k : J Γ (qx_w (gK Γ)) qcl Qf X σ n lv (r :: rest)) : J Γ (qx_w (gK Γ)) qcl Qf X σ pc lv st := by
  subst hs
  exact j_callV C M I hl hR hd hp (ci := 2) rfl hc.1 (em_qx_qn (gK Γ) σ) (em_qx_qn (gK Γ) σ) hc.2 k
theorem em_qx_qh (K : kk_T) (σ : qx_S) : qx_w K σ = (qx_own K σ ++ qn_own K (qx_gN σ) ++ qf_w K (qn_gF (qx_gN σ)) ++ qt_own K (qn_gT (qx_gN σ))) ++ (qh_w K (qx_gH σ) ++ ([])) := by simp only [qx_w, qn_w, qt_w, List.append_assoc, List.append_nil, List.nil_append]; try rfl
theorem en_qx_qh (K : kk_T) (σ : qx_S) (v : qh_S) : qx_w K (qx_sH σ v) = (qx_own K σ ++ qn_own K (qx_gN σ) ++ qf_w K (qn_gF (qx_gN σ)) ++ qt_own K (qn_gT (qx_gN σ))) ++ (qh_w K v ++ ([])) := em_qx_qh K (qx_sH σ v)
theorem cv_qx_qh {R : Type} {Γ : cx_T} {own : String} {cc b2 : ByteArray} {nL n2 : Nat} {ret ret2 : Option FieldType} {rm rm2 : Nat × Nat} {Qf : R → qx_S → State → Prop} {X : Option (R × qx_S)} {σ : qx_S} {v : qh_S} {pc n index : Nat} {lv : List (Nat × Value)} {rest As st : List Value} {y : MethodName} {r : Value} (C : cx_C Γ (qx_w (gK Γ)) qcl own cc nL ret rm) (M : MC (gl Γ) y b2 n2 ret2 rm2 (gK Γ) (qh_w (gK Γ)) qcl (qx_gH σ) (.ref (kq (gK Γ) 15) :: As) (some r) v) (I : ck_V y b2 n2 ret2 As.length) (hl : Cond.methodLink own index y ∈ gw) (hR : rm2.1 + 1 ≤ rm.1 ∧ 8 + (n2 + 11) + rm2.2 ≤ rm.2) (hd : decode cc pc = .ok (.invokevirtual index, 3)) (hp : pc + 3 = n) (hs : As.reverse ++ .ref (kq (gK Γ) 15) :: rest = st) (hc : some qh_R = some y.cls ∧ (rest.map fun v => v.category).sum ≤ 8) (k : J Γ (qx_w (gK Γ)) qcl Qf X (qx_sH σ v) n lv (r :: rest)) : J Γ (qx_w (gK Γ)) qcl Qf X σ pc lv st := by
  subst hs
  exact j_callV C M I hl hR hd hp (ci := 1) rfl hc.1 (em_qx_qh (gK Γ) σ) (en_qx_qh (gK Γ) σ v) hc.2 k
theorem cv0_qx_qh {R : Type} {Γ : cx_T} {own : String} {cc b2 : ByteArray} {nL n2 : Nat} {ret ret2 : Option FieldType} {rm rm2 : Nat × Nat} {Qf : R → qx_S → State → Prop} {X : Option (R × qx_S)} {σ : qx_S} {v : qh_S} {pc n index : Nat} {lv : List (Nat × Value)} {rest As st : List Value} {y : MethodName} (C : cx_C Γ (qx_w (gK Γ)) qcl own cc nL ret rm) (M : MC (gl Γ) y b2 n2 ret2 rm2 (gK Γ) (qh_w (gK Γ)) qcl (qx_gH σ) (.ref (kq (gK Γ) 15) :: As) none v) (I : ck_V y b2 n2 ret2 As.length) (hl : Cond.methodLink own index y ∈ gw) (hR : rm2.1 + 1 ≤ rm.1 ∧ 8 + (n2 + 11) + rm2.2 ≤ rm.2) (hd : decode cc pc = .ok (.invokevirtual index, 3)) (hp : pc + 3 = n) (hs : As.reverse ++ .ref (kq (gK Γ) 15) :: rest = st) (hc : some qh_R = some y.cls ∧ (rest.map fun v => v.category).sum ≤ 8) (k : J Γ (qx_w (gK Γ)) qcl Qf X (qx_sH σ v) n lv rest) : J Γ (qx_w (gK Γ)) qcl Qf X σ pc lv st := by
  subst hs
  exact j_callV C M I hl hR hd hp (ci := 1) rfl hc.1 (em_qx_qh (gK Γ) σ) (en_qx_qh (gK Γ) σ v) hc.2 k
theorem cvr_qx_qh {R : Type} {Γ : cx_T} {own : String} {cc b2 : ByteArray} {nL n2 : Nat} {ret ret2 : Option FieldType} {rm rm2 : Nat × Nat} {Qf : R → qx_S → State → Prop} {X : Option (R × qx_S)} {σ : qx_S} {pc n index : Nat} {lv : List (Nat × Value)} {rest As st : List Value} {y : MethodName} {r : Value} (C : cx_C Γ (qx_w (gK Γ)) qcl own cc nL ret rm) (M : MC (gl Γ) y b2 n2 ret2 rm2 (gK Γ) (qh_w (gK Γ)) qcl (qx_gH σ) (.ref (kq (gK Γ) 15) :: As) (some r) (qx_gH σ)) (I : ck_V y b2 n2 ret2 As.length) (hl : Cond.methodLink own index y ∈ gw) (hR : rm2.1 + 1 ≤ rm.1 ∧ 8 + (n2 + 11) + rm2.2 ≤ rm.2) (hd : decode cc pc = .ok (.invokevirtual index, 3)) (hp : pc + 3 = n) (hs : As.reverse ++ .ref (kq (gK Γ) 15) :: rest = st) (hc : some qh_R = some y.cls ∧ (rest.map fun v => v.category).sum ≤ 8) (k : J Γ (qx_w (gK Γ)) qcl Qf X σ n lv (r :: rest)) : J Γ (qx_w (gK Γ)) qcl Qf X σ pc lv st := by
  subst hs
  exact j_callV C M I hl hR hd hp (ci := 1) rfl hc.1 (em_qx_qh (gK Γ) σ) (em_qx_qh (gK Γ) σ) hc.2 k
theorem cs_qh {R : Type} {Γ : cx_T} {own : String} {cc b2 : ByteArray} {nL n2 : Nat} {ret ret2 : Option FieldType} {rm rm2 : Nat × Nat} {Qf : R → qh_S → State → Prop} {X : Option (R × qh_S)} {σ : qh_S} {pc n index : Nat} {lv : List (Nat × Value)} {rest As st : List Value} {y : MethodName} {r : Value} (C : cx_C Γ (qh_w (gK Γ)) qcl own cc nL ret rm) (M : MC (gl Γ) y b2 n2 ret2 rm2 (gK Γ) qw_w qcl () As (some r) ()) (I : ck_S y b2 n2 ret2 As.length) (hl : Cond.methodLink own index y ∈ gw) (hR : rm2.1 + 1 ≤ rm.1 ∧ 8 + (n2 + 11) + rm2.2 ≤ rm.2) (hd : decode cc pc = .ok (.invokestatic index, 3)) (hp : pc + 3 = n) (hs : As.reverse ++ rest = st) (hq : (rest.map fun v => v.category).sum ≤ 8) (k : J Γ (qh_w (gK Γ)) qcl Qf X σ n lv (r :: rest)) : J Γ (qh_w (gK Γ)) qcl Qf X σ pc lv st := by
  subst hs
  exact j_callS (x := []) (z := qh_w (gK Γ) σ) C M I hl hR hd hp rfl rfl hq k
theorem cs_qf {R : Type} {Γ : cx_T} {own : String} {cc b2 : ByteArray} {nL n2 : Nat} {ret ret2 : Option FieldType} {rm rm2 : Nat × Nat} {Qf : R → qf_S → State → Prop} {X : Option (R × qf_S)} {σ : qf_S} {pc n index : Nat} {lv : List (Nat × Value)} {rest As st : List Value} {y : MethodName} {r : Value} (C : cx_C Γ (qf_w (gK Γ)) qcl own cc nL ret rm) (M : MC (gl Γ) y b2 n2 ret2 rm2 (gK Γ) qw_w qcl () As (some r) ()) (I : ck_S y b2 n2 ret2 As.length) (hl : Cond.methodLink own index y ∈ gw) (hR : rm2.1 + 1 ≤ rm.1 ∧ 8 + (n2 + 11) + rm2.2 ≤ rm.2) (hd : decode cc pc = .ok (.invokestatic index, 3)) (hp : pc + 3 = n) (hs : As.reverse ++ rest = st) (hq : (rest.map fun v => v.category).sum ≤ 8) (k : J Γ (qf_w (gK Γ)) qcl Qf X σ n lv (r :: rest)) : J Γ (qf_w (gK Γ)) qcl Qf X σ pc lv st := by
  subst hs
  exact j_callS (x := []) (z := qf_w (gK Γ) σ) C M I hl hR hd hp rfl rfl hq k
theorem cs_qt {R : Type} {Γ : cx_T} {own : String} {cc b2 : ByteArray} {nL n2 : Nat} {ret ret2 : Option FieldType} {rm rm2 : Nat × Nat} {Qf : R → qt_S → State → Prop} {X : Option (R × qt_S)} {σ : qt_S} {pc n index : Nat} {lv : List (Nat × Value)} {rest As st : List Value} {y : MethodName} {r : Value} (C : cx_C Γ (qt_w (gK Γ)) qcl own cc nL ret rm) (M : MC (gl Γ) y b2 n2 ret2 rm2 (gK Γ) qw_w qcl () As (some r) ()) (I : ck_S y b2 n2 ret2 As.length) (hl : Cond.methodLink own index y ∈ gw) (hR : rm2.1 + 1 ≤ rm.1 ∧ 8 + (n2 + 11) + rm2.2 ≤ rm.2) (hd : decode cc pc = .ok (.invokestatic index, 3)) (hp : pc + 3 = n) (hs : As.reverse ++ rest = st) (hq : (rest.map fun v => v.category).sum ≤ 8) (k : J Γ (qt_w (gK Γ)) qcl Qf X σ n lv (r :: rest)) : J Γ (qt_w (gK Γ)) qcl Qf X σ pc lv st := by
  subst hs
  exact j_callS (x := []) (z := qt_w (gK Γ) σ) C M I hl hR hd hp rfl rfl hq k
theorem cs_qn {R : Type} {Γ : cx_T} {own : String} {cc b2 : ByteArray} {nL n2 : Nat} {ret ret2 : Option FieldType} {rm rm2 : Nat × Nat} {Qf : R → qn_S → State → Prop} {X : Option (R × qn_S)} {σ : qn_S} {pc n index : Nat} {lv : List (Nat × Value)} {rest As st : List Value} {y : MethodName} {r : Value} (C : cx_C Γ (qn_w (gK Γ)) qcl own cc nL ret rm) (M : MC (gl Γ) y b2 n2 ret2 rm2 (gK Γ) qw_w qcl () As (some r) ()) (I : ck_S y b2 n2 ret2 As.length) (hl : Cond.methodLink own index y ∈ gw) (hR : rm2.1 + 1 ≤ rm.1 ∧ 8 + (n2 + 11) + rm2.2 ≤ rm.2) (hd : decode cc pc = .ok (.invokestatic index, 3)) (hp : pc + 3 = n) (hs : As.reverse ++ rest = st) (hq : (rest.map fun v => v.category).sum ≤ 8) (k : J Γ (qn_w (gK Γ)) qcl Qf X σ n lv (r :: rest)) : J Γ (qn_w (gK Γ)) qcl Qf X σ pc lv st := by
  subst hs
  exact j_callS (x := []) (z := qn_w (gK Γ) σ) C M I hl hR hd hp rfl rfl hq k
theorem cs_qx {R : Type} {Γ : cx_T} {own : String} {cc b2 : ByteArray} {nL n2 : Nat} {ret ret2 : Option FieldType} {rm rm2 : Nat × Nat} {Qf : R → qx_S → State → Prop} {X : Option (R × qx_S)} {σ : qx_S} {pc n index : Nat} {lv : List (Nat × Value)} {rest As st : List Value} {y : MethodName} {r : Value} (C : cx_C Γ (qx_w (gK Γ)) qcl own cc nL ret rm) (M : MC (gl Γ) y b2 n2 ret2 rm2 (gK Γ) qw_w qcl () As (some r) ()) (I : ck_S y b2 n2 ret2 As.length) (hl : Cond.methodLink own index y ∈ gw) (hR : rm2.1 + 1 ≤ rm.1 ∧ 8 + (n2 + 11) + rm2.2 ≤ rm.2) (hd : decode cc pc = .ok (.invokestatic index, 3)) (hp : pc + 3 = n) (hs : As.reverse ++ rest = st) (hq : (rest.map fun v => v.category).sum ≤ 8) (k : J Γ (qx_w (gK Γ)) qcl Qf X σ n lv (r :: rest)) : J Γ (qx_w (gK Γ)) qcl Qf X σ pc lv st := by
  subst hs
  exact j_callS (x := []) (z := qx_w (gK Γ) σ) C M I hl hR hd hp rfl rfl hq k
theorem cs_qm {R : Type} {Γ : cx_T} {own : String} {cc b2 : ByteArray} {nL n2 : Nat} {ret ret2 : Option FieldType} {rm rm2 : Nat × Nat} {Qf : R → qm_S → State → Prop} {X : Option (R × qm_S)} {σ : qm_S} {pc n index : Nat} {lv : List (Nat × Value)} {rest As st : List Value} {y : MethodName} {r : Value} (C : cx_C Γ (qm_w (gK Γ)) qcl own cc nL ret rm) (M : MC (gl Γ) y b2 n2 ret2 rm2 (gK Γ) qw_w qcl () As (some r) ()) (I : ck_S y b2 n2 ret2 As.length) (hl : Cond.methodLink own index y ∈ gw) (hR : rm2.1 + 1 ≤ rm.1 ∧ 8 + (n2 + 11) + rm2.2 ≤ rm.2) (hd : decode cc pc = .ok (.invokestatic index, 3)) (hp : pc + 3 = n) (hs : As.reverse ++ rest = st) (hq : (rest.map fun v => v.category).sum ≤ 8) (k : J Γ (qm_w (gK Γ)) qcl Qf X σ n lv (r :: rest)) : J Γ (qm_w (gK Γ)) qcl Qf X σ pc lv st := by
  subst hs
  exact j_callS (x := []) (z := qm_w (gK Γ) σ) C M I hl hR hd hp rfl rfl hq k
theorem cs_qw {R : Type} {Γ : cx_T} {own : String} {cc b2 : ByteArray} {nL n2 : Nat} {ret ret2 : Option FieldType} {rm rm2 : Nat × Nat} {Qf : R → Unit → State → Prop} {X : Option (R × Unit)} {σ : Unit} {pc n index : Nat} {lv : List (Nat × Value)} {rest As st : List Value} {y : MethodName} {r : Value} (C : cx_C Γ qw_w qcl own cc nL ret rm) (M : MC (gl Γ) y b2 n2 ret2 rm2 (gK Γ) qw_w qcl () As (some r) ()) (I : ck_S y b2 n2 ret2 As.length) (hl : Cond.methodLink own index y ∈ gw) (hR : rm2.1 + 1 ≤ rm.1 ∧ 8 + (n2 + 11) + rm2.2 ≤ rm.2) (hd : decode cc pc = .ok (.invokestatic index, 3)) (hp : pc + 3 = n) (hs : As.reverse ++ rest = st) (hq : (rest.map fun v => v.category).sum ≤ 8) (k : J Γ qw_w qcl Qf X σ n lv (r :: rest)) : J Γ qw_w qcl Qf X σ pc lv st := by
  subst hs
  exact j_callS (x := []) (z := []) C M I hl hR hd hp rfl rfl hq k
def qx_init_y : MethodName := ⟨qx_R, "<init>", "()V"⟩
abbrev qx_init_c : ByteArray := prog_1_method_1_code
def qx_pushInteger_y : MethodName := ⟨qx_R, "pushInteger", "(J)I"⟩
abbrev qx_pushInteger_c : ByteArray := prog_1_method_2_code
def qx_pushBoolean_y : MethodName := ⟨qx_R, "pushBoolean", "(Z)I"⟩
abbrev qx_pushBoolean_c : ByteArray := prog_1_method_3_code
def qx_pushSymbol_y : MethodName := ⟨qx_R, "pushSymbol", "(I)I"⟩
abbrev qx_pushSymbol_c : ByteArray := prog_1_method_4_code
def qx_pushEmpty_y : MethodName := ⟨qx_R, "pushEmpty", "(Z)I"⟩
abbrev qx_pushEmpty_c : ByteArray := prog_1_method_5_code
def qx_pushEnvironment_y : MethodName := ⟨qx_R, "pushEnvironment", "()I"⟩
abbrev qx_pushEnvironment_c : ByteArray := prog_1_method_6_code
def qx_pushCopy_y : MethodName := ⟨qx_R, "pushCopy", "(I)I"⟩
abbrev qx_pushCopy_c : ByteArray := prog_1_method_7_code
def qx_pushPart_y : MethodName := ⟨qx_R, "pushPart", "(II)I"⟩
abbrev qx_pushPart_c : ByteArray := prog_1_method_8_code
def qx_pushBinding_y : MethodName := ⟨qx_R, "pushBinding", "(II)I"⟩
abbrev qx_pushBinding_c : ByteArray := prog_1_method_9_code
def qx_makePair_y : MethodName := ⟨qx_R, "makePair", "()I"⟩
abbrev qx_makePair_c : ByteArray := prog_1_method_10_code
def qx_makeList_y : MethodName := ⟨qx_R, "makeList", "(I)I"⟩
abbrev qx_makeList_c : ByteArray := prog_1_method_11_code
def qx_drop_y : MethodName := ⟨qx_R, "drop", "(I)I"⟩
abbrev qx_drop_c : ByteArray := prog_1_method_12_code
def qx_reset_y : MethodName := ⟨qx_R, "reset", "()I"⟩
abbrev qx_reset_c : ByteArray := prog_1_method_13_code
def qx_size_y : MethodName := ⟨qx_R, "size", "()I"⟩
abbrev qx_size_c : ByteArray := prog_1_method_14_code
def qx_kind_y : MethodName := ⟨qx_R, "kind", "(I)I"⟩
abbrev qx_kind_c : ByteArray := prog_1_method_15_code
def qx_value_y : MethodName := ⟨qx_R, "value", "(I)J"⟩
abbrev qx_value_c : ByteArray := prog_1_method_16_code
def qx_areSame_y : MethodName := ⟨qx_R, "areSame", "(II)I"⟩
abbrev qx_areSame_c : ByteArray := prog_1_method_17_code
def qx_length_y : MethodName := ⟨qx_R, "length", "(I)I"⟩
abbrev qx_length_c : ByteArray := prog_1_method_18_code
def qx_bindingCount_y : MethodName := ⟨qx_R, "bindingCount", "(I)I"⟩
abbrev qx_bindingCount_c : ByteArray := prog_1_method_19_code
def qx_evaluate_y : MethodName := ⟨qx_R, "evaluate", "()I"⟩
abbrev qx_evaluate_c : ByteArray := prog_1_method_20_code
def qx_useEnvironment_y : MethodName := ⟨qx_R, "useEnvironment", "()I"⟩
abbrev qx_useEnvironment_c : ByteArray := prog_1_method_21_code
def qx_useUser_y : MethodName := ⟨qx_R, "useUser", "()I"⟩
abbrev qx_useUser_c : ByteArray := prog_1_method_22_code
def qx_setLimit_y : MethodName := ⟨qx_R, "setLimit", "(I)I"⟩
abbrev qx_setLimit_c : ByteArray := prog_1_method_23_code
def qx_latest_y : MethodName := ⟨qx_R, "latest", "(I)I"⟩
abbrev qx_latest_c : ByteArray := prog_1_method_24_code
def qx_heapSize_y : MethodName := ⟨qx_R, "heapSize", "()I"⟩
abbrev qx_heapSize_c : ByteArray := prog_1_method_25_code
def qx_push_y : MethodName := ⟨qx_R, "push", "(J)I"⟩
abbrev qx_push_c : ByteArray := prog_1_method_26_code
def qx_pushParent_y : MethodName := ⟨qx_R, "pushParent", "(I)I"⟩
abbrev qx_pushParent_c : ByteArray := prog_1_method_27_code
def qx_valueAt_y : MethodName := ⟨qx_R, "valueAt", "(I)J"⟩
abbrev qx_valueAt_c : ByteArray := prog_1_method_28_code
def qx_depthError_y : MethodName := ⟨qx_R, "depthError", "(I)I"⟩
abbrev qx_depthError_c : ByteArray := prog_1_method_29_code
def qx_kindError_y : MethodName := ⟨qx_R, "kindError", "(II)I"⟩
abbrev qx_kindError_c : ByteArray := prog_1_method_30_code
def qx_countError_y : MethodName := ⟨qx_R, "countError", "(I)I"⟩
abbrev qx_countError_c : ByteArray := prog_1_method_31_code
def qm_init_y : MethodName := ⟨qm_R, "<init>", "()V"⟩
abbrev qm_init_c : ByteArray := prog_8_method_1_code
def qm_within_y : MethodName := ⟨qm_R, "within", "(JJJ)Z"⟩
abbrev qm_within_c : ByteArray := prog_8_method_2_code
def qm_lost_y : MethodName := ⟨qm_R, "lost", "()J"⟩
abbrev qm_lost_c : ByteArray := prog_8_method_3_code
def qm_made_y : MethodName := ⟨qm_R, "made", "(IJ)J"⟩
abbrev qm_made_c : ByteArray := prog_8_method_4_code
def qm_kindOf_y : MethodName := ⟨qm_R, "kindOf", "(J)I"⟩
abbrev qm_kindOf_c : ByteArray := prog_8_method_5_code
def qm_whatOf_y : MethodName := ⟨qm_R, "whatOf", "(J)J"⟩
abbrev qm_whatOf_c : ByteArray := prog_8_method_6_code
def qm_truth_y : MethodName := ⟨qm_R, "truth", "(Z)J"⟩
abbrev qm_truth_c : ByteArray := prog_8_method_7_code
def qm_begin_y : MethodName := ⟨qm_R, "begin", "()V"⟩
abbrev qm_begin_c : ByteArray := prog_8_method_8_code
def qm_indexOf_y : MethodName := ⟨qm_R, "indexOf", "(J)I"⟩
abbrev qm_indexOf_c : ByteArray := prog_8_method_9_code
def qm_carOf_y : MethodName := ⟨qm_R, "carOf", "(J)J"⟩
abbrev qm_carOf_c : ByteArray := prog_8_method_10_code
def qm_cdrOf_y : MethodName := ⟨qm_R, "cdrOf", "(J)J"⟩
abbrev qm_cdrOf_c : ByteArray := prog_8_method_11_code
def qm_underOf_y : MethodName := ⟨qm_R, "underOf", "(J)J"⟩
abbrev qm_underOf_c : ByteArray := prog_8_method_12_code
def qm_parentOf_y : MethodName := ⟨qm_R, "parentOf", "(J)J"⟩
abbrev qm_parentOf_c : ByteArray := prog_8_method_13_code
def qm_adds_y : MethodName := ⟨qm_R, "adds", "(IJJ)J"⟩
abbrev qm_adds_c : ByteArray := prog_8_method_14_code
def qm_addsEnvironment_y : MethodName := ⟨qm_R, "addsEnvironment", "(J)J"⟩
abbrev qm_addsEnvironment_c : ByteArray := prog_8_method_15_code
def qm_isFull_y : MethodName := ⟨qm_R, "isFull", "()Z"⟩
abbrev qm_isFull_c : ByteArray := prog_8_method_16_code
def qm_findsOwn_y : MethodName := ⟨qm_R, "findsOwn", "(JI)Z"⟩
abbrev qm_findsOwn_c : ByteArray := prog_8_method_17_code
def qm_finds_y : MethodName := ⟨qm_R, "finds", "(JI)Z"⟩
abbrev qm_finds_c : ByteArray := prog_8_method_18_code
def qm_binds_y : MethodName := ⟨qm_R, "binds", "(JIJ)Z"⟩
abbrev qm_binds_c : ByteArray := prog_8_method_19_code
def qm_longOf_y : MethodName := ⟨qm_R, "longOf", "(J)I"⟩
abbrev qm_longOf_c : ByteArray := prog_8_method_20_code
def qm_elementOf_y : MethodName := ⟨qm_R, "elementOf", "(JI)J"⟩
abbrev qm_elementOf_c : ByteArray := prog_8_method_21_code
def qm_pushes_y : MethodName := ⟨qm_R, "pushes", "(J)I"⟩
abbrev qm_pushes_c : ByteArray := prog_8_method_22_code
def qm_depthBarred_y : MethodName := ⟨qm_R, "depthBarred", "(I)I"⟩
abbrev qm_depthBarred_c : ByteArray := prog_8_method_23_code
def qm_at_y : MethodName := ⟨qm_R, "at", "(I)J"⟩
abbrev qm_at_c : ByteArray := prog_8_method_24_code
def qm_pushInteger_y : MethodName := ⟨qm_R, "pushInteger", "(J)I"⟩
abbrev qm_pushInteger_c : ByteArray := prog_8_method_25_code
def qm_pushBoolean_y : MethodName := ⟨qm_R, "pushBoolean", "(Z)I"⟩
abbrev qm_pushBoolean_c : ByteArray := prog_8_method_26_code
def qm_pushSymbol_y : MethodName := ⟨qm_R, "pushSymbol", "(I)I"⟩
abbrev qm_pushSymbol_c : ByteArray := prog_8_method_27_code
def qm_pushEmpty_y : MethodName := ⟨qm_R, "pushEmpty", "(Z)I"⟩
abbrev qm_pushEmpty_c : ByteArray := prog_8_method_28_code
def qm_pushEnvironment_y : MethodName := ⟨qm_R, "pushEnvironment", "()I"⟩
abbrev qm_pushEnvironment_c : ByteArray := prog_8_method_29_code
def qm_pushCopy_y : MethodName := ⟨qm_R, "pushCopy", "(I)I"⟩
abbrev qm_pushCopy_c : ByteArray := prog_8_method_30_code
def qm_pushPart_y : MethodName := ⟨qm_R, "pushPart", "(II)I"⟩
abbrev qm_pushPart_c : ByteArray := prog_8_method_31_code
def qm_pushBinding_y : MethodName := ⟨qm_R, "pushBinding", "(II)I"⟩
abbrev qm_pushBinding_c : ByteArray := prog_8_method_32_code
def qm_makePair_y : MethodName := ⟨qm_R, "makePair", "()I"⟩
abbrev qm_makePair_c : ByteArray := prog_8_method_33_code
def qm_makeList_y : MethodName := ⟨qm_R, "makeList", "(I)I"⟩
abbrev qm_makeList_c : ByteArray := prog_8_method_34_code
def qm_drop_y : MethodName := ⟨qm_R, "drop", "(I)I"⟩
abbrev qm_drop_c : ByteArray := prog_8_method_35_code
def qm_reset_y : MethodName := ⟨qm_R, "reset", "()I"⟩
abbrev qm_reset_c : ByteArray := prog_8_method_36_code
def qm_size_y : MethodName := ⟨qm_R, "size", "()I"⟩
abbrev qm_size_c : ByteArray := prog_8_method_37_code
def qm_kind_y : MethodName := ⟨qm_R, "kind", "(I)I"⟩
abbrev qm_kind_c : ByteArray := prog_8_method_38_code
def qm_value_y : MethodName := ⟨qm_R, "value", "(I)J"⟩
abbrev qm_value_c : ByteArray := prog_8_method_39_code
def qm_areSame_y : MethodName := ⟨qm_R, "areSame", "(II)I"⟩
abbrev qm_areSame_c : ByteArray := prog_8_method_40_code
def qm_length_y : MethodName := ⟨qm_R, "length", "(I)I"⟩
abbrev qm_length_c : ByteArray := prog_8_method_41_code
def qm_bindingCount_y : MethodName := ⟨qm_R, "bindingCount", "(I)I"⟩
abbrev qm_bindingCount_c : ByteArray := prog_8_method_42_code
def qm_goesTo_y : MethodName := ⟨qm_R, "goesTo", "(JJ)I"⟩
abbrev qm_goesTo_c : ByteArray := prog_8_method_43_code
def qm_gives_y : MethodName := ⟨qm_R, "gives", "(J)I"⟩
abbrev qm_gives_c : ByteArray := prog_8_method_44_code
def qm_goesWith_y : MethodName := ⟨qm_R, "goesWith", "(IJJIJJ)I"⟩
abbrev qm_goesWith_c : ByteArray := prog_8_method_45_code
def qm_evaluatesOne_y : MethodName := ⟨qm_R, "evaluatesOne", "()I"⟩
abbrev qm_evaluatesOne_c : ByteArray := prog_8_method_46_code
def qm_combines_y : MethodName := ⟨qm_R, "combines", "(JJJ)I"⟩
abbrev qm_combines_c : ByteArray := prog_8_method_47_code
def qm_goesOn_y : MethodName := ⟨qm_R, "goesOn", "(JJJI)I"⟩
abbrev qm_goesOn_c : ByteArray := prog_8_method_48_code
def qm_beginsWith_y : MethodName := ⟨qm_R, "beginsWith", "(JJ)I"⟩
abbrev qm_beginsWith_c : ByteArray := prog_8_method_49_code
def qm_givesBound_y : MethodName := ⟨qm_R, "givesBound", "(JIJ)I"⟩
abbrev qm_givesBound_c : ByteArray := prog_8_method_50_code
def qm_takesResult_y : MethodName := ⟨qm_R, "takesResult", "()I"⟩
abbrev qm_takesResult_c : ByteArray := prog_8_method_51_code
def qm_isTree_y : MethodName := ⟨qm_R, "isTree", "(J)Z"⟩
abbrev qm_isTree_c : ByteArray := prog_8_method_52_code
def qm_matches_y : MethodName := ⟨qm_R, "matches", "(JJ)Z"⟩
abbrev qm_matches_c : ByteArray := prog_8_method_53_code
def qm_combinesCompound_y : MethodName := ⟨qm_R, "combinesCompound", "()I"⟩
abbrev qm_combinesCompound_c : ByteArray := prog_8_method_54_code
def qm_makesOperative_y : MethodName := ⟨qm_R, "makesOperative", "(JJJZ)I"⟩
abbrev qm_makesOperative_c : ByteArray := prog_8_method_55_code
def qm_isSymbol_y : MethodName := ⟨qm_R, "isSymbol", "(J)Z"⟩
abbrev qm_isSymbol_c : ByteArray := prog_8_method_56_code
def qm_combinesPart_y : MethodName := ⟨qm_R, "combinesPart", "(II)I"⟩
abbrev qm_combinesPart_c : ByteArray := prog_8_method_57_code
def qm_isIn_y : MethodName := ⟨qm_R, "isIn", "(J)Z"⟩
abbrev qm_isIn_c : ByteArray := prog_8_method_58_code
def qm_times_y : MethodName := ⟨qm_R, "times", "(JJ)J"⟩
abbrev qm_times_c : ByteArray := prog_8_method_59_code
def qm_reckons_y : MethodName := ⟨qm_R, "reckons", "(Z)I"⟩
abbrev qm_reckons_c : ByteArray := prog_8_method_60_code
def qm_creates_y : MethodName := ⟨qm_R, "creates", "(IJJ)I"⟩
abbrev qm_creates_c : ByteArray := prog_8_method_61_code
def qm_combinesTwo_y : MethodName := ⟨qm_R, "combinesTwo", "(IJJ)I"⟩
abbrev qm_combinesTwo_c : ByteArray := prog_8_method_62_code
def qm_combinesSingle_y : MethodName := ⟨qm_R, "combinesSingle", "(IJ)I"⟩
abbrev qm_combinesSingle_c : ByteArray := prog_8_method_63_code
def qm_createsEnvironment_y : MethodName := ⟨qm_R, "createsEnvironment", "(I)I"⟩
abbrev qm_createsEnvironment_c : ByteArray := prog_8_method_64_code
def qm_combinesPrimitive_y : MethodName := ⟨qm_R, "combinesPrimitive", "(I)I"⟩
abbrev qm_combinesPrimitive_c : ByteArray := prog_8_method_65_code
def qm_combinesOne_y : MethodName := ⟨qm_R, "combinesOne", "()I"⟩
abbrev qm_combinesOne_c : ByteArray := prog_8_method_66_code
def qm_runs_y : MethodName := ⟨qm_R, "runs", "()I"⟩
abbrev qm_runs_c : ByteArray := prog_8_method_67_code
def qm_evaluate_y : MethodName := ⟨qm_R, "evaluate", "()I"⟩
abbrev qm_evaluate_c : ByteArray := prog_8_method_68_code
def qm_useEnvironment_y : MethodName := ⟨qm_R, "useEnvironment", "()I"⟩
abbrev qm_useEnvironment_c : ByteArray := prog_8_method_69_code
def qm_useUser_y : MethodName := ⟨qm_R, "useUser", "()I"⟩
abbrev qm_useUser_c : ByteArray := prog_8_method_70_code
def qm_setLimit_y : MethodName := ⟨qm_R, "setLimit", "(I)I"⟩
abbrev qm_setLimit_c : ByteArray := prog_8_method_71_code
def qm_latest_y : MethodName := ⟨qm_R, "latest", "(I)I"⟩
abbrev qm_latest_c : ByteArray := prog_8_method_72_code
def qm_heapSize_y : MethodName := ⟨qm_R, "heapSize", "()I"⟩
abbrev qm_heapSize_c : ByteArray := prog_8_method_73_code
def qf_init_y : MethodName := ⟨qf_R, "<init>", "()V"⟩
abbrev qf_init_c : ByteArray := prog_2_method_1_code
def qf_clear_y : MethodName := ⟨qf_R, "clear", "()V"⟩
abbrev qf_clear_c : ByteArray := prog_2_method_2_code
def qf_isEmpty_y : MethodName := ⟨qf_R, "isEmpty", "()Z"⟩
abbrev qf_isEmpty_c : ByteArray := prog_2_method_3_code
def qf_greatestCount_y : MethodName := ⟨qf_R, "greatestCount", "()I"⟩
abbrev qf_greatestCount_c : ByteArray := prog_2_method_4_code
def qf_put_y : MethodName := ⟨qf_R, "put", "(IIJJI)Z"⟩
abbrev qf_put_c : ByteArray := prog_2_method_5_code
def qf_take_y : MethodName := ⟨qf_R, "take", "()V"⟩
abbrev qf_take_c : ByteArray := prog_2_method_6_code
def qf_canRead_y : MethodName := ⟨qf_R, "canRead", "()Z"⟩
abbrev qf_canRead_c : ByteArray := prog_2_method_7_code
def qf_task_y : MethodName := ⟨qf_R, "task", "()I"⟩
abbrev qf_task_c : ByteArray := prog_2_method_8_code
def qf_environment_y : MethodName := ⟨qf_R, "environment", "()I"⟩
abbrev qf_environment_c : ByteArray := prog_2_method_9_code
def qf_rest_y : MethodName := ⟨qf_R, "rest", "()J"⟩
abbrev qf_rest_c : ByteArray := prog_2_method_10_code
def qf_held_y : MethodName := ⟨qf_R, "held", "()J"⟩
abbrev qf_held_c : ByteArray := prog_2_method_11_code
def qf_gathered_y : MethodName := ⟨qf_R, "gathered", "()I"⟩
abbrev qf_gathered_c : ByteArray := prog_2_method_12_code
def qh_init_y : MethodName := ⟨qh_R, "<init>", "()V"⟩
abbrev qh_init_c : ByteArray := prog_3_method_1_code
def qh_restoreGround_y : MethodName := ⟨qh_R, "restoreGround", "()V"⟩
abbrev qh_restoreGround_c : ByteArray := prog_3_method_2_code
def qh_bindInGround_y : MethodName := ⟨qh_R, "bindInGround", "(IJ)V"⟩
abbrev qh_bindInGround_c : ByteArray := prog_3_method_3_code
def qh_objectCount_y : MethodName := ⟨qh_R, "objectCount", "()I"⟩
abbrev qh_objectCount_c : ByteArray := prog_3_method_4_code
def qh_hasRoomFor_y : MethodName := ⟨qh_R, "hasRoomFor", "(I)Z"⟩
abbrev qh_hasRoomFor_c : ByteArray := prog_3_method_5_code
def qh_add_y : MethodName := ⟨qh_R, "add", "(JJ)I"⟩
abbrev qh_add_c : ByteArray := prog_3_method_6_code
def qh_write_y : MethodName := ⟨qh_R, "write", "(IJJ)V"⟩
abbrev qh_write_c : ByteArray := prog_3_method_7_code
def qh_firstAt_y : MethodName := ⟨qh_R, "firstAt", "(I)J"⟩
abbrev qh_firstAt_c : ByteArray := prog_3_method_8_code
def qh_secondAt_y : MethodName := ⟨qh_R, "secondAt", "(I)J"⟩
abbrev qh_secondAt_c : ByteArray := prog_3_method_9_code
def qh_addPair_y : MethodName := ⟨qh_R, "addPair", "(JJ)I"⟩
abbrev qh_addPair_c : ByteArray := prog_3_method_10_code
def qh_carOf_y : MethodName := ⟨qh_R, "carOf", "(J)J"⟩
abbrev qh_carOf_c : ByteArray := prog_3_method_11_code
def qh_cdrOf_y : MethodName := ⟨qh_R, "cdrOf", "(J)J"⟩
abbrev qh_cdrOf_c : ByteArray := prog_3_method_12_code
def qh_elementOf_y : MethodName := ⟨qh_R, "elementOf", "(JI)J"⟩
abbrev qh_elementOf_c : ByteArray := prog_3_method_13_code
def qh_lengthOf_y : MethodName := ⟨qh_R, "lengthOf", "(J)I"⟩
abbrev qh_lengthOf_c : ByteArray := prog_3_method_14_code
def qh_addApplicative_y : MethodName := ⟨qh_R, "addApplicative", "(J)I"⟩
abbrev qh_addApplicative_c : ByteArray := prog_3_method_15_code
def qh_underlyingOf_y : MethodName := ⟨qh_R, "underlyingOf", "(J)J"⟩
abbrev qh_underlyingOf_c : ByteArray := prog_3_method_16_code
def qh_addOperative_y : MethodName := ⟨qh_R, "addOperative", "(JIJI)I"⟩
abbrev qh_addOperative_c : ByteArray := prog_3_method_17_code
def qh_isPrimitive_y : MethodName := ⟨qh_R, "isPrimitive", "(I)Z"⟩
abbrev qh_isPrimitive_c : ByteArray := prog_3_method_18_code
def qh_bodyOf_y : MethodName := ⟨qh_R, "bodyOf", "(I)J"⟩
abbrev qh_bodyOf_c : ByteArray := prog_3_method_19_code
def qh_parametersOf_y : MethodName := ⟨qh_R, "parametersOf", "(I)J"⟩
abbrev qh_parametersOf_c : ByteArray := prog_3_method_20_code
def qh_environmentSymbolOf_y : MethodName := ⟨qh_R, "environmentSymbolOf", "(I)I"⟩
abbrev qh_environmentSymbolOf_c : ByteArray := prog_3_method_21_code
def qh_scopeOf_y : MethodName := ⟨qh_R, "scopeOf", "(I)I"⟩
abbrev qh_scopeOf_c : ByteArray := prog_3_method_22_code
def qh_addEnvironment_y : MethodName := ⟨qh_R, "addEnvironment", "(I)I"⟩
abbrev qh_addEnvironment_c : ByteArray := prog_3_method_23_code
def qh_parentOf_y : MethodName := ⟨qh_R, "parentOf", "(I)I"⟩
abbrev qh_parentOf_c : ByteArray := prog_3_method_24_code
def qh_latestBindingOf_y : MethodName := ⟨qh_R, "latestBindingOf", "(I)I"⟩
abbrev qh_latestBindingOf_c : ByteArray := prog_3_method_25_code
def qh_packLink_y : MethodName := ⟨qh_R, "packLink", "(II)J"⟩
abbrev qh_packLink_c : ByteArray := prog_3_method_26_code
def qh_symbolIn_y : MethodName := ⟨qh_R, "symbolIn", "(J)I"⟩
abbrev qh_symbolIn_c : ByteArray := prog_3_method_27_code
def qh_nextIn_y : MethodName := ⟨qh_R, "nextIn", "(J)I"⟩
abbrev qh_nextIn_c : ByteArray := prog_3_method_28_code
def qh_boundValueOf_y : MethodName := ⟨qh_R, "boundValueOf", "(I)J"⟩
abbrev qh_boundValueOf_c : ByteArray := prog_3_method_29_code
def qh_countBindings_y : MethodName := ⟨qh_R, "countBindings", "(I)I"⟩
abbrev qh_countBindings_c : ByteArray := prog_3_method_30_code
def qh_ownBinding_y : MethodName := ⟨qh_R, "ownBinding", "(II)I"⟩
abbrev qh_ownBinding_c : ByteArray := prog_3_method_31_code
def qh_visibleBinding_y : MethodName := ⟨qh_R, "visibleBinding", "(II)I"⟩
abbrev qh_visibleBinding_c : ByteArray := prog_3_method_32_code
def qh_bind_y : MethodName := ⟨qh_R, "bind", "(IIJ)Z"⟩
abbrev qh_bind_c : ByteArray := prog_3_method_33_code
def qh_addBinding_y : MethodName := ⟨qh_R, "addBinding", "(IIJ)Z"⟩
abbrev qh_addBinding_c : ByteArray := prog_3_method_34_code
def qn_init_y : MethodName := ⟨qn_R, "<init>", "(LScopeInterpreter$Heap;)V"⟩
abbrev qn_init_c : ByteArray := prog_4_method_1_code
def qn_forget_y : MethodName := ⟨qn_R, "forget", "()V"⟩
abbrev qn_forget_c : ByteArray := prog_4_method_2_code
def qn_stepCount_y : MethodName := ⟨qn_R, "stepCount", "()I"⟩
abbrev qn_stepCount_c : ByteArray := prog_4_method_3_code
def qn_mostFrames_y : MethodName := ⟨qn_R, "mostFrames", "()I"⟩
abbrev qn_mostFrames_c : ByteArray := prog_4_method_4_code
def qn_answer_y : MethodName := ⟨qn_R, "answer", "()J"⟩
abbrev qn_answer_c : ByteArray := prog_4_method_5_code
def qn_run_y : MethodName := ⟨qn_R, "run", "(JII)I"⟩
abbrev qn_run_c : ByteArray := prog_4_method_6_code
def qn_fail_y : MethodName := ⟨qn_R, "fail", "(I)V"⟩
abbrev qn_fail_c : ByteArray := prog_4_method_7_code
def qn_giveBack_y : MethodName := ⟨qn_R, "giveBack", "(J)V"⟩
abbrev qn_giveBack_c : ByteArray := prog_4_method_8_code
def qn_giveBackNew_y : MethodName := ⟨qn_R, "giveBackNew", "(II)V"⟩
abbrev qn_giveBackNew_c : ByteArray := prog_4_method_9_code
def qn_giveBackInteger_y : MethodName := ⟨qn_R, "giveBackInteger", "(J)V"⟩
abbrev qn_giveBackInteger_c : ByteArray := prog_4_method_10_code
def qn_combine_y : MethodName := ⟨qn_R, "combine", "(JJ)V"⟩
abbrev qn_combine_c : ByteArray := prog_4_method_11_code
def qn_evaluateInTail_y : MethodName := ⟨qn_R, "evaluateInTail", "(J)V"⟩
abbrev qn_evaluateInTail_c : ByteArray := prog_4_method_12_code
def qn_evaluateWithFrame_y : MethodName := ⟨qn_R, "evaluateWithFrame", "(JIJJI)V"⟩
abbrev qn_evaluateWithFrame_c : ByteArray := prog_4_method_13_code
def qn_evaluateCurrent_y : MethodName := ⟨qn_R, "evaluateCurrent", "()V"⟩
abbrev qn_evaluateCurrent_c : ByteArray := prog_4_method_14_code
def qn_lookUp_y : MethodName := ⟨qn_R, "lookUp", "(I)V"⟩
abbrev qn_lookUp_c : ByteArray := prog_4_method_15_code
def qn_combineCurrent_y : MethodName := ⟨qn_R, "combineCurrent", "()V"⟩
abbrev qn_combineCurrent_c : ByteArray := prog_4_method_16_code
def qn_returnCurrent_y : MethodName := ⟨qn_R, "returnCurrent", "()V"⟩
abbrev qn_returnCurrent_c : ByteArray := prog_4_method_17_code
def qn_combineApplicative_y : MethodName := ⟨qn_R, "combineApplicative", "()V"⟩
abbrev qn_combineApplicative_c : ByteArray := prog_4_method_18_code
def qn_evaluateArguments_y : MethodName := ⟨qn_R, "evaluateArguments", "(JJI)V"⟩
abbrev qn_evaluateArguments_c : ByteArray := prog_4_method_19_code
def qn_takeArgument_y : MethodName := ⟨qn_R, "takeArgument", "(JJI)V"⟩
abbrev qn_takeArgument_c : ByteArray := prog_4_method_20_code
def qn_combineWithArguments_y : MethodName := ⟨qn_R, "combineWithArguments", "(JI)V"⟩
abbrev qn_combineWithArguments_c : ByteArray := prog_4_method_21_code
def qn_combineCompound_y : MethodName := ⟨qn_R, "combineCompound", "(I)V"⟩
abbrev qn_combineCompound_c : ByteArray := prog_4_method_22_code
def qn_bindCaller_y : MethodName := ⟨qn_R, "bindCaller", "(II)Z"⟩
abbrev qn_bindCaller_c : ByteArray := prog_4_method_23_code
def qn_callPrimitive_y : MethodName := ⟨qn_R, "callPrimitive", "(I)V"⟩
abbrev qn_callPrimitive_c : ByteArray := prog_4_method_24_code
def qn_hasDueCount_y : MethodName := ⟨qn_R, "hasDueCount", "(II)Z"⟩
abbrev qn_hasDueCount_c : ByteArray := prog_4_method_25_code
def qn_haveDueKinds_y : MethodName := ⟨qn_R, "haveDueKinds", "(II)Z"⟩
abbrev qn_haveDueKinds_c : ByteArray := prog_4_method_26_code
def qn_canNameCaller_y : MethodName := ⟨qn_R, "canNameCaller", "(J)Z"⟩
abbrev qn_canNameCaller_c : ByteArray := prog_4_method_27_code
def qn_areIntegers_y : MethodName := ⟨qn_R, "areIntegers", "()Z"⟩
abbrev qn_areIntegers_c : ByteArray := prog_4_method_28_code
def qn_isOperand_y : MethodName := ⟨qn_R, "isOperand", "(II)Z"⟩
abbrev qn_isOperand_c : ByteArray := prog_4_method_29_code
def qn_operand_y : MethodName := ⟨qn_R, "operand", "(I)J"⟩
abbrev qn_operand_c : ByteArray := prog_4_method_30_code
def qn_callSpecial_y : MethodName := ⟨qn_R, "callSpecial", "(I)V"⟩
abbrev qn_callSpecial_c : ByteArray := prog_4_method_31_code
def qn_makeOperative_y : MethodName := ⟨qn_R, "makeOperative", "(JJJ)V"⟩
abbrev qn_makeOperative_c : ByteArray := prog_4_method_32_code
def qn_makeFunction_y : MethodName := ⟨qn_R, "makeFunction", "(JJ)V"⟩
abbrev qn_makeFunction_c : ByteArray := prog_4_method_33_code
def qn_choose_y : MethodName := ⟨qn_R, "choose", "(J)V"⟩
abbrev qn_choose_c : ByteArray := prog_4_method_34_code
def qn_takePlace_y : MethodName := ⟨qn_R, "takePlace", "(J)V"⟩
abbrev qn_takePlace_c : ByteArray := prog_4_method_35_code
def qn_bindCurrent_y : MethodName := ⟨qn_R, "bindCurrent", "(IJ)V"⟩
abbrev qn_bindCurrent_c : ByteArray := prog_4_method_36_code
def qn_evaluateSequence_y : MethodName := ⟨qn_R, "evaluateSequence", "(J)V"⟩
abbrev qn_evaluateSequence_c : ByteArray := prog_4_method_37_code
def qn_callDataFunction_y : MethodName := ⟨qn_R, "callDataFunction", "(I)V"⟩
abbrev qn_callDataFunction_c : ByteArray := prog_4_method_38_code
def qn_accumulate_y : MethodName := ⟨qn_R, "accumulate", "(Z)V"⟩
abbrev qn_accumulate_c : ByteArray := prog_4_method_39_code
def qn_callScopeFunction_y : MethodName := ⟨qn_R, "callScopeFunction", "(II)V"⟩
abbrev qn_callScopeFunction_c : ByteArray := prog_4_method_40_code
def qn_makeEnvironment_y : MethodName := ⟨qn_R, "makeEnvironment", "(I)V"⟩
abbrev qn_makeEnvironment_c : ByteArray := prog_4_method_41_code
def qn_applyWithoutScope_y : MethodName := ⟨qn_R, "applyWithoutScope", "()V"⟩
abbrev qn_applyWithoutScope_c : ByteArray := prog_4_method_42_code
def qt_init_y : MethodName := ⟨qt_R, "<init>", "(LScopeInterpreter$Heap;)V"⟩
abbrev qt_init_c : ByteArray := prog_5_method_1_code
def qt_isParameterTree_y : MethodName := ⟨qt_R, "isParameterTree", "(J)Z"⟩
abbrev qt_isParameterTree_c : ByteArray := prog_5_method_2_code
def qt_matches_y : MethodName := ⟨qt_R, "matches", "(JJ)Z"⟩
abbrev qt_matches_c : ByteArray := prog_5_method_3_code
def qt_hasFound_y : MethodName := ⟨qt_R, "hasFound", "(I)Z"⟩
abbrev qt_hasFound_c : ByteArray := prog_5_method_4_code
def qt_bindFound_y : MethodName := ⟨qt_R, "bindFound", "(I)Z"⟩
abbrev qt_bindFound_c : ByteArray := prog_5_method_5_code
def qt_start_y : MethodName := ⟨qt_R, "start", "(JJ)V"⟩
abbrev qt_start_c : ByteArray := prog_5_method_6_code
def qt_putOff_y : MethodName := ⟨qt_R, "putOff", "(JJ)V"⟩
abbrev qt_putOff_c : ByteArray := prog_5_method_7_code
def qt_takeTree_y : MethodName := ⟨qt_R, "takeTree", "()J"⟩
abbrev qt_takeTree_c : ByteArray := prog_5_method_8_code
def qt_takenPart_y : MethodName := ⟨qt_R, "takenPart", "()J"⟩
abbrev qt_takenPart_c : ByteArray := prog_5_method_9_code
def qt_find_y : MethodName := ⟨qt_R, "find", "(IJ)V"⟩
abbrev qt_find_c : ByteArray := prog_5_method_10_code
def qw_make_y : MethodName := ⟨qw_R, "make", "(IJ)J"⟩
abbrev qw_make_c : ByteArray := prog_6_method_2_code
def qw_makeBoolean_y : MethodName := ⟨qw_R, "makeBoolean", "(Z)J"⟩
abbrev qw_makeBoolean_c : ByteArray := prog_6_method_3_code
def qw_kindOf_y : MethodName := ⟨qw_R, "kindOf", "(J)I"⟩
abbrev qw_kindOf_c : ByteArray := prog_6_method_4_code
def qw_contentOf_y : MethodName := ⟨qw_R, "contentOf", "(J)J"⟩
abbrev qw_contentOf_c : ByteArray := prog_6_method_5_code
def qw_rowOf_y : MethodName := ⟨qw_R, "rowOf", "(J)I"⟩
abbrev qw_rowOf_c : ByteArray := prog_6_method_6_code
def qw_isCombiner_y : MethodName := ⟨qw_R, "isCombiner", "(J)Z"⟩
abbrev qw_isCombiner_c : ByteArray := prog_6_method_7_code
def qw_isInteger_y : MethodName := ⟨qw_R, "isInteger", "(J)Z"⟩
abbrev qw_isInteger_c : ByteArray := prog_6_method_8_code
def qw_isSymbol_y : MethodName := ⟨qw_R, "isSymbol", "(I)Z"⟩
abbrev qw_isSymbol_c : ByteArray := prog_6_method_9_code
def qw_product_y : MethodName := ⟨qw_R, "product", "(JJ)J"⟩
abbrev qw_product_c : ByteArray := prog_6_method_10_code
end
section
/-! functions out of the bytecode -/
def qh_write (σ : qh_S) (a1 : Int32) (a2 : Int64) (a4 : Int64) : qh_S :=
  if a1 < (0 : Int32) then σ
  else if (4100 : Int32) ≤ a1 then σ
    else (qh_t_second (qh_t_first σ a1 a2) a1 a4)
def qw_make (a0 : Int32) (a1 : Int64) : Int64 :=
  ((a1 <<< 4) ||| (Int32.toInt64 a0))
def qh_secondAt (σ : qh_S) (a1 : Int32) : Int64 :=
  if a1 < (0 : Int32) then (3 : Int64)
  else if (4100 : Int32) ≤ a1 then (3 : Int64)
    else (qh_g_second σ (Int32.toNatClampNeg a1))
def qh_latestBindingOf (σ : qh_S) (a1 : Int32) : Int32 :=
  (Int64.toInt32 (qh_secondAt σ a1))
def qh_packLink (a0 : Int32) (a1 : Int32) : Int64 :=
  (((Int32.toInt64 a1) <<< 7) ||| (Int32.toInt64 a0))
def qh_bindInGround (σ : qh_S) (a1 : Int32) (a2 : Int64) : qh_S :=
  (qh_write (qh_write σ ((50 : Int32) + a1) a2 (qh_packLink a1 (qh_latestBindingOf σ (0 : Int32)))) (0 : Int32) (-1 : Int64) (Int32.toInt64 ((50 : Int32) + a1)))
def qh_restoreGround_L54 (N : Nat) : Nat → qh_S → Int32 → Option qh_S
  | 0 => fun _ _ => none
  | k + 1 => fun σ x1 =>
    if (25 : Int32) < x1 then some σ
    else (qh_restoreGround_L54 N k (qh_bindInGround (qh_write σ x1 (qw_make (5 : Int32) (Int32.toInt64 x1)) (0 : Int64)) x1 (qw_make (6 : Int32) (Int32.toInt64 x1))) (x1 + (1 : Int32)))
def qh_restoreGround_L28 (N : Nat) : Nat → qh_S → Int32 → Option qh_S
  | 0 => fun _ _ => none
  | k + 1 => fun σ x1 =>
    if (7 : Int32) < x1 then (qh_restoreGround_L54 N N σ (10 : Int32))
    else (qh_restoreGround_L28 N k (qh_bindInGround σ x1 (qw_make (5 : Int32) (Int32.toInt64 x1))) (x1 + (1 : Int32)))
def qh_restoreGround (N : Nat) (σ : qh_S)  : Option qh_S :=
  (qh_restoreGround_L28 N N (qh_write (qh_write (qh_s_nextRow σ (100 : Int32)) (0 : Int32) (-1 : Int64) (-1 : Int64)) (1 : Int32) (0 : Int64) (-1 : Int64)) (0 : Int32))
def qf_clear (σ : qf_S)  : qf_S :=
  (qf_s_most (qf_s_count σ (0 : Int32)) (0 : Int32))
def qn_forget (σ : qn_S)  : qn_S :=
  (qn_s_failure (qn_s_limit (qn_s_steps (qn_s_environment (qn_s_operands (qn_s_current (qn_s_mode (qn_s_argumentCount (qn_sF σ (qf_clear (qn_gF σ))) (0 : Int32)) (4 : Int32)) (3 : Int64)) (3 : Int64)) (1 : Int32)) (0 : Int32)) (0 : Int32)) (0 : Int32))
def qw_isInteger (a0 : Int64) : Int32 :=
  if a0 < (-1000000000000000 : Int64) then (0 : Int32)
  else if (1000000000000000 : Int64) < a0 then (0 : Int32)
    else (1 : Int32)
def qx_push (σ : qx_S) (a1 : Int64) : Int32 × qx_S :=
  if (qx_g_stackSize σ) < (0 : Int32) then ((-3 : Int32), σ)
  else if (qx_g_stackSize σ) < (40 : Int32) then (((qx_g_stackSize σ) + (1 : Int32)), (qx_s_stackSize (qx_t_stack σ (qx_g_stackSize σ) a1) ((qx_g_stackSize σ) + (1 : Int32))))
    else ((-3 : Int32), σ)
def qx_pushInteger (σ : qx_S) (a1 : Int64) : Int32 × qx_S :=
  if (qw_isInteger a1) = (0 : Int32) then ((-1 : Int32), σ)
  else ((qx_push σ (qw_make (0 : Int32) a1)).1, (qx_push σ (qw_make (0 : Int32) a1)).2)
def qw_makeBoolean (a0 : Int32) : Int64 :=
  if a0 = (0 : Int32) then (qw_make (1 : Int32) (0 : Int64))
  else (qw_make (1 : Int32) (1 : Int64))
def qx_pushBoolean (σ : qx_S) (a1 : Int32) : Int32 × qx_S :=
  ((qx_push σ (qw_makeBoolean a1)).1, (qx_push σ (qw_makeBoolean a1)).2)
def qw_isSymbol (a0 : Int32) : Int32 :=
  if a0 < (0 : Int32) then (0 : Int32)
  else if (100 : Int32) ≤ a0 then (0 : Int32)
    else (1 : Int32)
def qx_pushSymbol (σ : qx_S) (a1 : Int32) : Int32 × qx_S :=
  if (qw_isSymbol a1) = (0 : Int32) then ((-1 : Int32), σ)
  else ((qx_push σ (qw_make (2 : Int32) (Int32.toInt64 a1))).1, (qx_push σ (qw_make (2 : Int32) (Int32.toInt64 a1))).2)
def qx_pushEmpty (σ : qx_S) (a1 : Int32) : Int32 × qx_S :=
  if a1 = (0 : Int32) then ((qx_push σ (3 : Int64)).1, (qx_push σ (3 : Int64)).2)
  else ((qx_push σ (8 : Int64)).1, (qx_push σ (8 : Int64)).2)
def qx_pushEnvironment (σ : qx_S)  : Int32 × qx_S :=
  ((qx_push σ (qw_make (7 : Int32) (Int32.toInt64 (qx_g_present σ)))).1, (qx_push σ (qw_make (7 : Int32) (Int32.toInt64 (qx_g_present σ)))).2)
def qx_depthError (σ : qx_S) (a1 : Int32) : Int32 :=
  if (0 : Int32) ≤ a1 then if a1 < (qx_g_stackSize σ) then (0 : Int32)
    else (-2 : Int32)
  else (-1 : Int32)
def qx_valueAt (σ : qx_S) (a1 : Int32) : Int64 :=
  if (((qx_g_stackSize σ) - (1 : Int32)) - a1) < (0 : Int32) then (3 : Int64)
  else if (40 : Int32) ≤ (((qx_g_stackSize σ) - (1 : Int32)) - a1) then (3 : Int64)
    else (qx_g_stack σ (Int32.toNatClampNeg (((qx_g_stackSize σ) - (1 : Int32)) - a1)))
def qx_pushCopy (σ : qx_S) (a1 : Int32) : Int32 × qx_S :=
  if (qx_depthError σ a1) = (0 : Int32) then ((qx_push σ (qx_valueAt σ a1)).1, (qx_push σ (qx_valueAt σ a1)).2)
  else ((qx_depthError σ a1), σ)
def qw_kindOf (a0 : Int64) : Int32 :=
  (Int64.toInt32 (a0 &&& (15 : Int64)))
def qw_rowOf (a0 : Int64) : Int32 :=
  (Int64.toInt32 (a0 >>> 4))
def qh_firstAt (σ : qh_S) (a1 : Int32) : Int64 :=
  if a1 < (0 : Int32) then (3 : Int64)
  else if (4100 : Int32) ≤ a1 then (3 : Int64)
    else (qh_g_first σ (Int32.toNatClampNeg a1))
def qh_carOf (σ : qh_S) (a1 : Int64) : Int64 :=
  (qh_firstAt σ (qw_rowOf a1))
def qh_cdrOf (σ : qh_S) (a1 : Int64) : Int64 :=
  (qh_secondAt σ (qw_rowOf a1))
def qh_underlyingOf (σ : qh_S) (a1 : Int64) : Int64 :=
  (qh_firstAt σ (qw_rowOf a1))
def qh_parentOf (σ : qh_S) (a1 : Int32) : Int32 :=
  (Int64.toInt32 (qh_firstAt σ a1))
def qx_pushParent (σ : qx_S) (a1 : Int32) : Int32 × qx_S :=
  if (qx_g_stackSize σ) < (40 : Int32) then if (qh_parentOf (qx_gH σ) a1) = (-1 : Int32) then ((-12 : Int32), σ)
    else ((qx_push σ (qw_make (7 : Int32) (Int32.toInt64 (qh_parentOf (qx_gH σ) a1)))).1, (qx_push σ (qw_make (7 : Int32) (Int32.toInt64 (qh_parentOf (qx_gH σ) a1)))).2)
  else ((-3 : Int32), σ)
def qx_pushPart_B11 (σ : qx_S) (x1 : Int32) (x2 : Int32) : Int32 × qx_S :=
  if (qx_depthError σ x1) = (0 : Int32) then if (qw_kindOf (qx_valueAt σ x1)) = (4 : Int32) then if x2 = (0 : Int32) then ((qx_push σ (qh_carOf (qx_gH σ) (qx_valueAt σ x1))).1, (qx_push σ (qh_carOf (qx_gH σ) (qx_valueAt σ x1))).2)
      else ((qx_push σ (qh_cdrOf (qx_gH σ) (qx_valueAt σ x1))).1, (qx_push σ (qh_cdrOf (qx_gH σ) (qx_valueAt σ x1))).2)
    else if x2 = (0 : Int32) then if (qw_kindOf (qx_valueAt σ x1)) = (6 : Int32) then ((qx_push σ (qh_underlyingOf (qx_gH σ) (qx_valueAt σ x1))).1, (qx_push σ (qh_underlyingOf (qx_gH σ) (qx_valueAt σ x1))).2)
        else if x2 = (0 : Int32) then if (qw_kindOf (qx_valueAt σ x1)) = (7 : Int32) then ((qx_pushParent σ (qw_rowOf (qx_valueAt σ x1))).1, (qx_pushParent σ (qw_rowOf (qx_valueAt σ x1))).2)
            else ((-4 : Int32), σ)
          else ((-4 : Int32), σ)
      else if x2 = (0 : Int32) then if (qw_kindOf (qx_valueAt σ x1)) = (7 : Int32) then ((qx_pushParent σ (qw_rowOf (qx_valueAt σ x1))).1, (qx_pushParent σ (qw_rowOf (qx_valueAt σ x1))).2)
          else ((-4 : Int32), σ)
        else ((-4 : Int32), σ)
  else ((qx_depthError σ x1), σ)
def qx_pushPart (σ : qx_S) (a1 : Int32) (a2 : Int32) : Int32 × qx_S :=
  if a2 = (0 : Int32) then (qx_pushPart_B11 σ a1 a2)
  else if a2 = (1 : Int32) then (qx_pushPart_B11 σ a1 a2)
    else ((-1 : Int32), σ)
def qx_kindError (σ : qx_S) (a1 : Int32) (a2 : Int32) : Int32 :=
  if (qx_depthError σ a1) = (0 : Int32) then if (qw_kindOf (qx_valueAt σ a1)) = a2 then (0 : Int32)
    else (-4 : Int32)
  else (qx_depthError σ a1)
def qh_symbolIn (a0 : Int64) : Int32 :=
  (Int64.toInt32 (a0 &&& (127 : Int64)))
def qh_nextIn (a0 : Int64) : Int32 :=
  (Int64.toInt32 (a0 >>> 7))
def qh_ownBinding_L9 (N : Nat) : Nat → qh_S → Int32 → Int32 → Int32 → Option Int32
  | 0 => fun _ _ _ _ => none
  | k + 1 => fun σ x2 x3 x4 =>
    if x3 = (-1 : Int32) then some (-1 : Int32)
    else if (4100 : Int32) ≤ x4 then some (-1 : Int32)
      else if (qh_symbolIn (qh_secondAt σ x3)) = x2 then some x3
        else (qh_ownBinding_L9 N k σ x2 (qh_nextIn (qh_secondAt σ x3)) (x4 + (1 : Int32)))
def qh_ownBinding (N : Nat) (σ : qh_S) (a1 : Int32) (a2 : Int32) : Option Int32 :=
  (qh_ownBinding_L9 N N σ a2 (qh_latestBindingOf σ a1) (0 : Int32))
def qh_visibleBinding_L5 (N : Nat) : Nat → qh_S → Int32 → Int32 → Int32 → Option Int32
  | 0 => fun _ _ _ _ => none
  | k + 1 => fun σ x2 x3 x4 =>
    if x3 = (-1 : Int32) then some (-1 : Int32)
    else if (4100 : Int32) ≤ x4 then some (-1 : Int32)
      else ((qh_ownBinding N σ x3 x2)).bind fun r3 =>
          if r3 = (-1 : Int32) then (qh_visibleBinding_L5 N k σ x2 (qh_parentOf σ x3) (x4 + (1 : Int32)))
          else some r3
def qh_visibleBinding (N : Nat) (σ : qh_S) (a1 : Int32) (a2 : Int32) : Option Int32 :=
  (qh_visibleBinding_L5 N N σ a2 a1 (0 : Int32))
def qh_boundValueOf (σ : qh_S) (a1 : Int32) : Int64 :=
  (qh_firstAt σ a1)
def qx_pushBinding (N : Nat) (σ : qx_S) (a1 : Int32) (a2 : Int32) : Option (Int32 × qx_S) :=
  if (qw_isSymbol a2) = (0 : Int32) then some ((-1 : Int32), σ)
  else if (qx_kindError σ a1 (7 : Int32)) = (0 : Int32) then ((qh_visibleBinding N (qx_gH σ) (qw_rowOf (qx_valueAt σ a1)) a2)).bind fun r3 =>
        if r3 = (-1 : Int32) then some ((-6 : Int32), σ)
        else some ((qx_push σ (qh_boundValueOf (qx_gH σ) r3)).1, (qx_push σ (qh_boundValueOf (qx_gH σ) r3)).2)
    else some ((qx_kindError σ a1 (7 : Int32)), σ)
def qh_add (σ : qh_S) (a1 : Int64) (a3 : Int64) : Int32 × qh_S :=
  if (qh_g_nextRow σ) < (0 : Int32) then ((-1 : Int32), σ)
  else if (qh_g_nextRow σ) < (4100 : Int32) then ((qh_g_nextRow σ), (qh_s_nextRow (qh_t_second (qh_t_first σ (qh_g_nextRow σ) a1) (qh_g_nextRow σ) a3) ((qh_g_nextRow σ) + (1 : Int32))))
    else ((-1 : Int32), σ)
def qh_addPair (σ : qh_S) (a1 : Int64) (a3 : Int64) : Int32 × qh_S :=
  ((qh_add σ a1 a3).1, (qh_add σ a1 a3).2)
def qx_makePair (σ : qx_S)  : Int32 × qx_S :=
  if (2 : Int32) ≤ (qx_g_stackSize σ) then if (qh_addPair (qx_gH σ) (qx_valueAt σ (1 : Int32)) (qx_valueAt σ (0 : Int32))).1 = (-1 : Int32) then ((-5 : Int32), (qx_sH σ (qh_addPair (qx_gH σ) (qx_valueAt σ (1 : Int32)) (qx_valueAt σ (0 : Int32))).2))
    else ((qx_push (qx_s_stackSize (qx_sH σ (qh_addPair (qx_gH σ) (qx_valueAt σ (1 : Int32)) (qx_valueAt σ (0 : Int32))).2) ((qx_g_stackSize σ) - (2 : Int32))) (qw_make (4 : Int32) (Int32.toInt64 (qh_addPair (qx_gH σ) (qx_valueAt σ (1 : Int32)) (qx_valueAt σ (0 : Int32))).1))).1, (qx_push (qx_s_stackSize (qx_sH σ (qh_addPair (qx_gH σ) (qx_valueAt σ (1 : Int32)) (qx_valueAt σ (0 : Int32))).2) ((qx_g_stackSize σ) - (2 : Int32))) (qw_make (4 : Int32) (Int32.toInt64 (qh_addPair (qx_gH σ) (qx_valueAt σ (1 : Int32)) (qx_valueAt σ (0 : Int32))).1))).2)
  else ((-2 : Int32), σ)
def qx_countError (σ : qx_S) (a1 : Int32) : Int32 :=
  if a1 < (0 : Int32) then (-1 : Int32)
  else if a1 ≤ (40 : Int32) then if a1 ≤ (qx_g_stackSize σ) then (0 : Int32)
      else (-2 : Int32)
    else (-1 : Int32)
def qh_hasRoomFor (σ : qh_S) (a1 : Int32) : Int32 :=
  if ((4100 : Int32) - (qh_g_nextRow σ)) < a1 then (0 : Int32)
  else (1 : Int32)
def qx_makeList_L33 (N : Nat) : Nat → qx_S → Int32 → Int64 → Int32 → Option (Int32 × qx_S)
  | 0 => fun _ _ _ _ => none
  | k + 1 => fun σ x1 x3 x5 =>
    if x1 ≤ x5 then some ((qx_push (qx_s_stackSize σ ((qx_g_stackSize σ) - x1)) x3).1, (qx_push (qx_s_stackSize σ ((qx_g_stackSize σ) - x1)) x3).2)
    else (qx_makeList_L33 N k (qx_sH σ (qh_addPair (qx_gH σ) (qx_valueAt σ x5) x3).2) x1 (qw_make (4 : Int32) (Int32.toInt64 (qh_addPair (qx_gH σ) (qx_valueAt σ x5) x3).1)) (x5 + (1 : Int32)))
def qx_makeList (N : Nat) (σ : qx_S) (a1 : Int32) : Option (Int32 × qx_S) :=
  if (qx_countError σ a1) = (0 : Int32) then if (qh_hasRoomFor (qx_gH σ) a1) = (0 : Int32) then some ((-5 : Int32), σ)
    else (qx_makeList_L33 N N σ a1 (3 : Int64) (0 : Int32))
  else some ((qx_countError σ a1), σ)
def qx_drop (σ : qx_S) (a1 : Int32) : Int32 × qx_S :=
  if (qx_countError σ a1) = (0 : Int32) then (((qx_g_stackSize σ) - a1), (qx_s_stackSize σ ((qx_g_stackSize σ) - a1)))
  else ((qx_countError σ a1), σ)
def qh_objectCount (σ : qh_S)  : Int32 :=
  ((qh_g_nextRow σ) - (100 : Int32))
def qx_reset (N : Nat) (σ : qx_S)  : Option (Int32 × qx_S) :=
  ((qh_restoreGround N (qx_gH σ))).bind fun r1 =>
    some ((qh_objectCount (qx_gH σ)), (qx_s_limit (qx_s_present (qx_s_stackSize (qx_sN (qx_sH σ r1) (qn_forget (qx_gN (qx_sH σ r1)))) (0 : Int32)) (1 : Int32)) (1000 : Int32)))
def qx_size (σ : qx_S)  : Int32 :=
  (qx_g_stackSize σ)
def qx_kind (σ : qx_S) (a1 : Int32) : Int32 :=
  if (qx_depthError σ a1) = (0 : Int32) then (qw_kindOf (qx_valueAt σ a1))
  else (qx_depthError σ a1)
def qw_contentOf (a0 : Int64) : Int64 :=
  (a0 >>> 4)
def qx_value (σ : qx_S) (a1 : Int32) : Int64 :=
  if (qx_depthError σ a1) = (0 : Int32) then if (qw_kindOf (qx_valueAt σ a1)) = (0 : Int32) then if (1 : Int32) = (0 : Int32) then (-9223372036854775808 : Int64)
      else (qw_contentOf (qx_valueAt σ a1))
    else if (qw_kindOf (qx_valueAt σ a1)) = (1 : Int32) then if (1 : Int32) = (0 : Int32) then (-9223372036854775808 : Int64)
        else (qw_contentOf (qx_valueAt σ a1))
      else if (qw_kindOf (qx_valueAt σ a1)) = (2 : Int32) then if (1 : Int32) = (0 : Int32) then (-9223372036854775808 : Int64)
          else (qw_contentOf (qx_valueAt σ a1))
        else if (0 : Int32) = (0 : Int32) then (-9223372036854775808 : Int64)
          else (qw_contentOf (qx_valueAt σ a1))
  else (-9223372036854775808 : Int64)
def qx_areSame (σ : qx_S) (a1 : Int32) (a2 : Int32) : Int32 :=
  if a1 < (0 : Int32) then (-1 : Int32)
  else if (0 : Int32) ≤ a2 then if (qx_g_stackSize σ) ≤ a1 then (-2 : Int32)
      else if a2 < (qx_g_stackSize σ) then if (qx_valueAt σ a1) = (qx_valueAt σ a2) then (1 : Int32)
          else (0 : Int32)
        else (-2 : Int32)
    else (-1 : Int32)
def qh_lengthOf_L5 (N : Nat) : Nat → qh_S → Int64 → Int32 → Option Int32
  | 0 => fun _ _ _ => none
  | k + 1 => fun σ x3 x5 =>
    if (4100 : Int32) < x5 then some (-1 : Int32)
    else if x3 = (3 : Int64) then some x5
      else if (qw_kindOf x3) = (4 : Int32) then (qh_lengthOf_L5 N k σ (qh_cdrOf σ x3) (x5 + (1 : Int32)))
        else some (-1 : Int32)
def qh_lengthOf (N : Nat) (σ : qh_S) (a1 : Int64) : Option Int32 :=
  (qh_lengthOf_L5 N N σ a1 (0 : Int32))
def qx_length (N : Nat) (σ : qx_S) (a1 : Int32) : Option Int32 :=
  if (qx_depthError σ a1) = (0 : Int32) then ((qh_lengthOf N (qx_gH σ) (qx_valueAt σ a1))).bind fun r2 =>
      if r2 = (-1 : Int32) then some (-4 : Int32)
      else some r2
  else some (qx_depthError σ a1)
def qh_countBindings_L8 (N : Nat) : Nat → qh_S → Int32 → Int32 → Option Int32
  | 0 => fun _ _ _ => none
  | k + 1 => fun σ x2 x3 =>
    if x3 = (-1 : Int32) then some x2
    else if (4100 : Int32) ≤ x2 then some x2
      else (qh_countBindings_L8 N k σ (x2 + (1 : Int32)) (qh_nextIn (qh_secondAt σ x3)))
def qh_countBindings (N : Nat) (σ : qh_S) (a1 : Int32) : Option Int32 :=
  (qh_countBindings_L8 N N σ (0 : Int32) (qh_latestBindingOf σ a1))
def qx_bindingCount (N : Nat) (σ : qx_S) (a1 : Int32) : Option Int32 :=
  if (qx_kindError σ a1 (7 : Int32)) = (0 : Int32) then ((qh_countBindings N (qx_gH σ) (qw_rowOf (qx_valueAt σ a1)))).bind fun r2 =>
      some r2
  else some (qx_kindError σ a1 (7 : Int32))
def qn_evaluateInTail (σ : qn_S) (a1 : Int64) : qn_S :=
  (qn_s_mode (qn_s_current σ a1) (0 : Int32))
def qn_fail (σ : qn_S) (a1 : Int32) : qn_S :=
  (qn_s_mode (qn_s_failure σ a1) (4 : Int32))
def qf_put (σ : qf_S) (a1 : Int32) (a2 : Int32) (a3 : Int64) (a5 : Int64) (a7 : Int32) : Int32 × qf_S :=
  if (qf_g_count σ) < (0 : Int32) then ((0 : Int32), σ)
  else if (qf_g_count σ) < (300 : Int32) then if ((qf_g_count σ) + (1 : Int32)) ≤ (qf_g_most σ) then ((1 : Int32), (qf_s_count (qf_t_gathereds (qf_t_helds (qf_t_rests (qf_t_environments (qf_t_tasks σ (qf_g_count σ) a1) (qf_g_count σ) a2) (qf_g_count σ) a3) (qf_g_count σ) a5) (qf_g_count σ) a7) ((qf_g_count σ) + (1 : Int32))))
      else ((1 : Int32), (qf_s_most (qf_s_count (qf_t_gathereds (qf_t_helds (qf_t_rests (qf_t_environments (qf_t_tasks σ (qf_g_count σ) a1) (qf_g_count σ) a2) (qf_g_count σ) a3) (qf_g_count σ) a5) (qf_g_count σ) a7) ((qf_g_count σ) + (1 : Int32))) ((qf_g_count σ) + (1 : Int32))))
    else ((0 : Int32), σ)
def qn_evaluateWithFrame (σ : qn_S) (a1 : Int64) (a3 : Int32) (a4 : Int64) (a6 : Int64) (a8 : Int32) : qn_S :=
  if (qf_put (qn_gF σ) a3 (qn_g_environment σ) a4 a6 a8).1 = (0 : Int32) then (qn_fail (qn_sF σ (qf_put (qn_gF σ) a3 (qn_g_environment σ) a4 a6 a8).2) (-11 : Int32))
  else (qn_evaluateInTail (qn_sF σ (qf_put (qn_gF σ) a3 (qn_g_environment σ) a4 a6 a8).2) a1)
def qn_giveBack (σ : qn_S) (a1 : Int64) : qn_S :=
  (qn_s_mode (qn_s_current σ a1) (3 : Int32))
def qn_lookUp (N : Nat) (σ : qn_S) (a1 : Int32) : Option qn_S :=
  ((qh_visibleBinding N (qn_gH σ) (qn_g_environment σ) a1)).bind fun r1 =>
    if r1 = (-1 : Int32) then some (qn_fail σ (-6 : Int32))
    else some (qn_giveBack σ (qh_boundValueOf (qn_gH σ) r1))
def qn_evaluateCurrent (N : Nat) (σ : qn_S)  : Option qn_S :=
  if (qn_g_steps σ) < (qn_g_limit σ) then if (qw_kindOf (qn_g_current σ)) = (4 : Int32) then some (qn_evaluateWithFrame (qn_s_steps σ ((qn_g_steps σ) + (1 : Int32))) (qh_carOf (qn_gH σ) (qn_g_current σ)) (0 : Int32) (qh_cdrOf (qn_gH σ) (qn_g_current σ)) (3 : Int64) (0 : Int32))
    else if (qw_kindOf (qn_g_current σ)) = (2 : Int32) then ((qn_lookUp N (qn_s_steps σ ((qn_g_steps σ) + (1 : Int32))) (qw_rowOf (qn_g_current σ)))).bind fun r4 =>
          some r4
      else some (qn_giveBack (qn_s_steps σ ((qn_g_steps σ) + (1 : Int32))) (qn_g_current σ))
  else some (qn_fail σ (-10 : Int32))
def qn_combine (σ : qn_S) (a1 : Int64) (a3 : Int64) : qn_S :=
  (qn_s_mode (qn_s_operands (qn_s_current σ a1) a3) (1 : Int32))
def qn_combineWithArguments_L8 (N : Nat) : Nat → qn_S → Int64 → Int32 → Int64 → Int32 → Option qn_S
  | 0 => fun _ _ _ _ _ => none
  | k + 1 => fun σ x1 x3 x4 x6 =>
    if x3 ≤ x6 then some (qn_combine σ x1 x4)
    else if (qn_g_argumentCount σ) ≤ (0 : Int32) then some (qn_combine σ x1 x4)
      else if inb ((qn_g_argumentCount σ) - (1 : Int32)) 1500 = true then if (qh_addPair (qn_gH σ) (qn_g_arguments σ (Int32.toNatClampNeg ((qn_g_argumentCount σ) - (1 : Int32)))) x4).1 = (-1 : Int32) then some (qn_fail (qn_sH σ (qh_addPair (qn_gH σ) (qn_g_arguments σ (Int32.toNatClampNeg ((qn_g_argumentCount σ) - (1 : Int32)))) x4).2) (-5 : Int32))
          else (qn_combineWithArguments_L8 N k (qn_s_argumentCount (qn_sH σ (qh_addPair (qn_gH σ) (qn_g_arguments σ (Int32.toNatClampNeg ((qn_g_argumentCount σ) - (1 : Int32)))) x4).2) ((qn_g_argumentCount σ) - (1 : Int32))) x1 x3 (qw_make (4 : Int32) (Int32.toInt64 (qh_addPair (qn_gH σ) (qn_g_arguments σ (Int32.toNatClampNeg ((qn_g_argumentCount σ) - (1 : Int32)))) x4).1)) (x6 + (1 : Int32)))
        else none
def qn_combineWithArguments (N : Nat) (σ : qn_S) (a1 : Int64) (a3 : Int32) : Option qn_S :=
  (qn_combineWithArguments_L8 N N σ a1 a3 (3 : Int64) (0 : Int32))
def qn_evaluateArguments (N : Nat) (σ : qn_S) (a1 : Int64) (a3 : Int64) (a5 : Int32) : Option qn_S :=
  if a1 = (3 : Int64) then ((qn_combineWithArguments N σ a3 a5)).bind fun r2 =>
      some r2
  else some (qn_evaluateWithFrame σ (qh_carOf (qn_gH σ) a1) (1 : Int32) (qh_cdrOf (qn_gH σ) a1) a3 a5)
def qn_combineApplicative (N : Nat) (σ : qn_S)  : Option qn_S :=
  ((qh_lengthOf N (qn_gH σ) (qn_g_operands σ))).bind fun r1 =>
    if r1 = (-1 : Int32) then some (qn_fail σ (-8 : Int32))
    else ((qn_evaluateArguments N σ (qn_g_operands σ) (qh_underlyingOf (qn_gH σ) (qn_g_current σ)) (0 : Int32))).bind fun r4 =>
        some r4
def qh_isPrimitive (a0 : Int32) : Int32 :=
  if (100 : Int32) ≤ a0 then (0 : Int32)
  else (1 : Int32)
def qh_parametersOf (σ : qh_S) (a1 : Int32) : Int64 :=
  ((qh_secondAt σ a1) >>> 20)
def qt_putOff (σ : qt_S) (a1 : Int64) (a3 : Int64) : qt_S :=
  if (qt_g_pendingCount σ) < (0 : Int32) then σ
  else if (100 : Int32) < (qt_g_pendingCount σ) then σ
    else (qt_s_pendingCount (qt_t_pendingParts (qt_t_pendingTrees σ (qt_g_pendingCount σ) a1) (qt_g_pendingCount σ) a3) ((qt_g_pendingCount σ) + (1 : Int32)))
def qt_start (σ : qt_S) (a1 : Int64) (a3 : Int64) : qt_S :=
  (qt_putOff (qt_s_pendingCount (qt_s_symbolCount σ (0 : Int32)) (0 : Int32)) a1 a3)
def qt_takeTree (σ : qt_S)  : Int64 × qt_S :=
  if ((qt_g_pendingCount σ) - (1 : Int32)) < (0 : Int32) then ((3 : Int64), (qt_s_pendingCount σ ((qt_g_pendingCount σ) - (1 : Int32))))
  else if (100 : Int32) < ((qt_g_pendingCount σ) - (1 : Int32)) then ((3 : Int64), (qt_s_pendingCount σ ((qt_g_pendingCount σ) - (1 : Int32))))
    else ((qt_g_pendingTrees σ (Int32.toNatClampNeg ((qt_g_pendingCount σ) - (1 : Int32)))), (qt_s_pendingCount σ ((qt_g_pendingCount σ) - (1 : Int32))))
def qt_takenPart (σ : qt_S)  : Int64 :=
  if (qt_g_pendingCount σ) < (0 : Int32) then (3 : Int64)
  else if (100 : Int32) < (qt_g_pendingCount σ) then (3 : Int64)
    else (qt_g_pendingParts σ (Int32.toNatClampNeg (qt_g_pendingCount σ)))
def qt_find (σ : qt_S) (a1 : Int32) (a2 : Int64) : qt_S :=
  if (qt_g_symbolCount σ) < (0 : Int32) then σ
  else if (100 : Int32) ≤ (qt_g_symbolCount σ) then σ
    else (qt_s_symbolCount (qt_t_parts (qt_t_symbols σ (qt_g_symbolCount σ) a1) (qt_g_symbolCount σ) a2) ((qt_g_symbolCount σ) + (1 : Int32)))
def qt_matches_L9 (N : Nat) : Nat → qt_S → Int32 → Option (Int32 × qt_S)
  | 0 => fun _ _ => none
  | k + 1 => fun σ x5 =>
    if (201 : Int32) ≤ x5 then if (qt_g_pendingCount σ) = (0 : Int32) then some ((1 : Int32), σ)
      else some ((0 : Int32), σ)
    else if (qt_g_pendingCount σ) ≤ (0 : Int32) then if (qt_g_pendingCount σ) = (0 : Int32) then some ((1 : Int32), σ)
        else some ((0 : Int32), σ)
      else if (qw_kindOf (qt_takeTree σ).1) = (2 : Int32) then (qt_matches_L9 N k (qt_find (qt_takeTree σ).2 (qw_rowOf (qt_takeTree σ).1) (qt_takenPart (qt_takeTree σ).2)) (x5 + (1 : Int32)))
        else if (qw_kindOf (qt_takeTree σ).1) = (3 : Int32) then if (qt_takenPart (qt_takeTree σ).2) = (3 : Int64) then (qt_matches_L9 N k (qt_takeTree σ).2 (x5 + (1 : Int32)))
            else some ((0 : Int32), (qt_takeTree σ).2)
          else if (qw_kindOf (qt_takeTree σ).1) = (4 : Int32) then if (qw_kindOf (qt_takenPart (qt_takeTree σ).2)) = (4 : Int32) then (qt_matches_L9 N k (qt_putOff (qt_putOff (qt_takeTree σ).2 (qh_cdrOf (qt_gH (qt_takeTree σ).2) (qt_takeTree σ).1) (qh_cdrOf (qt_gH (qt_takeTree σ).2) (qt_takenPart (qt_takeTree σ).2))) (qh_carOf (qt_gH (qt_putOff (qt_takeTree σ).2 (qh_cdrOf (qt_gH (qt_takeTree σ).2) (qt_takeTree σ).1) (qh_cdrOf (qt_gH (qt_takeTree σ).2) (qt_takenPart (qt_takeTree σ).2)))) (qt_takeTree σ).1) (qh_carOf (qt_gH (qt_putOff (qt_takeTree σ).2 (qh_cdrOf (qt_gH (qt_takeTree σ).2) (qt_takeTree σ).1) (qh_cdrOf (qt_gH (qt_takeTree σ).2) (qt_takenPart (qt_takeTree σ).2)))) (qt_takenPart (qt_takeTree σ).2))) (x5 + (1 : Int32)))
              else some ((0 : Int32), (qt_takeTree σ).2)
            else (qt_matches_L9 N k (qt_takeTree σ).2 (x5 + (1 : Int32)))
def qt_matches (N : Nat) (σ : qt_S) (a1 : Int64) (a3 : Int64) : Option (Int32 × qt_S) :=
  (qt_matches_L9 N N (qt_start σ a1 a3) (0 : Int32))
def qh_scopeOf (σ : qh_S) (a1 : Int32) : Int32 :=
  (Int64.toInt32 ((qh_secondAt σ a1) &&& (8191 : Int64)))
def qh_addEnvironment (σ : qh_S) (a1 : Int32) : Int32 × qh_S :=
  ((qh_add σ (Int32.toInt64 a1) (-1 : Int64)).1, (qh_add σ (Int32.toInt64 a1) (-1 : Int64)).2)
def qh_addBinding (σ : qh_S) (a1 : Int32) (a2 : Int32) (a3 : Int64) : Int32 × qh_S :=
  if (qh_add σ a3 (qh_packLink a2 (qh_latestBindingOf σ a1))).1 = (-1 : Int32) then ((0 : Int32), (qh_add σ a3 (qh_packLink a2 (qh_latestBindingOf σ a1))).2)
  else ((1 : Int32), (qh_write (qh_add σ a3 (qh_packLink a2 (qh_latestBindingOf σ a1))).2 a1 (qh_firstAt (qh_add σ a3 (qh_packLink a2 (qh_latestBindingOf σ a1))).2 a1) (Int32.toInt64 (qh_add σ a3 (qh_packLink a2 (qh_latestBindingOf σ a1))).1)))
def qt_bindFound_L2 (N : Nat) : Nat → qt_S → Int32 → Int32 → Option (Int32 × qt_S)
  | 0 => fun _ _ _ => none
  | k + 1 => fun σ x1 x2 =>
    if (qt_g_symbolCount σ) ≤ x2 then some ((1 : Int32), σ)
    else if (100 : Int32) ≤ x2 then some ((1 : Int32), σ)
      else if inb x2 100 = true then if inb x2 100 = true then if (qh_addBinding (qt_gH σ) x1 (qt_g_symbols σ (Int32.toNatClampNeg x2)) (qt_g_parts σ (Int32.toNatClampNeg x2))).1 = (0 : Int32) then some ((0 : Int32), (qt_sH σ (qh_addBinding (qt_gH σ) x1 (qt_g_symbols σ (Int32.toNatClampNeg x2)) (qt_g_parts σ (Int32.toNatClampNeg x2))).2))
            else (qt_bindFound_L2 N k (qt_sH σ (qh_addBinding (qt_gH σ) x1 (qt_g_symbols σ (Int32.toNatClampNeg x2)) (qt_g_parts σ (Int32.toNatClampNeg x2))).2) x1 (x2 + (1 : Int32)))
          else none
        else none
def qt_bindFound (N : Nat) (σ : qt_S) (a1 : Int32) : Option (Int32 × qt_S) :=
  (qt_bindFound_L2 N N σ a1 (0 : Int32))
def qh_environmentSymbolOf (σ : qh_S) (a1 : Int32) : Int32 :=
  (Int64.toInt32 (((qh_secondAt σ a1) >>> 13) &&& (127 : Int64)))
def qn_bindCaller (σ : qn_S) (a1 : Int32) (a2 : Int32) : Int32 × qn_S :=
  if a2 = (127 : Int32) then ((1 : Int32), σ)
  else if (qh_addBinding (qn_gH σ) a1 a2 (qw_make (7 : Int32) (Int32.toInt64 (qn_g_environment σ)))).1 = (0 : Int32) then ((0 : Int32), (qn_sH σ (qh_addBinding (qn_gH σ) a1 a2 (qw_make (7 : Int32) (Int32.toInt64 (qn_g_environment σ)))).2))
    else ((1 : Int32), (qn_sH σ (qh_addBinding (qn_gH σ) a1 a2 (qw_make (7 : Int32) (Int32.toInt64 (qn_g_environment σ)))).2))
def qh_bodyOf (σ : qh_S) (a1 : Int32) : Int64 :=
  (qh_firstAt σ a1)
def qn_combineCompound (N : Nat) (σ : qn_S) (a1 : Int32) : Option qn_S :=
  ((qt_matches N (qn_gT σ) (qh_parametersOf (qn_gH σ) a1) (qn_g_operands σ))).bind fun r1 =>
    if r1.1 = (0 : Int32) then some (qn_fail (qn_sT σ r1.2) (-8 : Int32))
    else if (qh_addEnvironment (qn_gH (qn_sT σ r1.2)) (qh_scopeOf (qn_gH (qn_sT σ r1.2)) a1)).1 = (-1 : Int32) then some (qn_fail (qn_sH (qn_sT σ r1.2) (qh_addEnvironment (qn_gH (qn_sT σ r1.2)) (qh_scopeOf (qn_gH (qn_sT σ r1.2)) a1)).2) (-5 : Int32))
      else ((qt_bindFound N (qn_gT (qn_sH (qn_sT σ r1.2) (qh_addEnvironment (qn_gH (qn_sT σ r1.2)) (qh_scopeOf (qn_gH (qn_sT σ r1.2)) a1)).2)) (qh_addEnvironment (qn_gH (qn_sT σ r1.2)) (qh_scopeOf (qn_gH (qn_sT σ r1.2)) a1)).1)).bind fun r5 =>
          if r5.1 = (0 : Int32) then some (qn_fail (qn_sT (qn_sH (qn_sT σ r1.2) (qh_addEnvironment (qn_gH (qn_sT σ r1.2)) (qh_scopeOf (qn_gH (qn_sT σ r1.2)) a1)).2) r5.2) (-5 : Int32))
          else if (qn_bindCaller (qn_sT (qn_sH (qn_sT σ r1.2) (qh_addEnvironment (qn_gH (qn_sT σ r1.2)) (qh_scopeOf (qn_gH (qn_sT σ r1.2)) a1)).2) r5.2) (qh_addEnvironment (qn_gH (qn_sT σ r1.2)) (qh_scopeOf (qn_gH (qn_sT σ r1.2)) a1)).1 (qh_environmentSymbolOf (qn_gH (qn_sT (qn_sH (qn_sT σ r1.2) (qh_addEnvironment (qn_gH (qn_sT σ r1.2)) (qh_scopeOf (qn_gH (qn_sT σ r1.2)) a1)).2) r5.2)) a1)).1 = (0 : Int32) then some (qn_fail (qn_bindCaller (qn_sT (qn_sH (qn_sT σ r1.2) (qh_addEnvironment (qn_gH (qn_sT σ r1.2)) (qh_scopeOf (qn_gH (qn_sT σ r1.2)) a1)).2) r5.2) (qh_addEnvironment (qn_gH (qn_sT σ r1.2)) (qh_scopeOf (qn_gH (qn_sT σ r1.2)) a1)).1 (qh_environmentSymbolOf (qn_gH (qn_sT (qn_sH (qn_sT σ r1.2) (qh_addEnvironment (qn_gH (qn_sT σ r1.2)) (qh_scopeOf (qn_gH (qn_sT σ r1.2)) a1)).2) r5.2)) a1)).2 (-5 : Int32))
            else some (qn_evaluateInTail (qn_s_environment (qn_bindCaller (qn_sT (qn_sH (qn_sT σ r1.2) (qh_addEnvironment (qn_gH (qn_sT σ r1.2)) (qh_scopeOf (qn_gH (qn_sT σ r1.2)) a1)).2) r5.2) (qh_addEnvironment (qn_gH (qn_sT σ r1.2)) (qh_scopeOf (qn_gH (qn_sT σ r1.2)) a1)).1 (qh_environmentSymbolOf (qn_gH (qn_sT (qn_sH (qn_sT σ r1.2) (qh_addEnvironment (qn_gH (qn_sT σ r1.2)) (qh_scopeOf (qn_gH (qn_sT σ r1.2)) a1)).2) r5.2)) a1)).2 (qh_addEnvironment (qn_gH (qn_sT σ r1.2)) (qh_scopeOf (qn_gH (qn_sT σ r1.2)) a1)).1) (qh_bodyOf (qn_gH (qn_bindCaller (qn_sT (qn_sH (qn_sT σ r1.2) (qh_addEnvironment (qn_gH (qn_sT σ r1.2)) (qh_scopeOf (qn_gH (qn_sT σ r1.2)) a1)).2) r5.2) (qh_addEnvironment (qn_gH (qn_sT σ r1.2)) (qh_scopeOf (qn_gH (qn_sT σ r1.2)) a1)).1 (qh_environmentSymbolOf (qn_gH (qn_sT (qn_sH (qn_sT σ r1.2) (qh_addEnvironment (qn_gH (qn_sT σ r1.2)) (qh_scopeOf (qn_gH (qn_sT σ r1.2)) a1)).2) r5.2)) a1)).2) a1))
def qn_combineCurrent (N : Nat) (σ : qn_S)  : Option qn_S :=
  if (qw_kindOf (qn_g_current σ)) = (6 : Int32) then ((qn_combineApplicative N σ)).bind fun r6 =>
      some r6
  else if (qw_kindOf (qn_g_current σ)) = (5 : Int32) then if (qh_isPrimitive (qw_rowOf (qn_g_current σ))) = (0 : Int32) then ((qn_combineCompound N σ (qw_rowOf (qn_g_current σ)))).bind fun r4 =>
          some r4
      else some (qn_s_mode σ (2 : Int32))
    else some (qn_fail σ (-7 : Int32))
def qn_hasDueCount (σ : qn_S) (a1 : Int32) (a2 : Int32) : Int32 :=
  if a1 < (0 : Int32) then (0 : Int32)
  else if (26 : Int32) ≤ a1 then (0 : Int32)
    else if a2 = (-1 : Int32) then (0 : Int32)
      else if (oc_f (Int32.toNatClampNeg a1)) = a2 then (1 : Int32)
        else if (oc_f (Int32.toNatClampNeg a1)) = (-1 : Int32) then (1 : Int32)
          else (0 : Int32)
def qh_elementOf_L6 (N : Nat) : Nat → qh_S → Int32 → Int64 → Int32 → Option Int64
  | 0 => fun _ _ _ _ => none
  | k + 1 => fun σ x3 x4 x6 =>
    if x3 ≤ x6 then some (qh_firstAt σ (qw_rowOf x4))
    else (qh_elementOf_L6 N k σ x3 (qh_secondAt σ (qw_rowOf x4)) (x6 + (1 : Int32)))
def qh_elementOf (N : Nat) (σ : qh_S) (a1 : Int64) (a3 : Int32) : Option Int64 :=
  (qh_elementOf_L6 N N σ a3 a1 (0 : Int32))
def qn_operand (N : Nat) (σ : qn_S) (a1 : Int32) : Option Int64 :=
  ((qh_elementOf N (qn_gH σ) (qn_g_operands σ) a1)).bind fun r1 =>
    some r1
def qt_hasFound_L2 (N : Nat) : Nat → qt_S → Int32 → Int32 → Option Int32
  | 0 => fun _ _ _ => none
  | k + 1 => fun σ x1 x2 =>
    if (qt_g_symbolCount σ) ≤ x2 then some (0 : Int32)
    else if (100 : Int32) ≤ x2 then some (0 : Int32)
      else if inb x2 100 = true then if (qt_g_symbols σ (Int32.toNatClampNeg x2)) = x1 then some (1 : Int32)
          else (qt_hasFound_L2 N k σ x1 (x2 + (1 : Int32)))
        else none
def qt_hasFound (N : Nat) (σ : qt_S) (a1 : Int32) : Option Int32 :=
  (qt_hasFound_L2 N N σ a1 (0 : Int32))
def qt_isParameterTree_L13 (N : Nat) : Nat → qt_S → Int32 → Int32 → Option (Int32 × qt_S)
  | 0 => fun _ _ _ => none
  | k + 1 => fun σ x3 x4 =>
    if (201 : Int32) ≤ x4 then if (qt_g_pendingCount σ) = (0 : Int32) then some ((1 : Int32), σ)
      else some ((0 : Int32), σ)
    else if (qt_g_pendingCount σ) ≤ (0 : Int32) then if (qt_g_pendingCount σ) = (0 : Int32) then some ((1 : Int32), σ)
        else some ((0 : Int32), σ)
      else if (qw_kindOf (qt_takeTree σ).1) = (2 : Int32) then ((qt_hasFound N (qt_takeTree σ).2 (qw_rowOf (qt_takeTree σ).1))).bind fun r6 =>
            if r6 = (0 : Int32) then (qt_isParameterTree_L13 N k (qt_find (qt_takeTree σ).2 (qw_rowOf (qt_takeTree σ).1) (3 : Int64)) x3 (x4 + (1 : Int32)))
            else some ((0 : Int32), (qt_takeTree σ).2)
        else if (qw_kindOf (qt_takeTree σ).1) = (3 : Int32) then (qt_isParameterTree_L13 N k (qt_takeTree σ).2 x3 (x4 + (1 : Int32)))
          else if (qw_kindOf (qt_takeTree σ).1) = (4 : Int32) then if (x3 + (1 : Int32)) ≤ (100 : Int32) then (qt_isParameterTree_L13 N k (qt_putOff (qt_putOff (qt_takeTree σ).2 (qh_cdrOf (qt_gH (qt_takeTree σ).2) (qt_takeTree σ).1) (3 : Int64)) (qh_carOf (qt_gH (qt_putOff (qt_takeTree σ).2 (qh_cdrOf (qt_gH (qt_takeTree σ).2) (qt_takeTree σ).1) (3 : Int64))) (qt_takeTree σ).1) (3 : Int64)) (x3 + (1 : Int32)) (x4 + (1 : Int32)))
              else some ((0 : Int32), (qt_takeTree σ).2)
            else if (qw_kindOf (qt_takeTree σ).1) = (5 : Int32) then some ((0 : Int32), (qt_takeTree σ).2)
              else if (qw_kindOf (qt_takeTree σ).1) = (6 : Int32) then some ((0 : Int32), (qt_takeTree σ).2)
                else if (qw_kindOf (qt_takeTree σ).1) = (7 : Int32) then some ((0 : Int32), (qt_takeTree σ).2)
                  else if (qw_kindOf (qt_takeTree σ).1) = (8 : Int32) then (qt_isParameterTree_L13 N k (qt_takeTree σ).2 x3 (x4 + (1 : Int32)))
                    else some ((0 : Int32), (qt_takeTree σ).2)
def qt_isParameterTree (N : Nat) (σ : qt_S) (a1 : Int64) : Option (Int32 × qt_S) :=
  (qt_isParameterTree_L13 N N (qt_start σ a1 (3 : Int64)) (0 : Int32) (0 : Int32))
def qn_canNameCaller (N : Nat) (σ : qn_S) (a1 : Int64) : Option Int32 :=
  if a1 = (8 : Int64) then some (1 : Int32)
  else if (qw_kindOf a1) = (2 : Int32) then ((qt_hasFound N (qn_gT σ) (qw_rowOf a1))).bind fun r3 =>
        if r3 = (0 : Int32) then some (1 : Int32)
        else some (0 : Int32)
    else some (0 : Int32)
def qn_isOperand (N : Nat) (σ : qn_S) (a1 : Int32) (a2 : Int32) : Option Int32 :=
  ((qh_elementOf N (qn_gH σ) (qn_g_operands σ) a1)).bind fun r1 =>
    if (qw_kindOf r1) = a2 then some (1 : Int32)
    else some (0 : Int32)
def qn_areIntegers_L7 (N : Nat) : Nat → qn_S → Int64 → Int32 → Option Int32
  | 0 => fun _ _ _ => none
  | k + 1 => fun σ x1 x3 =>
    if x1 = (3 : Int64) then some (1 : Int32)
    else if (4100 : Int32) ≤ x3 then some (1 : Int32)
      else if (qw_kindOf (qh_carOf (qn_gH σ) x1)) = (0 : Int32) then (qn_areIntegers_L7 N k σ (qh_cdrOf (qn_gH σ) x1) (x3 + (1 : Int32)))
        else some (0 : Int32)
def qn_areIntegers (N : Nat) (σ : qn_S)  : Option Int32 :=
  (qn_areIntegers_L7 N N σ (qn_g_operands σ) (0 : Int32))
def qw_isCombiner (a0 : Int64) : Int32 :=
  if (qw_kindOf a0) = (5 : Int32) then (1 : Int32)
  else if (qw_kindOf a0) = (6 : Int32) then (1 : Int32)
    else (0 : Int32)
def qn_haveDueKinds (N : Nat) (σ : qn_S) (a1 : Int32) (a2 : Int32) : Option (Int32 × qn_S) :=
  if a1 = (1 : Int32) then ((qn_operand N σ (0 : Int32))).bind fun r2 =>
      ((qt_isParameterTree N (qn_gT σ) r2)).bind fun r4 =>
        if r4.1 = (0 : Int32) then some ((0 : Int32), (qn_sT σ r4.2))
        else ((qn_operand N (qn_sT σ r4.2) (1 : Int32))).bind fun r7 =>
            ((qn_canNameCaller N (qn_sT σ r4.2) r7)).bind fun r9 =>
              if r9 = (0 : Int32) then some ((0 : Int32), (qn_sT σ r4.2))
              else some ((1 : Int32), (qn_sT σ r4.2))
  else if a1 = (2 : Int32) then ((qn_operand N σ (0 : Int32))).bind fun r13 =>
        ((qt_isParameterTree N (qn_gT σ) r13)).bind fun r15 =>
          some ((bz r15.1), (qn_sT σ r15.2))
    else if a1 = (3 : Int32) then ((qn_isOperand N σ (0 : Int32) (2 : Int32))).bind fun r18 =>
          some ((bz r18), σ)
      else if a1 = (4 : Int32) then ((qn_isOperand N σ (1 : Int32) (2 : Int32))).bind fun r21 =>
            some ((bz r21), σ)
        else if a1 = (5 : Int32) then some ((1 : Int32), σ)
          else if a1 = (6 : Int32) then some ((1 : Int32), σ)
            else if a1 = (7 : Int32) then some ((1 : Int32), σ)
              else if a1 = (8 : Int32) then some ((1 : Int32), σ)
                else if a1 = (9 : Int32) then some ((1 : Int32), σ)
                  else if a1 = (10 : Int32) then ((qn_areIntegers N σ)).bind fun r29 =>
                        some ((bz r29), σ)
                    else if a1 = (11 : Int32) then ((qn_areIntegers N σ)).bind fun r32 =>
                          some ((bz r32), σ)
                      else if a1 = (12 : Int32) then ((qn_areIntegers N σ)).bind fun r35 =>
                            some ((bz r35), σ)
                        else if a1 = (13 : Int32) then ((qn_areIntegers N σ)).bind fun r38 =>
                              some ((bz r38), σ)
                          else if a1 = (14 : Int32) then some ((1 : Int32), σ)
                            else if a1 = (15 : Int32) then some ((1 : Int32), σ)
                              else if a1 = (16 : Int32) then ((qn_isOperand N σ (0 : Int32) (4 : Int32))).bind fun r43 =>
                                    some ((bz r43), σ)
                                else if a1 = (17 : Int32) then ((qn_isOperand N σ (0 : Int32) (4 : Int32))).bind fun r46 =>
                                      some ((bz r46), σ)
                                  else if a1 = (18 : Int32) then some ((1 : Int32), σ)
                                    else if a1 = (19 : Int32) then some ((1 : Int32), σ)
                                      else if a1 = (20 : Int32) then ((qn_isOperand N σ (1 : Int32) (7 : Int32))).bind fun r51 =>
                                            some ((bz r51), σ)
                                        else if a1 = (21 : Int32) then ((qn_operand N σ (0 : Int32))).bind fun r54 =>
                                              some ((bz (qw_isCombiner r54)), σ)
                                          else if a1 = (22 : Int32) then ((qn_isOperand N σ (0 : Int32) (6 : Int32))).bind fun r57 =>
                                                some ((bz r57), σ)
                                            else if a1 = (23 : Int32) then if a2 = (0 : Int32) then some ((1 : Int32), σ)
                                                else if a2 = (1 : Int32) then ((qn_isOperand N σ (0 : Int32) (7 : Int32))).bind fun r62 =>
                                                      if r62 = (0 : Int32) then some ((0 : Int32), σ)
                                                      else some ((1 : Int32), σ)
                                                  else some ((0 : Int32), σ)
                                              else if a1 = (24 : Int32) then ((qn_isOperand N σ (0 : Int32) (6 : Int32))).bind fun r66 =>
                                                    some ((bz r66), σ)
                                                else some ((1 : Int32), σ)
def qh_addOperative (σ : qh_S) (a1 : Int64) (a3 : Int32) (a4 : Int64) (a6 : Int32) : Int32 × qh_S :=
  ((qh_add σ a4 ((((a1 <<< 7) ||| (Int32.toInt64 a3)) <<< 13) ||| (Int32.toInt64 a6))).1, (qh_add σ a4 ((((a1 <<< 7) ||| (Int32.toInt64 a3)) <<< 13) ||| (Int32.toInt64 a6))).2)
def qn_giveBackNew (σ : qn_S) (a1 : Int32) (a2 : Int32) : qn_S :=
  if a2 = (-1 : Int32) then (qn_fail σ (-5 : Int32))
  else (qn_giveBack σ (qw_make a1 (Int32.toInt64 a2)))
def qn_makeOperative (σ : qn_S) (a1 : Int64) (a3 : Int64) (a5 : Int64) : qn_S :=
  if a3 = (8 : Int64) then (qn_giveBackNew (qn_sH σ (qh_addOperative (qn_gH σ) a1 (127 : Int32) a5 (qn_g_environment σ)).2) (5 : Int32) (qh_addOperative (qn_gH σ) a1 (127 : Int32) a5 (qn_g_environment σ)).1)
  else (qn_giveBackNew (qn_sH σ (qh_addOperative (qn_gH σ) a1 (qw_rowOf a3) a5 (qn_g_environment σ)).2) (5 : Int32) (qh_addOperative (qn_gH σ) a1 (qw_rowOf a3) a5 (qn_g_environment σ)).1)
def qh_addApplicative (σ : qh_S) (a1 : Int64) : Int32 × qh_S :=
  ((qh_add σ a1 (0 : Int64)).1, (qh_add σ a1 (0 : Int64)).2)
def qn_makeFunction (σ : qn_S) (a1 : Int64) (a3 : Int64) : qn_S :=
  if (qh_addOperative (qn_gH σ) a1 (127 : Int32) a3 (qn_g_environment σ)).1 = (-1 : Int32) then (qn_fail (qn_sH σ (qh_addOperative (qn_gH σ) a1 (127 : Int32) a3 (qn_g_environment σ)).2) (-5 : Int32))
  else (qn_giveBackNew (qn_sH (qn_sH σ (qh_addOperative (qn_gH σ) a1 (127 : Int32) a3 (qn_g_environment σ)).2) (qh_addApplicative (qh_addOperative (qn_gH σ) a1 (127 : Int32) a3 (qn_g_environment σ)).2 (qw_make (5 : Int32) (Int32.toInt64 (qh_addOperative (qn_gH σ) a1 (127 : Int32) a3 (qn_g_environment σ)).1))).2) (6 : Int32) (qh_addApplicative (qh_addOperative (qn_gH σ) a1 (127 : Int32) a3 (qn_g_environment σ)).2 (qw_make (5 : Int32) (Int32.toInt64 (qh_addOperative (qn_gH σ) a1 (127 : Int32) a3 (qn_g_environment σ)).1))).1)
def qn_evaluateSequence (σ : qn_S) (a1 : Int64) : qn_S :=
  if a1 = (3 : Int64) then (qn_giveBack σ (8 : Int64))
  else if (qh_cdrOf (qn_gH σ) a1) = (3 : Int64) then (qn_evaluateInTail σ (qh_carOf (qn_gH σ) a1))
    else (qn_evaluateWithFrame σ (qh_carOf (qn_gH σ) a1) (6 : Int32) (qh_cdrOf (qn_gH σ) a1) (3 : Int64) (0 : Int32))
def qn_callSpecial (N : Nat) (σ : qn_S) (a1 : Int32) : Option qn_S :=
  if a1 = (0 : Int32) then ((qn_operand N σ (0 : Int32))).bind fun r2 =>
      some (qn_evaluateWithFrame σ r2 (2 : Int32) (qh_cdrOf (qn_gH σ) (qn_g_operands σ)) (3 : Int64) (0 : Int32))
  else if a1 = (1 : Int32) then ((qn_operand N σ (0 : Int32))).bind fun r5 =>
        ((qn_operand N σ (1 : Int32))).bind fun r7 =>
          ((qn_operand N σ (2 : Int32))).bind fun r9 =>
            some (qn_makeOperative σ r5 r7 r9)
    else if a1 = (2 : Int32) then ((qn_operand N σ (0 : Int32))).bind fun r12 =>
          ((qn_operand N σ (1 : Int32))).bind fun r14 =>
            some (qn_makeFunction σ r12 r14)
      else if a1 = (3 : Int32) then ((qn_operand N σ (1 : Int32))).bind fun r17 =>
            some (qn_evaluateWithFrame σ r17 (3 : Int32) (qn_g_operands σ) (3 : Int64) (0 : Int32))
        else if a1 = (4 : Int32) then ((qn_operand N σ (0 : Int32))).bind fun r20 =>
              some (qn_evaluateWithFrame σ r20 (4 : Int32) (qh_cdrOf (qn_gH σ) (qn_g_operands σ)) (3 : Int64) (0 : Int32))
          else if a1 = (5 : Int32) then some (qn_evaluateSequence σ (qn_g_operands σ))
            else if a1 = (6 : Int32) then ((qn_operand N σ (0 : Int32))).bind fun r24 =>
                  some (qn_giveBack σ r24)
              else if a1 = (7 : Int32) then some (qn_giveBack σ (qw_make (7 : Int32) (Int32.toInt64 (qn_g_environment σ))))
                else some (qn_giveBack σ (qw_make (7 : Int32) (Int32.toInt64 (qn_g_environment σ))))
def qw_product (a0 : Int64) (a2 : Int64) : Int64 :=
  if a0 = (0 : Int64) then (a0 * a2)
  else if ((1000000000000000 : Int64) / (qabs a0)) < (qabs a2) then (-9223372036854775808 : Int64)
    else (a0 * a2)
def qn_giveBackInteger (σ : qn_S) (a1 : Int64) : qn_S :=
  if (qw_isInteger a1) = (0 : Int32) then (qn_fail σ (-9 : Int32))
  else (qn_giveBack σ (qw_make (0 : Int32) a1))
def qn_accumulate_L19 (N : Nat) : Nat → qn_S → Int32 → Int64 → Int64 → Int32 → Option qn_S
  | 0 => fun _ _ _ _ _ => none
  | k + 1 => fun σ x1 x2 x4 x6 =>
    if x4 = (3 : Int64) then some (qn_giveBackInteger σ x2)
    else if (4100 : Int32) ≤ x6 then some (qn_giveBackInteger σ x2)
      else if x1 = (0 : Int32) then if (qw_isInteger (x2 + (qw_contentOf (qh_carOf (qn_gH σ) x4)))) = (0 : Int32) then some (qn_fail σ (-9 : Int32))
          else (qn_accumulate_L19 N k σ x1 (x2 + (qw_contentOf (qh_carOf (qn_gH σ) x4))) (qh_cdrOf (qn_gH σ) x4) (x6 + (1 : Int32)))
        else if (qw_isInteger (qw_product x2 (qw_contentOf (qh_carOf (qn_gH σ) x4)))) = (0 : Int32) then some (qn_fail σ (-9 : Int32))
          else (qn_accumulate_L19 N k σ x1 (qw_product x2 (qw_contentOf (qh_carOf (qn_gH σ) x4))) (qh_cdrOf (qn_gH σ) x4) (x6 + (1 : Int32)))
def qn_accumulate (N : Nat) (σ : qn_S) (a1 : Int32) : Option qn_S :=
  if a1 = (0 : Int32) then (qn_accumulate_L19 N N σ a1 (0 : Int64) (qn_g_operands σ) (0 : Int32))
  else (qn_accumulate_L19 N N σ a1 (1 : Int64) (qn_g_operands σ) (0 : Int32))
def qn_callDataFunction (N : Nat) (σ : qn_S) (a1 : Int32) : Option qn_S :=
  if a1 = (10 : Int32) then if a1 = (11 : Int32) then ((qn_accumulate N σ (1 : Int32))).bind fun r5 =>
        some r5
    else ((qn_accumulate N σ (0 : Int32))).bind fun r3 =>
        some r3
  else if a1 = (11 : Int32) then if a1 = (11 : Int32) then ((qn_accumulate N σ (1 : Int32))).bind fun r11 =>
          some r11
      else ((qn_accumulate N σ (0 : Int32))).bind fun r9 =>
          some r9
    else if a1 = (12 : Int32) then ((qn_operand N σ (0 : Int32))).bind fun r14 =>
          ((qn_operand N σ (1 : Int32))).bind fun r16 =>
            some (qn_giveBackInteger σ ((qw_contentOf r14) - (qw_contentOf r16)))
      else if a1 = (13 : Int32) then ((qn_operand N σ (0 : Int32))).bind fun r19 =>
            ((qn_operand N σ (1 : Int32))).bind fun r21 =>
              if (qw_contentOf r19) < (qw_contentOf r21) then some (qn_giveBack σ (qw_makeBoolean (1 : Int32)))
              else some (qn_giveBack σ (qw_makeBoolean (0 : Int32)))
        else if a1 = (14 : Int32) then ((qn_operand N σ (0 : Int32))).bind fun r25 =>
              ((qn_operand N σ (1 : Int32))).bind fun r27 =>
                if r25 = r27 then some (qn_giveBack σ (qw_makeBoolean (1 : Int32)))
                else some (qn_giveBack σ (qw_makeBoolean (0 : Int32)))
          else if a1 = (15 : Int32) then ((qn_operand N σ (0 : Int32))).bind fun r31 =>
                ((qn_operand N σ (1 : Int32))).bind fun r33 =>
                  some (qn_giveBackNew (qn_sH σ (qh_addPair (qn_gH σ) r31 r33).2) (4 : Int32) (qh_addPair (qn_gH σ) r31 r33).1)
            else if a1 = (16 : Int32) then ((qn_operand N σ (0 : Int32))).bind fun r36 =>
                  some (qn_giveBack σ (qh_carOf (qn_gH σ) r36))
              else if a1 = (17 : Int32) then ((qn_operand N σ (0 : Int32))).bind fun r39 =>
                    some (qn_giveBack σ (qh_cdrOf (qn_gH σ) r39))
                else if a1 = (18 : Int32) then ((qn_operand N σ (0 : Int32))).bind fun r42 =>
                      if r42 = (3 : Int64) then some (qn_giveBack σ (qw_makeBoolean (1 : Int32)))
                      else some (qn_giveBack σ (qw_makeBoolean (0 : Int32)))
                  else if a1 = (19 : Int32) then ((qn_isOperand N σ (0 : Int32) (4 : Int32))).bind fun r46 =>
                        some (qn_giveBack σ (qw_makeBoolean r46))
                    else ((qn_isOperand N σ (0 : Int32) (4 : Int32))).bind fun r48 =>
                        some (qn_giveBack σ (qw_makeBoolean r48))
def qn_makeEnvironment (σ : qn_S) (a1 : Int32) : qn_S :=
  (qn_giveBackNew (qn_sH σ (qh_addEnvironment (qn_gH σ) a1).2) (7 : Int32) (qh_addEnvironment (qn_gH σ) a1).1)
def qn_applyWithoutScope (N : Nat) (σ : qn_S)  : Option qn_S :=
  if (qh_addEnvironment (qn_gH σ) (-1 : Int32)).1 = (-1 : Int32) then some (qn_fail (qn_sH σ (qh_addEnvironment (qn_gH σ) (-1 : Int32)).2) (-5 : Int32))
  else ((qn_operand N (qn_sH σ (qh_addEnvironment (qn_gH σ) (-1 : Int32)).2) (0 : Int32))).bind fun r2 =>
      ((qn_operand N (qn_sH σ (qh_addEnvironment (qn_gH σ) (-1 : Int32)).2) (1 : Int32))).bind fun r4 =>
        some (qn_combine (qn_s_environment (qn_sH σ (qh_addEnvironment (qn_gH σ) (-1 : Int32)).2) (qh_addEnvironment (qn_gH σ) (-1 : Int32)).1) (qh_underlyingOf (qh_addEnvironment (qn_gH σ) (-1 : Int32)).2 r2) r4)
def qn_callScopeFunction (N : Nat) (σ : qn_S) (a1 : Int32) (a2 : Int32) : Option qn_S :=
  if a1 = (20 : Int32) then ((qn_operand N σ (1 : Int32))).bind fun r2 =>
      ((qn_operand N (qn_s_environment σ (qw_rowOf r2)) (0 : Int32))).bind fun r4 =>
        some (qn_evaluateInTail (qn_s_environment σ (qw_rowOf r2)) r4)
  else if a1 = (21 : Int32) then ((qn_operand N σ (0 : Int32))).bind fun r7 =>
        some (qn_giveBackNew (qn_sH σ (qh_addApplicative (qn_gH σ) r7).2) (6 : Int32) (qh_addApplicative (qn_gH σ) r7).1)
    else if a1 = (22 : Int32) then ((qn_operand N σ (0 : Int32))).bind fun r10 =>
          some (qn_giveBack σ (qh_underlyingOf (qn_gH σ) r10))
      else if a1 = (23 : Int32) then if a2 = (0 : Int32) then some (qn_makeEnvironment σ (-1 : Int32))
          else ((qn_operand N σ (0 : Int32))).bind fun r14 =>
              some (qn_makeEnvironment σ (qw_rowOf r14))
        else if a1 = (24 : Int32) then ((qn_applyWithoutScope N σ)).bind fun r17 =>
              some r17
          else if a1 = (25 : Int32) then some (qn_giveBack σ (qn_g_operands σ))
            else some (qn_giveBack σ (qn_g_operands σ))
def qn_callPrimitive (N : Nat) (σ : qn_S) (a1 : Int32) : Option qn_S :=
  ((qh_lengthOf N (qn_gH σ) (qn_g_operands σ))).bind fun r1 =>
    if (qn_hasDueCount σ a1 r1) = (0 : Int32) then some (qn_fail σ (-8 : Int32))
    else ((qn_haveDueKinds N σ a1 r1)).bind fun r4 =>
        if r4.1 = (0 : Int32) then some (qn_fail r4.2 (-8 : Int32))
        else if (10 : Int32) ≤ a1 then if (20 : Int32) ≤ a1 then ((qn_callScopeFunction N r4.2 a1 r1)).bind fun r9 =>
                some r9
            else ((qn_callDataFunction N r4.2 a1)).bind fun r11 =>
                some r11
          else ((qn_callSpecial N r4.2 a1)).bind fun r13 =>
              some r13
def qf_isEmpty (σ : qf_S)  : Int32 :=
  if (0 : Int32) < (qf_g_count σ) then (0 : Int32)
  else (1 : Int32)
def qf_take (σ : qf_S)  : qf_S :=
  if (qf_g_count σ) ≤ (0 : Int32) then σ
  else (qf_s_count σ ((qf_g_count σ) - (1 : Int32)))
def qf_canRead (σ : qf_S)  : Int32 :=
  if (qf_g_count σ) < (0 : Int32) then (0 : Int32)
  else if (300 : Int32) ≤ (qf_g_count σ) then (0 : Int32)
    else (1 : Int32)
def qf_environment (σ : qf_S)  : Int32 :=
  if (qf_canRead σ) = (0 : Int32) then (-1 : Int32)
  else (qf_g_environments σ (Int32.toNatClampNeg (qf_g_count σ)))
def qf_rest (σ : qf_S)  : Int64 :=
  if (qf_canRead σ) = (0 : Int32) then (3 : Int64)
  else (qf_g_rests σ (Int32.toNatClampNeg (qf_g_count σ)))
def qf_task (σ : qf_S)  : Int32 :=
  if (qf_canRead σ) = (0 : Int32) then (0 : Int32)
  else (qf_g_tasks σ (Int32.toNatClampNeg (qf_g_count σ)))
def qf_held (σ : qf_S)  : Int64 :=
  if (qf_canRead σ) = (0 : Int32) then (3 : Int64)
  else (qf_g_helds σ (Int32.toNatClampNeg (qf_g_count σ)))
def qf_gathered (σ : qf_S)  : Int32 :=
  if (qf_canRead σ) = (0 : Int32) then (0 : Int32)
  else (qf_g_gathereds σ (Int32.toNatClampNeg (qf_g_count σ)))
def qn_takeArgument (N : Nat) (σ : qn_S) (a1 : Int64) (a3 : Int64) (a5 : Int32) : Option qn_S :=
  if (qn_g_argumentCount σ) < (0 : Int32) then some (qn_fail σ (-10 : Int32))
  else if (qn_g_argumentCount σ) < (1500 : Int32) then ((qn_evaluateArguments N (qn_s_argumentCount (qn_t_arguments σ (qn_g_argumentCount σ) (qn_g_current σ)) ((qn_g_argumentCount σ) + (1 : Int32))) a1 a3 (a5 + (1 : Int32)))).bind fun r3 =>
        some r3
    else some (qn_fail σ (-10 : Int32))
def qn_choose (N : Nat) (σ : qn_S) (a1 : Int64) : Option qn_S :=
  if (qw_kindOf (qn_g_current σ)) = (1 : Int32) then if (qw_contentOf (qn_g_current σ)) = (1 : Int64) then ((qh_elementOf N (qn_gH σ) a1 (0 : Int32))).bind fun r5 =>
        some (qn_evaluateInTail σ r5)
    else ((qh_elementOf N (qn_gH σ) a1 (1 : Int32))).bind fun r3 =>
        some (qn_evaluateInTail σ r3)
  else some (qn_fail σ (-8 : Int32))
def qh_bind (N : Nat) (σ : qh_S) (a1 : Int32) (a2 : Int32) (a3 : Int64) : Option (Int32 × qh_S) :=
  ((qh_ownBinding N σ a1 a2)).bind fun r1 =>
    if r1 = (-1 : Int32) then some ((bz (qh_addBinding σ a1 a2 a3).1), (qh_addBinding σ a1 a2 a3).2)
    else some ((1 : Int32), (qh_write σ r1 a3 (qh_secondAt σ r1)))
def qn_bindCurrent (N : Nat) (σ : qn_S) (a1 : Int32) (a2 : Int64) : Option qn_S :=
  ((qh_bind N (qn_gH σ) a1 (qw_rowOf (qh_carOf (qn_gH σ) a2)) (qn_g_current σ))).bind fun r1 =>
    if r1.1 = (0 : Int32) then some (qn_fail (qn_sH σ r1.2) (-5 : Int32))
    else some (qn_giveBack (qn_sH σ r1.2) (8 : Int64))
def qn_takePlace (N : Nat) (σ : qn_S) (a1 : Int64) : Option qn_S :=
  if (qw_kindOf (qn_g_current σ)) = (7 : Int32) then ((qh_elementOf N (qn_gH σ) a1 (1 : Int32))).bind fun r2 =>
      some (qn_evaluateWithFrame σ r2 (5 : Int32) a1 (qn_g_current σ) (0 : Int32))
  else some (qn_fail σ (-8 : Int32))
def qn_returnCurrent (N : Nat) (σ : qn_S)  : Option qn_S :=
  if (qf_isEmpty (qn_gF σ)) = (0 : Int32) then if (qf_task (qf_take (qn_gF σ))) = (0 : Int32) then some (qn_combine (qn_s_environment (qn_sF σ (qf_take (qn_gF σ))) (qf_environment (qf_take (qn_gF σ)))) (qn_g_current σ) (qf_rest (qf_take (qn_gF σ))))
    else if (qf_task (qf_take (qn_gF σ))) = (1 : Int32) then ((qn_takeArgument N (qn_s_environment (qn_sF σ (qf_take (qn_gF σ))) (qf_environment (qf_take (qn_gF σ)))) (qf_rest (qf_take (qn_gF σ))) (qf_held (qf_take (qn_gF σ))) (qf_gathered (qf_take (qn_gF σ))))).bind fun r4 =>
          some r4
      else if (qf_task (qf_take (qn_gF σ))) = (2 : Int32) then ((qn_choose N (qn_s_environment (qn_sF σ (qf_take (qn_gF σ))) (qf_environment (qf_take (qn_gF σ)))) (qf_rest (qf_take (qn_gF σ))))).bind fun r7 =>
            some r7
        else if (qf_task (qf_take (qn_gF σ))) = (3 : Int32) then ((qn_bindCurrent N (qn_s_environment (qn_sF σ (qf_take (qn_gF σ))) (qf_environment (qf_take (qn_gF σ)))) (qf_environment (qf_take (qn_gF σ))) (qf_rest (qf_take (qn_gF σ))))).bind fun r10 =>
              some r10
          else if (qf_task (qf_take (qn_gF σ))) = (4 : Int32) then ((qn_takePlace N (qn_s_environment (qn_sF σ (qf_take (qn_gF σ))) (qf_environment (qf_take (qn_gF σ)))) (qf_rest (qf_take (qn_gF σ))))).bind fun r13 =>
                some r13
            else if (qf_task (qf_take (qn_gF σ))) = (5 : Int32) then ((qn_bindCurrent N (qn_s_environment (qn_sF σ (qf_take (qn_gF σ))) (qf_environment (qf_take (qn_gF σ)))) (qw_rowOf (qf_held (qf_take (qn_gF σ)))) (qf_rest (qf_take (qn_gF σ))))).bind fun r16 =>
                  some r16
              else if (qf_task (qf_take (qn_gF σ))) = (6 : Int32) then some (qn_evaluateSequence (qn_s_environment (qn_sF σ (qf_take (qn_gF σ))) (qf_environment (qf_take (qn_gF σ)))) (qf_rest (qf_take (qn_gF σ))))
                else some (qn_evaluateSequence (qn_s_environment (qn_sF σ (qf_take (qn_gF σ))) (qf_environment (qf_take (qn_gF σ)))) (qf_rest (qf_take (qn_gF σ))))
  else some (qn_s_mode σ (4 : Int32))
def qn_run_L23 (N : Nat) : Nat → qn_S → Int32 → Option (Int32 × qn_S)
  | 0 => fun _ _ => none
  | k + 1 => fun σ x5 =>
    if (100000000 : Int32) ≤ x5 then if (qn_g_failure σ) = (0 : Int32) then some ((qn_g_steps σ), σ)
      else some ((qn_g_failure σ), σ)
    else if (qn_g_mode σ) = (4 : Int32) then if (qn_g_failure σ) = (0 : Int32) then some ((qn_g_steps σ), σ)
        else some ((qn_g_failure σ), σ)
      else if (qn_g_mode σ) = (0 : Int32) then ((qn_evaluateCurrent N σ)).bind fun r6 =>
            (qn_run_L23 N k r6 (x5 + (1 : Int32)))
        else if (qn_g_mode σ) = (1 : Int32) then ((qn_combineCurrent N σ)).bind fun r9 =>
              (qn_run_L23 N k r9 (x5 + (1 : Int32)))
          else if (qn_g_mode σ) = (2 : Int32) then ((qn_callPrimitive N σ (qw_rowOf (qn_g_current σ)))).bind fun r12 =>
                (qn_run_L23 N k r12 (x5 + (1 : Int32)))
            else if (qn_g_mode σ) = (3 : Int32) then ((qn_returnCurrent N σ)).bind fun r15 =>
                  (qn_run_L23 N k r15 (x5 + (1 : Int32)))
              else ((qn_returnCurrent N σ)).bind fun r17 =>
                  (qn_run_L23 N k r17 (x5 + (1 : Int32)))
def qn_run (N : Nat) (σ : qn_S) (a1 : Int64) (a3 : Int32) (a4 : Int32) : Option (Int32 × qn_S) :=
  (qn_run_L23 N N (qn_evaluateInTail (qn_s_environment (qn_s_limit (qn_forget σ) a4) a3) a1) (0 : Int32))
def qn_answer (σ : qn_S)  : Int64 :=
  (qn_g_current σ)
def qx_evaluate (N : Nat) (σ : qx_S)  : Option (Int32 × qx_S) :=
  if (1 : Int32) ≤ (qx_g_stackSize σ) then ((qn_run N (qx_gN σ) (qx_valueAt σ (0 : Int32)) (qx_g_present σ) (qx_g_limit σ))).bind fun r2 =>
      if r2.1 ≤ (0 : Int32) then some (r2.1, (qx_sN (qx_s_stackSize σ ((qx_g_stackSize σ) - (1 : Int32))) r2.2))
      else some (r2.1, (qx_push (qx_sN (qx_s_stackSize σ ((qx_g_stackSize σ) - (1 : Int32))) r2.2) (qn_answer r2.2)).2)
  else some ((-2 : Int32), σ)
def qx_useEnvironment (σ : qx_S)  : Int32 × qx_S :=
  if (qx_kindError σ (0 : Int32) (7 : Int32)) = (0 : Int32) then (((qx_g_stackSize σ) - (1 : Int32)), (qx_s_stackSize (qx_s_present σ (qw_rowOf (qx_valueAt σ (0 : Int32)))) ((qx_g_stackSize σ) - (1 : Int32))))
  else ((qx_kindError σ (0 : Int32) (7 : Int32)), σ)
def qx_useUser (σ : qx_S)  : Int32 × qx_S :=
  if (qx_g_present σ) = (1 : Int32) then if (0 : Int32) = (0 : Int32) then ((0 : Int32), (qx_s_present σ (1 : Int32)))
    else ((1 : Int32), (qx_s_present σ (1 : Int32)))
  else if (1 : Int32) = (0 : Int32) then ((0 : Int32), (qx_s_present σ (1 : Int32)))
    else ((1 : Int32), (qx_s_present σ (1 : Int32)))
def qx_setLimit (σ : qx_S) (a1 : Int32) : Int32 × qx_S :=
  if a1 < (1 : Int32) then ((-1 : Int32), σ)
  else if a1 ≤ (1500 : Int32) then ((qx_g_limit σ), (qx_s_limit σ a1))
    else ((-1 : Int32), σ)
def qn_stepCount (σ : qn_S)  : Int32 :=
  (qn_g_steps σ)
def qf_greatestCount (σ : qf_S)  : Int32 :=
  (qf_g_most σ)
def qn_mostFrames (σ : qn_S)  : Int32 :=
  (qf_greatestCount (qn_gF σ))
def qx_latest (σ : qx_S) (a1 : Int32) : Int32 :=
  if a1 = (0 : Int32) then if a1 = (0 : Int32) then (qn_stepCount (qx_gN σ))
    else (qn_mostFrames (qx_gN σ))
  else if a1 = (1 : Int32) then if a1 = (0 : Int32) then (qn_stepCount (qx_gN σ))
      else (qn_mostFrames (qx_gN σ))
    else (-1 : Int32)
def qx_heapSize (σ : qx_S)  : Int32 :=
  (qh_objectCount (qx_gH σ))
end
section
/-! functions out of the bytecode -/
def qm_within (a0 : Int64) (a2 : Int64) (a4 : Int64) : Int32 :=
  if a0 < a2 then (0 : Int32)
  else if a4 < a0 then (0 : Int32)
    else (1 : Int32)
def qm_made (a0 : Int32) (a1 : Int64) : Int64 :=
  (((16 : Int64) * a1) + (Int32.toInt64 a0))
def qm_begin_L43 (N : Nat) : Nat → qm_S → Int32 → Option qm_S
  | 0 => fun _ _ => none
  | k + 1 => fun σ x1 =>
    if (100 : Int32) ≤ x1 then some σ
    else if x1 < (8 : Int32) then if inb x1 100 = true then if (8 : Int32) ≤ x1 then if inb x1 100 = true then (qm_begin_L43 N k (qm_t_groundValue (qm_t_isGround σ x1 (1 : Int32)) x1 (qm_made (6 : Int32) ((-1 : Int64) - (Int32.toInt64 x1)))) (x1 + (1 : Int32)))
            else none
          else if inb x1 100 = true then (qm_begin_L43 N k (qm_t_groundValue (qm_t_isGround σ x1 (1 : Int32)) x1 (qm_made (5 : Int32) ((-1 : Int64) - (Int32.toInt64 x1)))) (x1 + (1 : Int32)))
            else none
        else none
      else if (qm_within (Int32.toInt64 x1) (10 : Int64) (25 : Int64)) = (0 : Int32) then if inb x1 100 = true then if (8 : Int32) ≤ x1 then if inb x1 100 = true then (qm_begin_L43 N k (qm_t_groundValue (qm_t_isGround σ x1 (0 : Int32)) x1 (qm_made (6 : Int32) ((-1 : Int64) - (Int32.toInt64 x1)))) (x1 + (1 : Int32)))
              else none
            else if inb x1 100 = true then (qm_begin_L43 N k (qm_t_groundValue (qm_t_isGround σ x1 (0 : Int32)) x1 (qm_made (5 : Int32) ((-1 : Int64) - (Int32.toInt64 x1)))) (x1 + (1 : Int32)))
              else none
          else none
        else if inb x1 100 = true then if (8 : Int32) ≤ x1 then if inb x1 100 = true then (qm_begin_L43 N k (qm_t_groundValue (qm_t_isGround σ x1 (1 : Int32)) x1 (qm_made (6 : Int32) ((-1 : Int64) - (Int32.toInt64 x1)))) (x1 + (1 : Int32)))
              else none
            else if inb x1 100 = true then (qm_begin_L43 N k (qm_t_groundValue (qm_t_isGround σ x1 (1 : Int32)) x1 (qm_made (5 : Int32) ((-1 : Int64) - (Int32.toInt64 x1)))) (x1 + (1 : Int32)))
              else none
          else none
def qm_begin (N : Nat) (σ : qm_S)  : Option qm_S :=
  (qm_begin_L43 N N (qm_t_headOf (qm_s_mostFrames (qm_s_steps (qm_s_present (qm_s_limit (qm_s_values (qm_s_objects σ (0 : Int32)) (0 : Int32)) (1000 : Int32)) (-25 : Int64)) (0 : Int32)) (0 : Int32)) (0 : Int32) (-1 : Int32)) (0 : Int32))
def qm_lost  : Int64 :=
  (-9223372036854775808 : Int64)
def qm_kindOf (a0 : Int64) : Int32 :=
  (Int64.toInt32 (a0 &&& (15 : Int64)))
def qm_whatOf (a0 : Int64) : Int64 :=
  (a0 >>> 4)
def qm_truth (a0 : Int32) : Int64 :=
  if a0 = (0 : Int32) then (qm_made (1 : Int32) (0 : Int64))
  else (qm_made (1 : Int32) (1 : Int64))
def qm_indexOf (σ : qm_S) (a1 : Int64) : Int32 :=
  (Int64.toInt32 (qm_whatOf a1))
def qm_carOf (σ : qm_S) (a1 : Int64) : Option Int64 :=
  if inb (qm_indexOf σ a1) 4000 = true then some (qm_g_first σ (Int32.toNatClampNeg (qm_indexOf σ a1)))
  else none
def qm_cdrOf (σ : qm_S) (a1 : Int64) : Option Int64 :=
  if inb (qm_indexOf σ a1) 4000 = true then some (qm_g_second σ (Int32.toNatClampNeg (qm_indexOf σ a1)))
  else none
def qm_underOf (σ : qm_S) (a1 : Int64) : Option Int64 :=
  if (qm_whatOf a1) < (0 : Int64) then some (qm_made (5 : Int32) (qm_whatOf a1))
  else if inb (qm_indexOf σ a1) 4000 = true then some (qm_g_first σ (Int32.toNatClampNeg (qm_indexOf σ a1)))
    else none
def qm_parentOf (σ : qm_S) (a1 : Int64) : Option Int64 :=
  if a1 = (-9 : Int64) then some (-1 : Int64)
  else if a1 = (-25 : Int64) then some (-9 : Int64)
    else if inb (qm_indexOf σ a1) 4000 = true then some (qm_g_first σ (Int32.toNatClampNeg (qm_indexOf σ a1)))
      else none
def qm_adds (σ : qm_S) (a1 : Int32) (a2 : Int64) (a4 : Int64) : Option (Int64 × qm_S) :=
  if inb (qm_g_objects σ) 4000 = true then if inb (qm_g_objects σ) 4000 = true then some ((qm_made a1 (Int32.toInt64 (((qm_g_objects σ) + (1 : Int32)) - (1 : Int32)))), (qm_s_objects (qm_t_second (qm_t_first σ (qm_g_objects σ) a2) (qm_g_objects σ) a4) ((qm_g_objects σ) + (1 : Int32))))
    else none
  else none
def qm_addsEnvironment (σ : qm_S) (a1 : Int64) : Option (Int64 × qm_S) :=
  if inb ((qm_g_objects σ) + (2 : Int32)) 4002 = true then ((qm_adds (qm_t_headOf σ ((qm_g_objects σ) + (2 : Int32)) (-1 : Int32)) (7 : Int32) a1 (0 : Int64))).bind fun r2 =>
      some (r2.1, r2.2)
  else none
def qm_isFull (σ : qm_S)  : Int32 :=
  if (qm_g_objects σ) = (4000 : Int32) then (1 : Int32)
  else (0 : Int32)
def qm_findsOwn_B77 (N : Nat) (σ : qm_S)  : Option (Int32 × qm_S) :=
  if (qm_g_foundAt σ) < (0 : Int32) then if (qm_g_foundAt σ) < (0 : Int32) then some ((0 : Int32), (qm_s_found σ (0 : Int64)))
    else some ((1 : Int32), (qm_s_found σ (0 : Int64)))
  else if inb (qm_g_foundAt σ) 4000 = true then if (qm_g_foundAt σ) < (0 : Int32) then some ((0 : Int32), (qm_s_found σ (qm_g_first σ (Int32.toNatClampNeg (qm_g_foundAt σ)))))
      else some ((1 : Int32), (qm_s_found σ (qm_g_first σ (Int32.toNatClampNeg (qm_g_foundAt σ)))))
    else none
def qm_findsOwn_L41 (N : Nat) : Nat → qm_S → Int32 → Option (Int32 × qm_S)
  | 0 => fun _ _ => none
  | k + 1 => fun σ x3 =>
    if (qm_g_foundAt σ) < (0 : Int32) then (qm_findsOwn_B77 N σ)
    else if inb (qm_g_foundAt σ) 4000 = true then if (qm_g_symbolOf σ (Int32.toNatClampNeg (qm_g_foundAt σ))) = x3 then (qm_findsOwn_B77 N σ)
        else if inb (qm_g_foundAt σ) 4000 = true then (qm_findsOwn_L41 N k (qm_s_foundAt σ (qm_g_nextOf σ (Int32.toNatClampNeg (qm_g_foundAt σ)))) x3)
          else none
      else none
def qm_findsOwn (N : Nat) (σ : qm_S) (a1 : Int64) (a3 : Int32) : Option (Int32 × qm_S) :=
  if a1 = (-9 : Int64) then if inb a3 100 = true then if inb a3 100 = true then some ((bz (qm_g_isGround σ (Int32.toNatClampNeg a3))), (qm_s_found σ (qm_g_groundValue σ (Int32.toNatClampNeg a3))))
      else none
    else none
  else if inb ((qm_indexOf σ a1) + (2 : Int32)) 4002 = true then (qm_findsOwn_L41 N N (qm_s_foundAt σ (qm_g_headOf σ (Int32.toNatClampNeg ((qm_indexOf σ a1) + (2 : Int32))))) a3)
    else none
def qm_finds_L3 (N : Nat) : Nat → qm_S → Int32 → Int64 → Option (Int32 × qm_S)
  | 0 => fun _ _ _ => none
  | k + 1 => fun σ x3 x4 =>
    if x4 = (-1 : Int64) then some ((0 : Int32), σ)
    else ((qm_findsOwn N σ x4 x3)).bind fun r2 =>
        if r2.1 = (0 : Int32) then ((qm_parentOf r2.2 x4)).bind fun r5 =>
            (qm_finds_L3 N k r2.2 x3 r5)
        else some ((1 : Int32), r2.2)
def qm_finds (N : Nat) (σ : qm_S) (a1 : Int64) (a3 : Int32) : Option (Int32 × qm_S) :=
  (qm_finds_L3 N N σ a3 a1)
def qm_binds_B22 (N : Nat) (σ : qm_S) (x1 : Int64) (x3 : Int32) (x4 : Int64) (x6 : Int32) : Option (Int32 × qm_S) :=
  if x1 = (-9 : Int64) then if inb x3 100 = true then if inb x3 100 = true then if x6 = (0 : Int32) then some ((1 : Int32), (qm_s_objects (qm_t_groundValue (qm_t_isGround σ x3 (1 : Int32)) x3 x4) ((qm_g_objects σ) + (1 : Int32))))
        else some ((1 : Int32), (qm_s_objects (qm_t_groundValue (qm_t_isGround σ x3 (1 : Int32)) x3 x4) ((qm_g_objects σ) + (0 : Int32))))
      else none
    else none
  else if x6 = (0 : Int32) then if inb (qm_g_objects σ) 4000 = true then if inb ((qm_indexOf σ x1) + (2 : Int32)) 4002 = true then if inb (qm_g_objects σ) 4000 = true then if inb ((qm_indexOf σ x1) + (2 : Int32)) 4002 = true then if inb (qm_g_objects σ) 4000 = true then some ((1 : Int32), (qm_s_objects (qm_t_first (qm_t_headOf (qm_t_nextOf (qm_t_symbolOf σ (qm_g_objects σ) x3) (qm_g_objects σ) (qm_g_headOf σ (Int32.toNatClampNeg ((qm_indexOf σ x1) + (2 : Int32))))) ((qm_indexOf σ x1) + (2 : Int32)) (qm_g_objects σ)) (qm_g_objects σ) x4) ((qm_g_objects σ) + (1 : Int32))))
              else none
            else none
          else none
        else none
      else none
    else if inb (qm_g_foundAt σ) 4000 = true then some ((1 : Int32), (qm_t_first σ (qm_g_foundAt σ) x4))
      else none
def qm_binds (N : Nat) (σ : qm_S) (a1 : Int64) (a3 : Int32) (a4 : Int64) : Option (Int32 × qm_S) :=
  ((qm_findsOwn N σ a1 a3)).bind fun r1 =>
    if r1.1 = (0 : Int32) then if (qm_isFull r1.2) = (0 : Int32) then (qm_binds_B22 N r1.2 a1 a3 a4 r1.1)
      else some ((0 : Int32), r1.2)
    else (qm_binds_B22 N r1.2 a1 a3 a4 r1.1)
def qm_longOf_L5 (N : Nat) : Nat → qm_S → Int32 → Int64 → Option Int32
  | 0 => fun _ _ _ => none
  | k + 1 => fun σ x3 x4 =>
    if (qm_kindOf x4) = (4 : Int32) then ((qm_cdrOf σ x4)).bind fun r3 =>
        (qm_longOf_L5 N k σ (x3 + (1 : Int32)) r3)
    else if (qm_kindOf x4) = (3 : Int32) then some x3
      else some (-1 : Int32)
def qm_longOf (N : Nat) (σ : qm_S) (a1 : Int64) : Option Int32 :=
  (qm_longOf_L5 N N σ (0 : Int32) a1)
def qm_elementOf_L6 (N : Nat) : Nat → qm_S → Int32 → Int64 → Int32 → Option Int64
  | 0 => fun _ _ _ _ => none
  | k + 1 => fun σ x3 x4 x6 =>
    if x3 ≤ x6 then ((qm_carOf σ x4)).bind fun r2 =>
        some r2
    else ((qm_cdrOf σ x4)).bind fun r4 =>
        (qm_elementOf_L6 N k σ x3 r4 (x6 + (1 : Int32)))
def qm_elementOf (N : Nat) (σ : qm_S) (a1 : Int64) (a3 : Int32) : Option Int64 :=
  (qm_elementOf_L6 N N σ a3 a1 (0 : Int32))
def qm_pushes (σ : qm_S) (a1 : Int64) : Option (Int32 × qm_S) :=
  if (qm_g_values σ) = (40 : Int32) then some ((-3 : Int32), σ)
  else if inb (qm_g_values σ) 40 = true then some (((qm_g_values σ) + (1 : Int32)), (qm_s_values (qm_t_stack σ (qm_g_values σ) a1) ((qm_g_values σ) + (1 : Int32))))
    else none
def qm_depthBarred (σ : qm_S) (a1 : Int32) : Int32 :=
  if (0 : Int32) ≤ a1 then if a1 < (qm_g_values σ) then (0 : Int32)
    else (-2 : Int32)
  else (-1 : Int32)
def qm_at (σ : qm_S) (a1 : Int32) : Option Int64 :=
  if inb (((qm_g_values σ) - (1 : Int32)) - a1) 40 = true then some (qm_g_stack σ (Int32.toNatClampNeg (((qm_g_values σ) - (1 : Int32)) - a1)))
  else none
def qm_pushInteger (σ : qm_S) (a1 : Int64) : Option (Int32 × qm_S) :=
  if (qm_within a1 (-1000000000000000 : Int64) (1000000000000000 : Int64)) = (0 : Int32) then some ((-1 : Int32), σ)
  else ((qm_pushes σ (qm_made (0 : Int32) a1))).bind fun r2 =>
      some (r2.1, r2.2)
def qm_pushBoolean (σ : qm_S) (a1 : Int32) : Option (Int32 × qm_S) :=
  ((qm_pushes σ (qm_truth a1))).bind fun r1 =>
    some (r1.1, r1.2)
def qm_pushSymbol (σ : qm_S) (a1 : Int32) : Option (Int32 × qm_S) :=
  if (qm_within (Int32.toInt64 a1) (0 : Int64) (99 : Int64)) = (0 : Int32) then some ((-1 : Int32), σ)
  else ((qm_pushes σ (qm_made (2 : Int32) (Int32.toInt64 a1)))).bind fun r2 =>
      some (r2.1, r2.2)
def qm_pushEmpty (σ : qm_S) (a1 : Int32) : Option (Int32 × qm_S) :=
  if a1 = (0 : Int32) then ((qm_pushes σ (3 : Int64))).bind fun r2 =>
      some (r2.1, r2.2)
  else ((qm_pushes σ (8 : Int64))).bind fun r4 =>
      some (r4.1, r4.2)
def qm_pushEnvironment (σ : qm_S)  : Option (Int32 × qm_S) :=
  ((qm_pushes σ (qm_g_present σ))).bind fun r1 =>
    some (r1.1, r1.2)
def qm_pushCopy (σ : qm_S) (a1 : Int32) : Option (Int32 × qm_S) :=
  if (0 : Int32) ≤ (qm_depthBarred σ a1) then ((qm_at σ a1)).bind fun r2 =>
      ((qm_pushes σ r2)).bind fun r4 =>
        some (r4.1, r4.2)
  else some ((qm_depthBarred σ a1), σ)
def qm_pushPart_B89 (σ : qm_S) (x3 : Int64) (x5 : Int32) : Option (Int32 × qm_S) :=
  if (qm_g_values σ) = (40 : Int32) then some ((-3 : Int32), σ)
  else if x5 = (6 : Int32) then ((qm_underOf σ x3)).bind fun r26 =>
        if r26 = (-1 : Int64) then some ((-12 : Int32), σ)
        else ((qm_pushes σ r26)).bind fun r29 =>
            some (r29.1, r29.2)
    else ((qm_parentOf σ x3)).bind fun r21 =>
        if r21 = (-1 : Int64) then some ((-12 : Int32), σ)
        else ((qm_pushes σ r21)).bind fun r24 =>
            some (r24.1, r24.2)
def qm_pushPart (σ : qm_S) (a1 : Int32) (a2 : Int32) : Option (Int32 × qm_S) :=
  if a1 < (0 : Int32) then some ((-1 : Int32), σ)
  else if (qm_within (Int32.toInt64 a2) (0 : Int64) (1 : Int64)) = (0 : Int32) then some ((-1 : Int32), σ)
    else if a1 < (qm_g_values σ) then ((qm_at σ a1)).bind fun r4 =>
          if (qm_kindOf r4) = (4 : Int32) then if a2 = (0 : Int32) then ((qm_carOf σ r4)).bind fun r15 =>
                ((qm_pushes σ r15)).bind fun r17 =>
                  some (r17.1, r17.2)
            else ((qm_cdrOf σ r4)).bind fun r11 =>
                ((qm_pushes σ r11)).bind fun r13 =>
                  some (r13.1, r13.2)
          else if a2 = (1 : Int32) then some ((-4 : Int32), σ)
            else if (qm_kindOf r4) = (6 : Int32) then (qm_pushPart_B89 σ r4 (qm_kindOf r4))
              else if (qm_kindOf r4) = (7 : Int32) then (qm_pushPart_B89 σ r4 (qm_kindOf r4))
                else some ((-4 : Int32), σ)
      else some ((-2 : Int32), σ)
def qm_pushBinding (N : Nat) (σ : qm_S) (a1 : Int32) (a2 : Int32) : Option (Int32 × qm_S) :=
  if a1 < (0 : Int32) then some ((-1 : Int32), σ)
  else if (qm_within (Int32.toInt64 a2) (0 : Int64) (99 : Int64)) = (0 : Int32) then some ((-1 : Int32), σ)
    else if a1 < (qm_g_values σ) then ((qm_at σ a1)).bind fun r4 =>
          if (qm_kindOf r4) = (7 : Int32) then ((qm_at σ a1)).bind fun r7 =>
              ((qm_finds N σ r7 a2)).bind fun r9 =>
                if r9.1 = (0 : Int32) then some ((-6 : Int32), r9.2)
                else ((qm_pushes r9.2 (qm_g_found r9.2))).bind fun r12 =>
                    some (r12.1, r12.2)
          else some ((-4 : Int32), σ)
      else some ((-2 : Int32), σ)
def qm_makePair (σ : qm_S)  : Option (Int32 × qm_S) :=
  if (2 : Int32) ≤ (qm_g_values σ) then if (qm_isFull σ) = (0 : Int32) then ((qm_at σ (1 : Int32))).bind fun r3 =>
        ((qm_at σ (0 : Int32))).bind fun r5 =>
          ((qm_adds σ (4 : Int32) r3 r5)).bind fun r7 =>
            ((qm_pushes (qm_s_values r7.2 ((qm_g_values r7.2) - (2 : Int32))) r7.1)).bind fun r9 =>
              some (r9.1, r9.2)
    else some ((-5 : Int32), σ)
  else some ((-2 : Int32), σ)
def qm_makeList_L57 (N : Nat) : Nat → qm_S → Int32 → Int64 → Int32 → Option (Int32 × qm_S)
  | 0 => fun _ _ _ _ => none
  | k + 1 => fun σ x1 x2 x4 =>
    if x1 ≤ x4 then ((qm_pushes (qm_s_values σ ((qm_g_values σ) - x1)) x2)).bind fun r8 =>
        some (r8.1, r8.2)
    else ((qm_at σ x4)).bind fun r10 =>
        ((qm_adds σ (4 : Int32) r10 x2)).bind fun r12 =>
          (qm_makeList_L57 N k r12.2 x1 r12.1 (x4 + (1 : Int32)))
def qm_makeList (N : Nat) (σ : qm_S) (a1 : Int32) : Option (Int32 × qm_S) :=
  if (qm_within (Int32.toInt64 a1) (0 : Int64) (40 : Int64)) = (0 : Int32) then some ((-1 : Int32), σ)
  else if a1 ≤ (qm_g_values σ) then if ((qm_g_objects σ) + a1) ≤ (4000 : Int32) then if a1 = (0 : Int32) then ((qm_pushes σ (3 : Int64))).bind fun r5 =>
            some (r5.1, r5.2)
        else (qm_makeList_L57 N N σ a1 (3 : Int64) (0 : Int32))
      else some ((-5 : Int32), σ)
    else some ((-2 : Int32), σ)
def qm_drop (σ : qm_S) (a1 : Int32) : Int32 × qm_S :=
  if (qm_within (Int32.toInt64 a1) (0 : Int64) (40 : Int64)) = (0 : Int32) then ((-1 : Int32), σ)
  else if a1 ≤ (qm_g_values σ) then (((qm_g_values σ) - a1), (qm_s_values σ ((qm_g_values σ) - a1)))
    else ((-2 : Int32), σ)
def qm_reset (N : Nat) (σ : qm_S)  : Option (Int32 × qm_S) :=
  ((qm_begin N σ)).bind fun r1 =>
    some ((qm_g_objects σ), r1)
def qm_size (σ : qm_S)  : Int32 :=
  (qm_g_values σ)
def qm_kind (σ : qm_S) (a1 : Int32) : Option Int32 :=
  if (0 : Int32) ≤ (qm_depthBarred σ a1) then ((qm_at σ a1)).bind fun r2 =>
      some (qm_kindOf r2)
  else some (qm_depthBarred σ a1)
def qm_value (σ : qm_S) (a1 : Int32) : Option Int64 :=
  if (qm_depthBarred σ a1) < (0 : Int32) then some qm_lost
  else ((qm_at σ a1)).bind fun r2 =>
      if (qm_kindOf r2) ≤ (2 : Int32) then ((qm_at σ a1)).bind fun r5 =>
          some (qm_whatOf r5)
      else some qm_lost
def qm_areSame (σ : qm_S) (a1 : Int32) (a2 : Int32) : Option Int32 :=
  if a1 < (0 : Int32) then some (-1 : Int32)
  else if (0 : Int32) ≤ a2 then if (qm_g_values σ) ≤ a1 then some (-2 : Int32)
      else if a2 < (qm_g_values σ) then ((qm_at σ a1)).bind fun r5 =>
            ((qm_at σ a2)).bind fun r7 =>
              if r5 = r7 then some (1 : Int32)
              else some (0 : Int32)
        else some (-2 : Int32)
    else some (-1 : Int32)
def qm_length (N : Nat) (σ : qm_S) (a1 : Int32) : Option Int32 :=
  if (0 : Int32) ≤ (qm_depthBarred σ a1) then ((qm_at σ a1)).bind fun r2 =>
      ((qm_longOf N σ r2)).bind fun r4 =>
        if (0 : Int32) ≤ r4 then some r4
        else some (-4 : Int32)
  else some (qm_depthBarred σ a1)
def qm_bindingCount_L36 (N : Nat) : Nat → qm_S → Int64 → Int32 → Int32 → Option (Int32 × qm_S)
  | 0 => fun _ _ _ _ => none
  | k + 1 => fun σ x3 x5 x6 =>
    if (100 : Int32) ≤ x6 then some (x5, σ)
    else ((qm_findsOwn N σ x3 x6)).bind fun r6 =>
        if r6.1 = (0 : Int32) then (qm_bindingCount_L36 N k r6.2 x3 (x5 + (0 : Int32)) (x6 + (1 : Int32)))
        else (qm_bindingCount_L36 N k r6.2 x3 (x5 + (1 : Int32)) (x6 + (1 : Int32)))
def qm_bindingCount (N : Nat) (σ : qm_S) (a1 : Int32) : Option (Int32 × qm_S) :=
  if (0 : Int32) ≤ (qm_depthBarred σ a1) then ((qm_at σ a1)).bind fun r2 =>
      if (qm_kindOf r2) = (7 : Int32) then (qm_bindingCount_L36 N N σ r2 (0 : Int32) (0 : Int32))
      else some ((-4 : Int32), σ)
  else some ((qm_depthBarred σ a1), σ)
def qm_goesTo (σ : qm_S) (a1 : Int64) (a3 : Int64) : Int32 × qm_S :=
  ((0 : Int32), (qm_s_around (qm_s_now (qm_s_mode σ (0 : Int32)) a1) a3))
def qm_gives (σ : qm_S) (a1 : Int64) : Int32 × qm_S :=
  ((0 : Int32), (qm_s_now (qm_s_mode σ (2 : Int32)) a1))
def qm_goesWith (σ : qm_S) (a1 : Int32) (a2 : Int64) (a4 : Int64) (a6 : Int32) (a7 : Int64) (a9 : Int64) : Option (Int32 × qm_S) :=
  if (qm_g_frames σ) = (300 : Int32) then some ((-11 : Int32), σ)
  else if inb (qm_g_frames σ) 300 = true then if inb (qm_g_frames σ) 300 = true then if inb (qm_g_frames σ) 300 = true then if inb (qm_g_frames σ) 300 = true then if inb (qm_g_frames σ) 300 = true then if ((qm_g_frames σ) + (1 : Int32)) ≤ (qm_g_mostFrames σ) then some ((qm_goesTo (qm_s_mostFrames (qm_s_frames (qm_t_frameBase (qm_t_frameAround (qm_t_frameOther (qm_t_frameOne (qm_t_frameKind σ (qm_g_frames σ) a1) (qm_g_frames σ) a2) (qm_g_frames σ) a4) (qm_g_frames σ) a9) (qm_g_frames σ) a6) ((qm_g_frames σ) + (1 : Int32))) (qm_g_mostFrames σ)) a7 a9).1, (qm_goesTo (qm_s_mostFrames (qm_s_frames (qm_t_frameBase (qm_t_frameAround (qm_t_frameOther (qm_t_frameOne (qm_t_frameKind σ (qm_g_frames σ) a1) (qm_g_frames σ) a2) (qm_g_frames σ) a4) (qm_g_frames σ) a9) (qm_g_frames σ) a6) ((qm_g_frames σ) + (1 : Int32))) (qm_g_mostFrames σ)) a7 a9).2)
              else some ((qm_goesTo (qm_s_mostFrames (qm_s_frames (qm_t_frameBase (qm_t_frameAround (qm_t_frameOther (qm_t_frameOne (qm_t_frameKind σ (qm_g_frames σ) a1) (qm_g_frames σ) a2) (qm_g_frames σ) a4) (qm_g_frames σ) a9) (qm_g_frames σ) a6) ((qm_g_frames σ) + (1 : Int32))) ((qm_g_frames σ) + (1 : Int32))) a7 a9).1, (qm_goesTo (qm_s_mostFrames (qm_s_frames (qm_t_frameBase (qm_t_frameAround (qm_t_frameOther (qm_t_frameOne (qm_t_frameKind σ (qm_g_frames σ) a1) (qm_g_frames σ) a2) (qm_g_frames σ) a4) (qm_g_frames σ) a9) (qm_g_frames σ) a6) ((qm_g_frames σ) + (1 : Int32))) ((qm_g_frames σ) + (1 : Int32))) a7 a9).2)
            else none
          else none
        else none
      else none
    else none
def qm_evaluatesOne (N : Nat) (σ : qm_S)  : Option (Int32 × qm_S) :=
  if (qm_g_steps σ) = (qm_g_limit σ) then some ((-10 : Int32), σ)
  else if (qm_kindOf (qm_g_now σ)) = (4 : Int32) then ((qm_cdrOf (qm_s_steps σ ((qm_g_steps σ) + (1 : Int32))) (qm_g_now σ))).bind fun r7 =>
        ((qm_carOf (qm_s_steps σ ((qm_g_steps σ) + (1 : Int32))) (qm_g_now σ))).bind fun r9 =>
          ((qm_goesWith (qm_s_steps σ ((qm_g_steps σ) + (1 : Int32))) (0 : Int32) r7 (0 : Int64) (0 : Int32) r9 (qm_g_around σ))).bind fun r11 =>
            some (r11.1, r11.2)
    else if (qm_kindOf (qm_g_now σ)) = (2 : Int32) then ((qm_finds N (qm_s_steps σ ((qm_g_steps σ) + (1 : Int32))) (qm_g_around σ) (qm_indexOf (qm_s_steps σ ((qm_g_steps σ) + (1 : Int32))) (qm_g_now σ)))).bind fun r4 =>
          if r4.1 = (0 : Int32) then some ((-6 : Int32), r4.2)
          else some ((qm_gives r4.2 (qm_g_found r4.2)).1, (qm_gives r4.2 (qm_g_found r4.2)).2)
      else some ((qm_gives (qm_s_steps σ ((qm_g_steps σ) + (1 : Int32))) (qm_g_now σ)).1, (qm_gives (qm_s_steps σ ((qm_g_steps σ) + (1 : Int32))) (qm_g_now σ)).2)
def qm_combines (σ : qm_S) (a1 : Int64) (a3 : Int64) (a5 : Int64) : Int32 × qm_S :=
  ((0 : Int32), (qm_s_around (qm_s_operands (qm_s_now (qm_s_mode σ (1 : Int32)) a1) a3) a5))
def qm_goesOn_L42 (N : Nat) : Nat → qm_S → Int64 → Int64 → Int32 → Int64 → Int32 → Option (Int32 × qm_S)
  | 0 => fun _ _ _ _ _ _ => none
  | k + 1 => fun σ x1 x5 x7 x8 x10 =>
    if x10 < x7 then ((qm_underOf (qm_s_resultMany σ x7) x1)).bind fun r9 =>
        some ((qm_combines (qm_s_resultMany σ x7) r9 x8 x5).1, (qm_combines (qm_s_resultMany σ x7) r9 x8 x5).2)
    else if (qm_isFull σ) = (0 : Int32) then if inb x10 1501 = true then ((qm_adds σ (4 : Int32) (qm_g_results σ (Int32.toNatClampNeg x10)) x8)).bind fun r13 =>
            (qm_goesOn_L42 N k r13.2 x1 x5 x7 r13.1 (x10 + (-1 : Int32)))
        else none
      else some ((-5 : Int32), σ)
def qm_goesOn (N : Nat) (σ : qm_S) (a1 : Int64) (a3 : Int64) (a5 : Int64) (a7 : Int32) : Option (Int32 × qm_S) :=
  if (qm_kindOf a3) = (4 : Int32) then ((qm_cdrOf σ a3)).bind fun r2 =>
      ((qm_carOf σ a3)).bind fun r4 =>
        ((qm_goesWith σ (1 : Int32) a1 r2 a7 r4 a5)).bind fun r6 =>
          some (r6.1, r6.2)
  else (qm_goesOn_L42 N N σ a1 a5 a7 (3 : Int64) ((qm_g_resultMany σ) - (1 : Int32)))
def qm_beginsWith (σ : qm_S) (a1 : Int64) (a3 : Int64) : Option (Int32 × qm_S) :=
  if (qm_kindOf a1) = (3 : Int32) then some ((qm_gives σ (8 : Int64)).1, (qm_gives σ (8 : Int64)).2)
  else ((qm_cdrOf σ a1)).bind fun r2 =>
      if (qm_kindOf r2) = (3 : Int32) then ((qm_carOf σ a1)).bind fun r11 =>
          some ((qm_goesTo σ r11 a3).1, (qm_goesTo σ r11 a3).2)
      else ((qm_cdrOf σ a1)).bind fun r5 =>
          ((qm_carOf σ a1)).bind fun r7 =>
            ((qm_goesWith σ (6 : Int32) r5 (0 : Int64) (0 : Int32) r7 a3)).bind fun r9 =>
              some (r9.1, r9.2)
def qm_givesBound (N : Nat) (σ : qm_S) (a1 : Int64) (a3 : Int32) (a4 : Int64) : Option (Int32 × qm_S) :=
  ((qm_binds N σ a1 a3 a4)).bind fun r1 =>
    if r1.1 = (0 : Int32) then some ((-5 : Int32), r1.2)
    else some ((qm_gives r1.2 (8 : Int64)).1, (qm_gives r1.2 (8 : Int64)).2)
def qm_takesResult (N : Nat) (σ : qm_S)  : Option (Int32 × qm_S) :=
  if inb ((qm_g_frames σ) - (1 : Int32)) 300 = true then if inb ((qm_g_frames σ) - (1 : Int32)) 300 = true then if inb ((qm_g_frames σ) - (1 : Int32)) 300 = true then if inb ((qm_g_frames σ) - (1 : Int32)) 300 = true then if inb ((qm_g_frames σ) - (1 : Int32)) 300 = true then if (qm_g_frameKind σ (Int32.toNatClampNeg ((qm_g_frames σ) - (1 : Int32)))) = (0 : Int32) then some ((qm_combines (qm_s_frames σ ((qm_g_frames σ) - (1 : Int32))) (qm_g_now σ) (qm_g_frameOne σ (Int32.toNatClampNeg ((qm_g_frames σ) - (1 : Int32)))) (qm_g_frameAround σ (Int32.toNatClampNeg ((qm_g_frames σ) - (1 : Int32))))).1, (qm_combines (qm_s_frames σ ((qm_g_frames σ) - (1 : Int32))) (qm_g_now σ) (qm_g_frameOne σ (Int32.toNatClampNeg ((qm_g_frames σ) - (1 : Int32)))) (qm_g_frameAround σ (Int32.toNatClampNeg ((qm_g_frames σ) - (1 : Int32))))).2)
            else if (qm_g_frameKind σ (Int32.toNatClampNeg ((qm_g_frames σ) - (1 : Int32)))) = (1 : Int32) then if inb (qm_g_resultMany σ) 1501 = true then ((qm_goesOn N (qm_s_resultMany (qm_t_results (qm_s_frames σ ((qm_g_frames σ) - (1 : Int32))) (qm_g_resultMany σ) (qm_g_now σ)) ((qm_g_resultMany σ) + (1 : Int32))) (qm_g_frameOne σ (Int32.toNatClampNeg ((qm_g_frames σ) - (1 : Int32)))) (qm_g_frameOther σ (Int32.toNatClampNeg ((qm_g_frames σ) - (1 : Int32)))) (qm_g_frameAround σ (Int32.toNatClampNeg ((qm_g_frames σ) - (1 : Int32)))) (qm_g_frameBase σ (Int32.toNatClampNeg ((qm_g_frames σ) - (1 : Int32)))))).bind fun r9 =>
                    some (r9.1, r9.2)
                else none
              else if (qm_g_frameKind σ (Int32.toNatClampNeg ((qm_g_frames σ) - (1 : Int32)))) = (2 : Int32) then if (qm_kindOf (qm_g_now σ)) = (1 : Int32) then if (qm_whatOf (qm_g_now σ)) = (1 : Int64) then some ((qm_goesTo (qm_s_frames σ ((qm_g_frames σ) - (1 : Int32))) (qm_g_frameOne σ (Int32.toNatClampNeg ((qm_g_frames σ) - (1 : Int32)))) (qm_g_frameAround σ (Int32.toNatClampNeg ((qm_g_frames σ) - (1 : Int32))))).1, (qm_goesTo (qm_s_frames σ ((qm_g_frames σ) - (1 : Int32))) (qm_g_frameOne σ (Int32.toNatClampNeg ((qm_g_frames σ) - (1 : Int32)))) (qm_g_frameAround σ (Int32.toNatClampNeg ((qm_g_frames σ) - (1 : Int32))))).2)
                    else some ((qm_goesTo (qm_s_frames σ ((qm_g_frames σ) - (1 : Int32))) (qm_g_frameOther σ (Int32.toNatClampNeg ((qm_g_frames σ) - (1 : Int32)))) (qm_g_frameAround σ (Int32.toNatClampNeg ((qm_g_frames σ) - (1 : Int32))))).1, (qm_goesTo (qm_s_frames σ ((qm_g_frames σ) - (1 : Int32))) (qm_g_frameOther σ (Int32.toNatClampNeg ((qm_g_frames σ) - (1 : Int32)))) (qm_g_frameAround σ (Int32.toNatClampNeg ((qm_g_frames σ) - (1 : Int32))))).2)
                  else some ((-8 : Int32), (qm_s_frames σ ((qm_g_frames σ) - (1 : Int32))))
                else if (qm_g_frameKind σ (Int32.toNatClampNeg ((qm_g_frames σ) - (1 : Int32)))) = (3 : Int32) then ((qm_givesBound N (qm_s_frames σ ((qm_g_frames σ) - (1 : Int32))) (qm_g_frameAround σ (Int32.toNatClampNeg ((qm_g_frames σ) - (1 : Int32)))) (qm_g_frameBase σ (Int32.toNatClampNeg ((qm_g_frames σ) - (1 : Int32)))) (qm_g_now σ))).bind fun r15 =>
                      some (r15.1, r15.2)
                  else if (qm_g_frameKind σ (Int32.toNatClampNeg ((qm_g_frames σ) - (1 : Int32)))) = (4 : Int32) then if (qm_kindOf (qm_g_now σ)) = (7 : Int32) then ((qm_goesWith (qm_s_frames σ ((qm_g_frames σ) - (1 : Int32))) (5 : Int32) (qm_g_now σ) (0 : Int64) (qm_g_frameBase σ (Int32.toNatClampNeg ((qm_g_frames σ) - (1 : Int32)))) (qm_g_frameOne σ (Int32.toNatClampNeg ((qm_g_frames σ) - (1 : Int32)))) (qm_g_frameAround σ (Int32.toNatClampNeg ((qm_g_frames σ) - (1 : Int32)))))).bind fun r19 =>
                          some (r19.1, r19.2)
                      else some ((-8 : Int32), (qm_s_frames σ ((qm_g_frames σ) - (1 : Int32))))
                    else if (qm_g_frameKind σ (Int32.toNatClampNeg ((qm_g_frames σ) - (1 : Int32)))) = (5 : Int32) then ((qm_givesBound N (qm_s_frames σ ((qm_g_frames σ) - (1 : Int32))) (qm_g_frameOne σ (Int32.toNatClampNeg ((qm_g_frames σ) - (1 : Int32)))) (qm_g_frameBase σ (Int32.toNatClampNeg ((qm_g_frames σ) - (1 : Int32)))) (qm_g_now σ))).bind fun r22 =>
                          some (r22.1, r22.2)
                      else ((qm_beginsWith (qm_s_frames σ ((qm_g_frames σ) - (1 : Int32))) (qm_g_frameOne σ (Int32.toNatClampNeg ((qm_g_frames σ) - (1 : Int32)))) (qm_g_frameAround σ (Int32.toNatClampNeg ((qm_g_frames σ) - (1 : Int32)))))).bind fun r24 =>
                          some (r24.1, r24.2)
          else none
        else none
      else none
    else none
  else none
def qm_isTree_L33 (N : Nat) : Nat → qm_S → Int32 → Int32 → Option (Int32 × qm_S)
  | 0 => fun _ _ _ => none
  | k + 1 => fun σ x3 x4 =>
    if x3 ≤ (0 : Int32) then some ((1 : Int32), σ)
    else if inb (x3 + (-1 : Int32)) 204 = true then if (qm_kindOf (qm_g_treeLeft σ (Int32.toNatClampNeg (x3 + (-1 : Int32))))) = (4 : Int32) then if (x4 + (1 : Int32)) ≤ (100 : Int32) then ((qm_cdrOf σ (qm_g_treeLeft σ (Int32.toNatClampNeg (x3 + (-1 : Int32)))))).bind fun r13 =>
              if inb (x3 + (-1 : Int32)) 204 = true then ((qm_carOf (qm_t_treeLeft σ (x3 + (-1 : Int32)) r13) (qm_g_treeLeft σ (Int32.toNatClampNeg (x3 + (-1 : Int32)))))).bind fun r16 =>
                  if inb ((x3 + (-1 : Int32)) + (1 : Int32)) 204 = true then (qm_isTree_L33 N k (qm_t_treeLeft (qm_t_treeLeft σ (x3 + (-1 : Int32)) r13) ((x3 + (-1 : Int32)) + (1 : Int32)) r16) ((x3 + (-1 : Int32)) + (2 : Int32)) (x4 + (1 : Int32)))
                  else none
              else none
          else some ((0 : Int32), σ)
        else if (qm_kindOf (qm_g_treeLeft σ (Int32.toNatClampNeg (x3 + (-1 : Int32))))) = (2 : Int32) then if inb (qm_indexOf σ (qm_g_treeLeft σ (Int32.toNatClampNeg (x3 + (-1 : Int32))))) 100 = true then if (qm_g_isSeen σ (Int32.toNatClampNeg (qm_indexOf σ (qm_g_treeLeft σ (Int32.toNatClampNeg (x3 + (-1 : Int32))))))) = (0 : Int32) then if inb (qm_indexOf σ (qm_g_treeLeft σ (Int32.toNatClampNeg (x3 + (-1 : Int32))))) 100 = true then (qm_isTree_L33 N k (qm_t_isSeen σ (qm_indexOf σ (qm_g_treeLeft σ (Int32.toNatClampNeg (x3 + (-1 : Int32))))) (1 : Int32)) (x3 + (-1 : Int32)) x4)
                else none
              else some ((0 : Int32), σ)
            else none
          else if (qm_kindOf (qm_g_treeLeft σ (Int32.toNatClampNeg (x3 + (-1 : Int32))))) = (3 : Int32) then (qm_isTree_L33 N k σ (x3 + (-1 : Int32)) x4)
            else if (qm_kindOf (qm_g_treeLeft σ (Int32.toNatClampNeg (x3 + (-1 : Int32))))) = (8 : Int32) then (qm_isTree_L33 N k σ (x3 + (-1 : Int32)) x4)
              else some ((0 : Int32), σ)
      else none
def qm_isTree_L2 (N : Nat) : Nat → qm_S → Int64 → Int32 → Option (Int32 × qm_S)
  | 0 => fun _ _ _ => none
  | k + 1 => fun σ x1 x3 =>
    if (100 : Int32) ≤ x3 then (qm_isTree_L33 N N (qm_t_treeLeft σ (0 : Int32) x1) (1 : Int32) (0 : Int32))
    else if inb x3 100 = true then (qm_isTree_L2 N k (qm_t_isSeen σ x3 (0 : Int32)) x1 (x3 + (1 : Int32)))
      else none
def qm_isTree (N : Nat) (σ : qm_S) (a1 : Int64) : Option (Int32 × qm_S) :=
  (qm_isTree_L2 N N σ a1 (0 : Int32))
def qm_matches_L22 (N : Nat) : Nat → qm_S → Int32 → Option (Int32 × qm_S)
  | 0 => fun _ _ => none
  | k + 1 => fun σ x5 =>
    if x5 ≤ (0 : Int32) then some ((1 : Int32), σ)
    else if inb (x5 + (-1 : Int32)) 204 = true then if inb (x5 + (-1 : Int32)) 204 = true then if (qm_kindOf (qm_g_treeLeft σ (Int32.toNatClampNeg (x5 + (-1 : Int32))))) = (2 : Int32) then if inb (qm_g_bound σ) 102 = true then if inb (qm_g_bound σ) 102 = true then (qm_matches_L22 N k (qm_s_bound (qm_t_boundValue (qm_t_boundSymbol σ (qm_g_bound σ) (qm_indexOf σ (qm_g_treeLeft σ (Int32.toNatClampNeg (x5 + (-1 : Int32)))))) (qm_g_bound σ) (qm_g_matchLeft σ (Int32.toNatClampNeg (x5 + (-1 : Int32))))) ((qm_g_bound σ) + (1 : Int32))) (x5 + (-1 : Int32)))
              else none
            else none
          else if (qm_kindOf (qm_g_treeLeft σ (Int32.toNatClampNeg (x5 + (-1 : Int32))))) = (8 : Int32) then if (qm_kindOf (qm_g_treeLeft σ (Int32.toNatClampNeg (x5 + (-1 : Int32))))) = (4 : Int32) then ((qm_cdrOf σ (qm_g_treeLeft σ (Int32.toNatClampNeg (x5 + (-1 : Int32)))))).bind fun r7 =>
                  if inb (x5 + (-1 : Int32)) 204 = true then ((qm_cdrOf (qm_t_treeLeft σ (x5 + (-1 : Int32)) r7) (qm_g_matchLeft σ (Int32.toNatClampNeg (x5 + (-1 : Int32)))))).bind fun r10 =>
                      if inb (x5 + (-1 : Int32)) 204 = true then ((qm_carOf (qm_t_matchLeft (qm_t_treeLeft σ (x5 + (-1 : Int32)) r7) (x5 + (-1 : Int32)) r10) (qm_g_treeLeft σ (Int32.toNatClampNeg (x5 + (-1 : Int32)))))).bind fun r13 =>
                          if inb ((x5 + (-1 : Int32)) + (1 : Int32)) 204 = true then ((qm_carOf (qm_t_treeLeft (qm_t_matchLeft (qm_t_treeLeft σ (x5 + (-1 : Int32)) r7) (x5 + (-1 : Int32)) r10) ((x5 + (-1 : Int32)) + (1 : Int32)) r13) (qm_g_matchLeft σ (Int32.toNatClampNeg (x5 + (-1 : Int32)))))).bind fun r16 =>
                              if inb ((x5 + (-1 : Int32)) + (1 : Int32)) 204 = true then (qm_matches_L22 N k (qm_t_matchLeft (qm_t_treeLeft (qm_t_matchLeft (qm_t_treeLeft σ (x5 + (-1 : Int32)) r7) (x5 + (-1 : Int32)) r10) ((x5 + (-1 : Int32)) + (1 : Int32)) r13) ((x5 + (-1 : Int32)) + (1 : Int32)) r16) ((x5 + (-1 : Int32)) + (2 : Int32)))
                              else none
                          else none
                      else none
                  else none
              else (qm_matches_L22 N k σ (x5 + (-1 : Int32)))
            else if (qm_kindOf (qm_g_treeLeft σ (Int32.toNatClampNeg (x5 + (-1 : Int32))))) = (qm_kindOf (qm_g_matchLeft σ (Int32.toNatClampNeg (x5 + (-1 : Int32))))) then if (qm_kindOf (qm_g_treeLeft σ (Int32.toNatClampNeg (x5 + (-1 : Int32))))) = (4 : Int32) then ((qm_cdrOf σ (qm_g_treeLeft σ (Int32.toNatClampNeg (x5 + (-1 : Int32)))))).bind fun r21 =>
                    if inb (x5 + (-1 : Int32)) 204 = true then ((qm_cdrOf (qm_t_treeLeft σ (x5 + (-1 : Int32)) r21) (qm_g_matchLeft σ (Int32.toNatClampNeg (x5 + (-1 : Int32)))))).bind fun r24 =>
                        if inb (x5 + (-1 : Int32)) 204 = true then ((qm_carOf (qm_t_matchLeft (qm_t_treeLeft σ (x5 + (-1 : Int32)) r21) (x5 + (-1 : Int32)) r24) (qm_g_treeLeft σ (Int32.toNatClampNeg (x5 + (-1 : Int32)))))).bind fun r27 =>
                            if inb ((x5 + (-1 : Int32)) + (1 : Int32)) 204 = true then ((qm_carOf (qm_t_treeLeft (qm_t_matchLeft (qm_t_treeLeft σ (x5 + (-1 : Int32)) r21) (x5 + (-1 : Int32)) r24) ((x5 + (-1 : Int32)) + (1 : Int32)) r27) (qm_g_matchLeft σ (Int32.toNatClampNeg (x5 + (-1 : Int32)))))).bind fun r30 =>
                                if inb ((x5 + (-1 : Int32)) + (1 : Int32)) 204 = true then (qm_matches_L22 N k (qm_t_matchLeft (qm_t_treeLeft (qm_t_matchLeft (qm_t_treeLeft σ (x5 + (-1 : Int32)) r21) (x5 + (-1 : Int32)) r24) ((x5 + (-1 : Int32)) + (1 : Int32)) r27) ((x5 + (-1 : Int32)) + (1 : Int32)) r30) ((x5 + (-1 : Int32)) + (2 : Int32)))
                                else none
                            else none
                        else none
                    else none
                else (qm_matches_L22 N k σ (x5 + (-1 : Int32)))
              else some ((0 : Int32), σ)
        else none
      else none
def qm_matches (N : Nat) (σ : qm_S) (a1 : Int64) (a3 : Int64) : Option (Int32 × qm_S) :=
  (qm_matches_L22 N N (qm_s_bound (qm_t_matchLeft (qm_t_treeLeft σ (0 : Int32) a1) (0 : Int32) a3) (0 : Int32)) (1 : Int32))
def qm_combinesCompound_L61 (N : Nat) : Nat → qm_S → Int32 → Int64 → Int64 → Int32 → Option (Int32 × qm_S)
  | 0 => fun _ _ _ _ _ => none
  | k + 1 => fun σ x1 x2 x4 x6 =>
    if (qm_g_bound σ) ≤ x6 then if (qm_kindOf x2) = (2 : Int32) then ((qm_binds N σ x4 (qm_indexOf σ x2) (qm_g_around σ))).bind fun r13 =>
          if r13.1 = (0 : Int32) then some ((-5 : Int32), r13.2)
          else if inb x1 4000 = true then some ((qm_goesTo r13.2 (qm_g_third r13.2 (Int32.toNatClampNeg x1)) x4).1, (qm_goesTo r13.2 (qm_g_third r13.2 (Int32.toNatClampNeg x1)) x4).2)
            else none
      else if inb x1 4000 = true then some ((qm_goesTo σ (qm_g_third σ (Int32.toNatClampNeg x1)) x4).1, (qm_goesTo σ (qm_g_third σ (Int32.toNatClampNeg x1)) x4).2)
        else none
    else if inb x6 102 = true then if inb x6 102 = true then ((qm_binds N σ x4 (qm_g_boundSymbol σ (Int32.toNatClampNeg x6)) (qm_g_boundValue σ (Int32.toNatClampNeg x6)))).bind fun r19 =>
            if r19.1 = (0 : Int32) then some ((-5 : Int32), r19.2)
            else (qm_combinesCompound_L61 N k r19.2 x1 x2 x4 (x6 + (1 : Int32)))
        else none
      else none
def qm_combinesCompound (N : Nat) (σ : qm_S)  : Option (Int32 × qm_S) :=
  if inb (qm_indexOf σ (qm_g_now σ)) 4000 = true then if inb (qm_indexOf σ (qm_g_now σ)) 4000 = true then ((qm_matches N σ (qm_g_first σ (Int32.toNatClampNeg (qm_indexOf σ (qm_g_now σ)))) (qm_g_operands σ))).bind fun r3 =>
        if r3.1 = (0 : Int32) then some ((-8 : Int32), r3.2)
        else if (qm_isFull r3.2) = (0 : Int32) then if inb (qm_indexOf σ (qm_g_now σ)) 4000 = true then ((qm_addsEnvironment r3.2 (qm_g_fourth r3.2 (Int32.toNatClampNeg (qm_indexOf σ (qm_g_now σ)))))).bind fun r8 =>
                (qm_combinesCompound_L61 N N r8.2 (qm_indexOf σ (qm_g_now σ)) (qm_g_second σ (Int32.toNatClampNeg (qm_indexOf σ (qm_g_now σ)))) r8.1 (0 : Int32))
            else none
          else some ((-5 : Int32), r3.2)
    else none
  else none
def qm_makesOperative_B41 (N : Nat) (σ : qm_S) (x1 : Int64) (x3 : Int64) (x5 : Int64) (x7 : Int32) : Option (Int32 × qm_S) :=
  if (qm_isFull σ) = (0 : Int32) then if inb (qm_g_objects σ) 4000 = true then if inb (qm_g_objects σ) 4000 = true then ((qm_adds (qm_t_fourth (qm_t_third σ (qm_g_objects σ) x5) (qm_g_objects σ) (qm_g_around σ)) (5 : Int32) x1 x3)).bind fun r11 =>
          if x7 = (0 : Int32) then if x7 = (0 : Int32) then some ((qm_gives r11.2 r11.1).1, (qm_gives r11.2 r11.1).2)
            else ((qm_adds r11.2 (6 : Int32) r11.1 (0 : Int64))).bind fun r15 =>
                some ((qm_gives r15.2 r15.1).1, (qm_gives r15.2 r15.1).2)
          else if (qm_isFull r11.2) = (0 : Int32) then if x7 = (0 : Int32) then some ((qm_gives r11.2 r11.1).1, (qm_gives r11.2 r11.1).2)
              else ((qm_adds r11.2 (6 : Int32) r11.1 (0 : Int64))).bind fun r19 =>
                  some ((qm_gives r19.2 r19.1).1, (qm_gives r19.2 r19.1).2)
            else some ((-5 : Int32), r11.2)
      else none
    else none
  else some ((-5 : Int32), σ)
def qm_makesOperative (N : Nat) (σ : qm_S) (a1 : Int64) (a3 : Int64) (a5 : Int64) (a7 : Int32) : Option (Int32 × qm_S) :=
  ((qm_isTree N σ a1)).bind fun r1 =>
    if r1.1 = (0 : Int32) then some ((-8 : Int32), r1.2)
    else if (qm_kindOf a3) = (8 : Int32) then (qm_makesOperative_B41 N r1.2 a1 a3 a5 a7)
      else if (qm_kindOf a3) = (2 : Int32) then if inb (qm_indexOf r1.2 a3) 100 = true then if (qm_g_isSeen r1.2 (Int32.toNatClampNeg (qm_indexOf r1.2 a3))) = (0 : Int32) then (qm_makesOperative_B41 N r1.2 a1 a3 a5 a7)
            else some ((-8 : Int32), r1.2)
          else none
        else some ((-8 : Int32), r1.2)
def qm_isSymbol (a0 : Int64) : Int32 :=
  if (qm_kindOf a0) = (2 : Int32) then (1 : Int32)
  else (0 : Int32)
def qm_combinesPart_B56 (N : Nat) (σ : qm_S) (x1 : Int32) (x2 : Int32) (x3 : Int64) (x5 : Int64) (y0 : Int64) : Option (Int32 × qm_S) :=
  if x1 = (0 : Int32) then if x2 = (3 : Int32) then ((qm_goesWith σ (2 : Int32) x5 y0 (0 : Int32) x3 (qm_g_around σ))).bind fun r12 =>
        some (r12.1, r12.2)
    else some ((-8 : Int32), σ)
  else if x1 = (1 : Int32) then if x2 = (3 : Int32) then ((qm_makesOperative N σ x3 x5 y0 (0 : Int32))).bind fun r16 =>
          some (r16.1, r16.2)
      else some ((-8 : Int32), σ)
    else if x1 = (2 : Int32) then if x2 = (2 : Int32) then ((qm_makesOperative N σ x3 (8 : Int64) x5 (1 : Int32))).bind fun r20 =>
            some (r20.1, r20.2)
        else some ((-8 : Int32), σ)
      else if x1 = (3 : Int32) then if x2 = (2 : Int32) then if (qm_isSymbol x3) = (0 : Int32) then some ((-8 : Int32), σ)
            else ((qm_goesWith σ (3 : Int32) (0 : Int64) (0 : Int64) (qm_indexOf σ x3) x5 (qm_g_around σ))).bind fun r25 =>
                some (r25.1, r25.2)
          else some ((-8 : Int32), σ)
        else if x1 = (4 : Int32) then if x2 = (3 : Int32) then if (qm_isSymbol x5) = (0 : Int32) then some ((-8 : Int32), σ)
              else ((qm_goesWith σ (4 : Int32) y0 (0 : Int64) (qm_indexOf σ x5) x3 (qm_g_around σ))).bind fun r30 =>
                  some (r30.1, r30.2)
            else some ((-8 : Int32), σ)
          else if x1 = (5 : Int32) then ((qm_beginsWith σ (qm_g_operands σ) (qm_g_around σ))).bind fun r33 =>
                some (r33.1, r33.2)
            else if x1 = (6 : Int32) then if x2 = (1 : Int32) then some ((qm_gives σ x3).1, (qm_gives σ x3).2)
                else some ((-8 : Int32), σ)
              else if x2 = (0 : Int32) then some ((qm_gives σ (qm_g_around σ)).1, (qm_gives σ (qm_g_around σ)).2)
                else some ((-8 : Int32), σ)
def qm_combinesPart_B36 (N : Nat) (σ : qm_S) (x1 : Int32) (x2 : Int32) (x3 : Int64) (y0 : Int64) : Option (Int32 × qm_S) :=
  if x2 ≤ (2 : Int32) then (qm_combinesPart_B56 N σ x1 x2 x3 y0 (0 : Int64))
  else ((qm_elementOf N σ (qm_g_operands σ) (2 : Int32))).bind fun r8 =>
      (qm_combinesPart_B56 N σ x1 x2 x3 y0 r8)
def qm_combinesPart_B17 (N : Nat) (σ : qm_S) (x1 : Int32) (x2 : Int32) (y0 : Int64) : Option (Int32 × qm_S) :=
  if x2 ≤ (1 : Int32) then (qm_combinesPart_B36 N σ x1 x2 y0 (0 : Int64))
  else ((qm_elementOf N σ (qm_g_operands σ) (1 : Int32))).bind fun r5 =>
      (qm_combinesPart_B36 N σ x1 x2 y0 r5)
def qm_combinesPart (N : Nat) (σ : qm_S) (a1 : Int32) (a2 : Int32) : Option (Int32 × qm_S) :=
  if a2 ≤ (0 : Int32) then (qm_combinesPart_B17 N σ a1 a2 (0 : Int64))
  else ((qm_elementOf N σ (qm_g_operands σ) (0 : Int32))).bind fun r2 =>
      (qm_combinesPart_B17 N σ a1 a2 r2)
def qm_isIn (a0 : Int64) : Int32 :=
  (bz (qm_within a0 (-1000000000000000 : Int64) (1000000000000000 : Int64)))
def qm_times_B26 (x0 : Int64) (x2 : Int64) (x4 : Int64) (y0 : Int64) : Int64 :=
  if (0 : Int64) < y0 then if ((1000000000000000 : Int64) / y0) < x4 then (1000000000000001 : Int64)
    else (x0 * x2)
  else (x0 * x2)
def qm_times_B12 (x0 : Int64) (x2 : Int64) (y0 : Int64) : Int64 :=
  if x2 < (0 : Int64) then (qm_times_B26 x0 x2 y0 (- x2))
  else (qm_times_B26 x0 x2 y0 x2)
def qm_times (a0 : Int64) (a2 : Int64) : Int64 :=
  if a0 < (0 : Int64) then (qm_times_B12 a0 a2 (- a0))
  else (qm_times_B12 a0 a2 a0)
def qm_reckons_L52 (N : Nat) : Nat → qm_S → Int32 → Int64 → Int64 → Option (Int32 × qm_S)
  | 0 => fun _ _ _ _ => none
  | k + 1 => fun σ x1 x2 x4 =>
    if (qm_kindOf x2) = (4 : Int32) then ((qm_carOf σ x2)).bind fun r9 =>
        if x1 = (0 : Int32) then if (qm_isIn (qm_times x4 (qm_whatOf r9))) = (0 : Int32) then some ((-9 : Int32), σ)
          else ((qm_cdrOf σ x2)).bind fun r13 =>
              (qm_reckons_L52 N k σ x1 r13 (qm_times x4 (qm_whatOf r9)))
        else if (qm_isIn (x4 + (qm_whatOf r9))) = (0 : Int32) then some ((-9 : Int32), σ)
          else ((qm_cdrOf σ x2)).bind fun r16 =>
              (qm_reckons_L52 N k σ x1 r16 (x4 + (qm_whatOf r9)))
    else some ((qm_gives σ (qm_made (0 : Int32) x4)).1, (qm_gives σ (qm_made (0 : Int32) x4)).2)
def qm_reckons_L5 (N : Nat) : Nat → qm_S → Int32 → Int64 → Option (Int32 × qm_S)
  | 0 => fun _ _ _ => none
  | k + 1 => fun σ x1 x2 =>
    if (qm_kindOf x2) = (4 : Int32) then ((qm_carOf σ x2)).bind fun r3 =>
        if (qm_kindOf r3) = (0 : Int32) then ((qm_cdrOf σ x2)).bind fun r6 =>
            (qm_reckons_L5 N k σ x1 r6)
        else some ((-8 : Int32), σ)
    else if x1 = (0 : Int32) then (qm_reckons_L52 N N σ x1 (qm_g_operands σ) (1 : Int64))
      else (qm_reckons_L52 N N σ x1 (qm_g_operands σ) (0 : Int64))
def qm_reckons (N : Nat) (σ : qm_S) (a1 : Int32) : Option (Int32 × qm_S) :=
  (qm_reckons_L5 N N σ a1 (qm_g_operands σ))
def qm_creates (σ : qm_S) (a1 : Int32) (a2 : Int64) (a4 : Int64) : Option (Int32 × qm_S) :=
  if (qm_isFull σ) = (0 : Int32) then ((qm_adds σ a1 a2 a4)).bind fun r2 =>
      some ((qm_gives r2.2 r2.1).1, (qm_gives r2.2 r2.1).2)
  else some ((-5 : Int32), σ)
def qm_combinesTwo_B41 (σ : qm_S) (x1 : Int32) (x2 : Int64) (x4 : Int64) (x6 : Int32) (y0 : Int64) : Option (Int32 × qm_S) :=
  if x1 = (12 : Int32) then if x6 = (0 : Int32) then some ((-8 : Int32), σ)
    else if (qm_isIn y0) = (0 : Int32) then some ((-9 : Int32), σ)
      else some ((qm_gives σ (qm_made (0 : Int32) y0)).1, (qm_gives σ (qm_made (0 : Int32) y0)).2)
  else if x1 = (13 : Int32) then if x6 = (0 : Int32) then some ((-8 : Int32), σ)
      else if y0 < (0 : Int64) then some ((qm_gives σ (qm_truth (1 : Int32))).1, (qm_gives σ (qm_truth (1 : Int32))).2)
        else some ((qm_gives σ (qm_truth (0 : Int32))).1, (qm_gives σ (qm_truth (0 : Int32))).2)
    else if x1 = (14 : Int32) then if x2 = x4 then some ((qm_gives σ (qm_truth (1 : Int32))).1, (qm_gives σ (qm_truth (1 : Int32))).2)
        else some ((qm_gives σ (qm_truth (0 : Int32))).1, (qm_gives σ (qm_truth (0 : Int32))).2)
      else if x1 = (15 : Int32) then ((qm_creates σ (4 : Int32) x2 x4)).bind fun r13 =>
            some (r13.1, r13.2)
        else if x1 = (16 : Int32) then if (qm_kindOf x2) = (6 : Int32) then if (qm_isFull σ) = (0 : Int32) then ((qm_underOf σ x2)).bind fun r18 =>
                  ((qm_addsEnvironment σ (-1 : Int64))).bind fun r20 =>
                    some ((qm_combines r20.2 r18 x4 r20.1).1, (qm_combines r20.2 r18 x4 r20.1).2)
              else some ((-5 : Int32), σ)
            else some ((-8 : Int32), σ)
          else if x1 = (17 : Int32) then if (qm_kindOf x2) = (6 : Int32) then if (qm_isFull σ) = (0 : Int32) then ((qm_underOf σ x2)).bind fun r25 =>
                    ((qm_addsEnvironment σ (-1 : Int64))).bind fun r27 =>
                      some ((qm_combines r27.2 r25 x4 r27.1).1, (qm_combines r27.2 r25 x4 r27.1).2)
                else some ((-5 : Int32), σ)
              else some ((-8 : Int32), σ)
            else if x1 = (18 : Int32) then if (qm_kindOf x2) = (6 : Int32) then if (qm_isFull σ) = (0 : Int32) then ((qm_underOf σ x2)).bind fun r32 =>
                      ((qm_addsEnvironment σ (-1 : Int64))).bind fun r34 =>
                        some ((qm_combines r34.2 r32 x4 r34.1).1, (qm_combines r34.2 r32 x4 r34.1).2)
                  else some ((-5 : Int32), σ)
                else some ((-8 : Int32), σ)
              else if x1 = (19 : Int32) then if (qm_kindOf x2) = (6 : Int32) then if (qm_isFull σ) = (0 : Int32) then ((qm_underOf σ x2)).bind fun r39 =>
                        ((qm_addsEnvironment σ (-1 : Int64))).bind fun r41 =>
                          some ((qm_combines r41.2 r39 x4 r41.1).1, (qm_combines r41.2 r39 x4 r41.1).2)
                    else some ((-5 : Int32), σ)
                  else some ((-8 : Int32), σ)
                else if x1 = (20 : Int32) then if (qm_kindOf x4) = (7 : Int32) then some ((qm_goesTo σ x2 x4).1, (qm_goesTo σ x2 x4).2)
                    else some ((-8 : Int32), σ)
                  else if (qm_kindOf x2) = (6 : Int32) then if (qm_isFull σ) = (0 : Int32) then ((qm_underOf σ x2)).bind fun r47 =>
                          ((qm_addsEnvironment σ (-1 : Int64))).bind fun r49 =>
                            some ((qm_combines r49.2 r47 x4 r49.1).1, (qm_combines r49.2 r47 x4 r49.1).2)
                      else some ((-5 : Int32), σ)
                    else some ((-8 : Int32), σ)
def qm_combinesTwo_B20 (σ : qm_S) (x1 : Int32) (x2 : Int64) (x4 : Int64) (y0 : Int32) : Option (Int32 × qm_S) :=
  if y0 = (0 : Int32) then (qm_combinesTwo_B41 σ x1 x2 x4 y0 (0 : Int64))
  else (qm_combinesTwo_B41 σ x1 x2 x4 y0 ((qm_whatOf x2) - (qm_whatOf x4)))
def qm_combinesTwo (σ : qm_S) (a1 : Int32) (a2 : Int64) (a4 : Int64) : Option (Int32 × qm_S) :=
  if (qm_kindOf a2) = (0 : Int32) then if (qm_kindOf a4) = (0 : Int32) then (qm_combinesTwo_B20 σ a1 a2 a4 (1 : Int32))
    else (qm_combinesTwo_B20 σ a1 a2 a4 (0 : Int32))
  else (qm_combinesTwo_B20 σ a1 a2 a4 (0 : Int32))
def qm_combinesSingle (σ : qm_S) (a1 : Int32) (a2 : Int64) : Option (Int32 × qm_S) :=
  if a1 = (16 : Int32) then if (qm_kindOf a2) = (4 : Int32) then ((qm_carOf σ a2)).bind fun r3 =>
        some ((qm_gives σ r3).1, (qm_gives σ r3).2)
    else some ((-8 : Int32), σ)
  else if a1 = (17 : Int32) then if (qm_kindOf a2) = (4 : Int32) then ((qm_cdrOf σ a2)).bind fun r7 =>
          some ((qm_gives σ r7).1, (qm_gives σ r7).2)
      else some ((-8 : Int32), σ)
    else if a1 = (18 : Int32) then if (qm_kindOf a2) = (3 : Int32) then some ((qm_gives σ (qm_truth (1 : Int32))).1, (qm_gives σ (qm_truth (1 : Int32))).2)
        else some ((qm_gives σ (qm_truth (0 : Int32))).1, (qm_gives σ (qm_truth (0 : Int32))).2)
      else if a1 = (19 : Int32) then if (qm_kindOf a2) = (4 : Int32) then some ((qm_gives σ (qm_truth (1 : Int32))).1, (qm_gives σ (qm_truth (1 : Int32))).2)
          else some ((qm_gives σ (qm_truth (0 : Int32))).1, (qm_gives σ (qm_truth (0 : Int32))).2)
        else if a1 = (20 : Int32) then if (qm_kindOf a2) = (6 : Int32) then ((qm_underOf σ a2)).bind fun r15 =>
                some ((qm_gives σ r15).1, (qm_gives σ r15).2)
            else some ((-8 : Int32), σ)
          else if a1 = (21 : Int32) then if (qm_kindOf a2) = (5 : Int32) then ((qm_creates σ (6 : Int32) a2 (0 : Int64))).bind fun r19 =>
                  some (r19.1, r19.2)
              else if (qm_kindOf a2) = (6 : Int32) then ((qm_creates σ (6 : Int32) a2 (0 : Int64))).bind fun r22 =>
                    some (r22.1, r22.2)
                else some ((-8 : Int32), σ)
            else if (qm_kindOf a2) = (6 : Int32) then ((qm_underOf σ a2)).bind fun r25 =>
                  some ((qm_gives σ r25).1, (qm_gives σ r25).2)
              else some ((-8 : Int32), σ)
def qm_createsEnvironment_B29 (σ : qm_S) (x1 : Int32) : Option (Int32 × qm_S) :=
  if (qm_isFull σ) = (0 : Int32) then if x1 = (1 : Int32) then ((qm_carOf σ (qm_g_operands σ))).bind fun r10 =>
        ((qm_addsEnvironment σ r10)).bind fun r12 =>
          some ((qm_gives r12.2 r12.1).1, (qm_gives r12.2 r12.1).2)
    else ((qm_addsEnvironment σ (-1 : Int64))).bind fun r8 =>
        some ((qm_gives r8.2 r8.1).1, (qm_gives r8.2 r8.1).2)
  else some ((-5 : Int32), σ)
def qm_createsEnvironment (σ : qm_S) (a1 : Int32) : Option (Int32 × qm_S) :=
  if (1 : Int32) < a1 then some ((-8 : Int32), σ)
  else if a1 = (1 : Int32) then ((qm_carOf σ (qm_g_operands σ))).bind fun r3 =>
        if (qm_kindOf r3) = (7 : Int32) then (qm_createsEnvironment_B29 σ a1)
        else some ((-8 : Int32), σ)
    else (qm_createsEnvironment_B29 σ a1)
def qm_combinesPrimitive_B118 (N : Nat) (σ : qm_S) (x1 : Int32) (x3 : Int32) (y0 : Int32) (y1 : Int32) : Option (Int32 × qm_S) :=
  if y1 = y0 then ((qm_carOf σ (qm_g_operands σ))).bind fun r28 =>
      if x3 = (0 : Int32) then ((qm_combinesSingle σ x1 r28)).bind fun r31 =>
          some (r31.1, r31.2)
      else ((qm_elementOf N σ (qm_g_operands σ) (1 : Int32))).bind fun r33 =>
          ((qm_combinesTwo σ x1 r28 r33)).bind fun r35 =>
            some (r35.1, r35.2)
  else some ((-8 : Int32), σ)
def qm_combinesPrimitive_B102 (N : Nat) (σ : qm_S) (x1 : Int32) (x2 : Int32) : Option (Int32 × qm_S) :=
  if (1 : Int32) = (0 : Int32) then (qm_combinesPrimitive_B118 N σ x1 (1 : Int32) (1 : Int32) x2)
  else (qm_combinesPrimitive_B118 N σ x1 (1 : Int32) (2 : Int32) x2)
def qm_combinesPrimitive (N : Nat) (σ : qm_S) (a1 : Int32) : Option (Int32 × qm_S) :=
  ((qm_longOf N σ (qm_g_operands σ))).bind fun r1 =>
    if (0 : Int32) ≤ r1 then if (8 : Int32) ≤ a1 then if a1 = (10 : Int32) then if a1 = (10 : Int32) then ((qm_reckons N σ (1 : Int32))).bind fun r9 =>
              some (r9.1, r9.2)
          else ((qm_reckons N σ (0 : Int32))).bind fun r7 =>
              some (r7.1, r7.2)
        else if a1 = (11 : Int32) then if a1 = (10 : Int32) then ((qm_reckons N σ (1 : Int32))).bind fun r23 =>
                some (r23.1, r23.2)
            else ((qm_reckons N σ (0 : Int32))).bind fun r21 =>
                some (r21.1, r21.2)
          else if a1 = (23 : Int32) then ((qm_createsEnvironment σ r1)).bind fun r18 =>
                some (r18.1, r18.2)
            else if a1 = (25 : Int32) then some ((qm_gives σ (qm_g_operands σ)).1, (qm_gives σ (qm_g_operands σ)).2)
              else if a1 < (16 : Int32) then (qm_combinesPrimitive_B102 N σ a1 r1)
                else if a1 = (20 : Int32) then (qm_combinesPrimitive_B102 N σ a1 r1)
                  else if a1 = (24 : Int32) then (qm_combinesPrimitive_B102 N σ a1 r1)
                    else if (0 : Int32) = (0 : Int32) then (qm_combinesPrimitive_B118 N σ a1 (0 : Int32) (1 : Int32) r1)
                      else (qm_combinesPrimitive_B118 N σ a1 (0 : Int32) (2 : Int32) r1)
      else ((qm_combinesPart N σ a1 r1)).bind fun r25 =>
          some (r25.1, r25.2)
    else some ((-8 : Int32), σ)
def qm_combinesOne (N : Nat) (σ : qm_S)  : Option (Int32 × qm_S) :=
  if (qm_kindOf (qm_g_now σ)) = (6 : Int32) then ((qm_longOf N σ (qm_g_operands σ))).bind fun r8 =>
      if (0 : Int32) ≤ r8 then ((qm_goesOn N σ (qm_g_now σ) (qm_g_operands σ) (qm_g_around σ) (qm_g_resultMany σ))).bind fun r11 =>
          some (r11.1, r11.2)
      else some ((-8 : Int32), σ)
  else if (qm_kindOf (qm_g_now σ)) = (5 : Int32) then if (qm_whatOf (qm_g_now σ)) < (0 : Int64) then ((qm_combinesPrimitive N σ ((-1 : Int32) - (qm_indexOf σ (qm_g_now σ))))).bind fun r6 =>
          some (r6.1, r6.2)
      else ((qm_combinesCompound N σ)).bind fun r4 =>
          some (r4.1, r4.2)
    else some ((-7 : Int32), σ)
def qm_runs_L2 (N : Nat) : Nat → qm_S → Int32 → Option (Int32 × qm_S)
  | 0 => fun _ _ => none
  | k + 1 => fun σ x1 =>
    if x1 = (0 : Int32) then if (qm_g_mode σ) = (2 : Int32) then if (qm_g_frames σ) ≤ (0 : Int32) then some (x1, σ)
        else if (qm_g_mode σ) = (0 : Int32) then ((qm_evaluatesOne N σ)).bind fun r18 =>
              (qm_runs_L2 N k r18.2 r18.1)
          else if (qm_g_mode σ) = (1 : Int32) then ((qm_combinesOne N σ)).bind fun r16 =>
                (qm_runs_L2 N k r16.2 r16.1)
            else ((qm_takesResult N σ)).bind fun r14 =>
                (qm_runs_L2 N k r14.2 r14.1)
      else if (qm_g_mode σ) = (0 : Int32) then ((qm_evaluatesOne N σ)).bind fun r9 =>
            (qm_runs_L2 N k r9.2 r9.1)
        else if (qm_g_mode σ) = (1 : Int32) then ((qm_combinesOne N σ)).bind fun r7 =>
              (qm_runs_L2 N k r7.2 r7.1)
          else ((qm_takesResult N σ)).bind fun r5 =>
              (qm_runs_L2 N k r5.2 r5.1)
    else some (x1, σ)
def qm_runs (N : Nat) (σ : qm_S)  : Option (Int32 × qm_S) :=
  (qm_runs_L2 N N σ (0 : Int32))
def qm_evaluate (N : Nat) (σ : qm_S)  : Option (Int32 × qm_S) :=
  if (qm_g_values σ) = (0 : Int32) then some ((-2 : Int32), σ)
  else if inb ((qm_g_values σ) - (1 : Int32)) 40 = true then ((qm_runs N (qm_goesTo (qm_s_resultMany (qm_s_frames (qm_s_mostFrames (qm_s_steps (qm_s_values σ ((qm_g_values σ) - (1 : Int32))) (0 : Int32)) (0 : Int32)) (0 : Int32)) (0 : Int32)) (qm_g_stack σ (Int32.toNatClampNeg ((qm_g_values σ) - (1 : Int32)))) (qm_g_present σ)).2)).bind fun r3 =>
        if (0 : Int32) ≤ r3.1 then ((qm_pushes r3.2 (qm_g_now r3.2))).bind fun r6 =>
            some ((qm_g_steps r6.2), r6.2)
        else some (r3.1, r3.2)
    else none
def qm_useEnvironment (σ : qm_S)  : Option (Int32 × qm_S) :=
  if (qm_g_values σ) = (0 : Int32) then some ((-2 : Int32), σ)
  else ((qm_at σ (0 : Int32))).bind fun r2 =>
      if (qm_kindOf r2) = (7 : Int32) then ((qm_at σ (0 : Int32))).bind fun r5 =>
          some (((qm_g_values σ) - (1 : Int32)), (qm_s_values (qm_s_present σ r5) ((qm_g_values σ) - (1 : Int32))))
      else some ((-4 : Int32), σ)
def qm_useUser (σ : qm_S)  : Int32 × qm_S :=
  if (qm_g_present σ) = (-25 : Int64) then ((0 : Int32), (qm_s_present σ (-25 : Int64)))
  else ((1 : Int32), (qm_s_present σ (-25 : Int64)))
def qm_setLimit (σ : qm_S) (a1 : Int32) : Int32 × qm_S :=
  if (qm_within (Int32.toInt64 a1) (1 : Int64) (1500 : Int64)) = (0 : Int32) then ((-1 : Int32), σ)
  else ((qm_g_limit σ), (qm_s_limit σ a1))
def qm_latest (σ : qm_S) (a1 : Int32) : Int32 :=
  if a1 = (0 : Int32) then (qm_g_steps σ)
  else if a1 = (1 : Int32) then (qm_g_mostFrames σ)
    else (-1 : Int32)
def qm_heapSize (σ : qm_S)  : Int32 :=
  (qm_g_objects σ)
end
section
/-! words of the tables, by their places -/
theorem k_abs_ml : Cond.methodLink qw_R 25 Lib.MathLoose.abs_long.x ∈ gw := gw_at 700 (by decide +kernel) rfl
theorem k_abs_st : Cond.static Lib.MathLoose.abs_long.x ∈ gw := gw_at 701 (by decide +kernel) rfl
theorem k_abs_in : Cond.initialized "java/lang/Math" ∈ gw := gw_at 102 (by decide +kernel) rfl
theorem k_abs_cd : Cond.code Lib.MathLoose.abs_long.x Lib.MathLoose.abs_long.code 2 (some .long) ∈ gw := gw_at 702 (by decide +kernel) rfl
theorem k_0 : Cond.selects qh_R qh_write_y qh_write_y ∈ gw := gw_at 0 (by decide +kernel) rfl
theorem k_1 : Cond.selects qh_R qh_bindInGround_y qh_bindInGround_y ∈ gw := gw_at 1 (by decide +kernel) rfl
theorem k_2 : Cond.selects qh_R qh_latestBindingOf_y qh_latestBindingOf_y ∈ gw := gw_at 2 (by decide +kernel) rfl
theorem k_3 : Cond.selects qh_R qh_secondAt_y qh_secondAt_y ∈ gw := gw_at 3 (by decide +kernel) rfl
theorem k_4 : Cond.selects qx_R qx_push_y qx_push_y ∈ gw := gw_at 4 (by decide +kernel) rfl
theorem k_5 : Cond.selects qx_R qx_depthError_y qx_depthError_y ∈ gw := gw_at 5 (by decide +kernel) rfl
theorem k_6 : Cond.selects qx_R qx_valueAt_y qx_valueAt_y ∈ gw := gw_at 6 (by decide +kernel) rfl
theorem k_7 : Cond.selects qh_R qh_firstAt_y qh_firstAt_y ∈ gw := gw_at 7 (by decide +kernel) rfl
theorem k_8 : Cond.selects qx_R qx_pushParent_y qx_pushParent_y ∈ gw := gw_at 8 (by decide +kernel) rfl
theorem k_9 : Cond.selects qx_R qx_kindError_y qx_kindError_y ∈ gw := gw_at 9 (by decide +kernel) rfl
theorem k_10 : Cond.selects qh_R qh_ownBinding_y qh_ownBinding_y ∈ gw := gw_at 10 (by decide +kernel) rfl
theorem k_11 : Cond.selects qh_R qh_add_y qh_add_y ∈ gw := gw_at 11 (by decide +kernel) rfl
theorem k_12 : Cond.selects qx_R qx_countError_y qx_countError_y ∈ gw := gw_at 12 (by decide +kernel) rfl
theorem k_13 : Cond.selects qn_R qn_evaluateInTail_y qn_evaluateInTail_y ∈ gw := gw_at 13 (by decide +kernel) rfl
theorem k_14 : Cond.selects qn_R qn_evaluateCurrent_y qn_evaluateCurrent_y ∈ gw := gw_at 14 (by decide +kernel) rfl
theorem k_15 : Cond.selects qn_R qn_fail_y qn_fail_y ∈ gw := gw_at 15 (by decide +kernel) rfl
theorem k_16 : Cond.selects qn_R qn_evaluateWithFrame_y qn_evaluateWithFrame_y ∈ gw := gw_at 16 (by decide +kernel) rfl
theorem k_17 : Cond.selects qn_R qn_lookUp_y qn_lookUp_y ∈ gw := gw_at 17 (by decide +kernel) rfl
theorem k_18 : Cond.selects qn_R qn_giveBack_y qn_giveBack_y ∈ gw := gw_at 18 (by decide +kernel) rfl
theorem k_19 : Cond.selects qn_R qn_combineCurrent_y qn_combineCurrent_y ∈ gw := gw_at 19 (by decide +kernel) rfl
theorem k_20 : Cond.selects qn_R qn_combineApplicative_y qn_combineApplicative_y ∈ gw := gw_at 20 (by decide +kernel) rfl
theorem k_21 : Cond.selects qn_R qn_evaluateArguments_y qn_evaluateArguments_y ∈ gw := gw_at 21 (by decide +kernel) rfl
theorem k_22 : Cond.selects qn_R qn_combineWithArguments_y qn_combineWithArguments_y ∈ gw := gw_at 22 (by decide +kernel) rfl
theorem k_23 : Cond.selects qn_R qn_combine_y qn_combine_y ∈ gw := gw_at 23 (by decide +kernel) rfl
theorem k_24 : Cond.selects qn_R qn_combineCompound_y qn_combineCompound_y ∈ gw := gw_at 24 (by decide +kernel) rfl
theorem k_25 : Cond.selects qt_R qt_start_y qt_start_y ∈ gw := gw_at 25 (by decide +kernel) rfl
theorem k_26 : Cond.selects qt_R qt_putOff_y qt_putOff_y ∈ gw := gw_at 26 (by decide +kernel) rfl
theorem k_27 : Cond.selects qt_R qt_takeTree_y qt_takeTree_y ∈ gw := gw_at 27 (by decide +kernel) rfl
theorem k_28 : Cond.selects qt_R qt_takenPart_y qt_takenPart_y ∈ gw := gw_at 28 (by decide +kernel) rfl
theorem k_29 : Cond.selects qt_R qt_find_y qt_find_y ∈ gw := gw_at 29 (by decide +kernel) rfl
theorem k_30 : Cond.selects qn_R qn_bindCaller_y qn_bindCaller_y ∈ gw := gw_at 30 (by decide +kernel) rfl
theorem k_31 : Cond.selects qn_R qn_callPrimitive_y qn_callPrimitive_y ∈ gw := gw_at 31 (by decide +kernel) rfl
theorem k_32 : Cond.selects qn_R qn_hasDueCount_y qn_hasDueCount_y ∈ gw := gw_at 32 (by decide +kernel) rfl
theorem k_33 : Cond.selects qn_R qn_haveDueKinds_y qn_haveDueKinds_y ∈ gw := gw_at 33 (by decide +kernel) rfl
theorem k_34 : Cond.selects qn_R qn_operand_y qn_operand_y ∈ gw := gw_at 34 (by decide +kernel) rfl
theorem k_35 : Cond.selects qn_R qn_canNameCaller_y qn_canNameCaller_y ∈ gw := gw_at 35 (by decide +kernel) rfl
theorem k_36 : Cond.selects qn_R qn_isOperand_y qn_isOperand_y ∈ gw := gw_at 36 (by decide +kernel) rfl
theorem k_37 : Cond.selects qn_R qn_areIntegers_y qn_areIntegers_y ∈ gw := gw_at 37 (by decide +kernel) rfl
theorem k_38 : Cond.selects qn_R qn_callSpecial_y qn_callSpecial_y ∈ gw := gw_at 38 (by decide +kernel) rfl
theorem k_39 : Cond.selects qn_R qn_makeOperative_y qn_makeOperative_y ∈ gw := gw_at 39 (by decide +kernel) rfl
theorem k_40 : Cond.selects qn_R qn_giveBackNew_y qn_giveBackNew_y ∈ gw := gw_at 40 (by decide +kernel) rfl
theorem k_41 : Cond.selects qn_R qn_makeFunction_y qn_makeFunction_y ∈ gw := gw_at 41 (by decide +kernel) rfl
theorem k_42 : Cond.selects qn_R qn_evaluateSequence_y qn_evaluateSequence_y ∈ gw := gw_at 42 (by decide +kernel) rfl
theorem k_43 : Cond.selects qn_R qn_callDataFunction_y qn_callDataFunction_y ∈ gw := gw_at 43 (by decide +kernel) rfl
theorem k_44 : Cond.selects qn_R qn_accumulate_y qn_accumulate_y ∈ gw := gw_at 44 (by decide +kernel) rfl
theorem k_45 : Cond.selects qn_R qn_giveBackInteger_y qn_giveBackInteger_y ∈ gw := gw_at 45 (by decide +kernel) rfl
theorem k_46 : Cond.selects qn_R qn_callScopeFunction_y qn_callScopeFunction_y ∈ gw := gw_at 46 (by decide +kernel) rfl
theorem k_47 : Cond.selects qn_R qn_makeEnvironment_y qn_makeEnvironment_y ∈ gw := gw_at 47 (by decide +kernel) rfl
theorem k_48 : Cond.selects qn_R qn_applyWithoutScope_y qn_applyWithoutScope_y ∈ gw := gw_at 48 (by decide +kernel) rfl
theorem k_49 : Cond.selects qn_R qn_returnCurrent_y qn_returnCurrent_y ∈ gw := gw_at 49 (by decide +kernel) rfl
theorem k_50 : Cond.selects qf_R qf_canRead_y qf_canRead_y ∈ gw := gw_at 50 (by decide +kernel) rfl
theorem k_51 : Cond.selects qn_R qn_takeArgument_y qn_takeArgument_y ∈ gw := gw_at 51 (by decide +kernel) rfl
theorem k_52 : Cond.selects qn_R qn_choose_y qn_choose_y ∈ gw := gw_at 52 (by decide +kernel) rfl
theorem k_53 : Cond.selects qn_R qn_bindCurrent_y qn_bindCurrent_y ∈ gw := gw_at 53 (by decide +kernel) rfl
theorem k_54 : Cond.selects qn_R qn_takePlace_y qn_takePlace_y ∈ gw := gw_at 54 (by decide +kernel) rfl
theorem k_55 : Cond.selects qm_R qm_begin_y qm_begin_y ∈ gw := gw_at 55 (by decide +kernel) rfl
theorem k_56 : Cond.selects qm_R qm_pushes_y qm_pushes_y ∈ gw := gw_at 56 (by decide +kernel) rfl
theorem k_57 : Cond.selects qm_R qm_depthBarred_y qm_depthBarred_y ∈ gw := gw_at 57 (by decide +kernel) rfl
theorem k_58 : Cond.selects qm_R qm_at_y qm_at_y ∈ gw := gw_at 58 (by decide +kernel) rfl
theorem k_59 : Cond.selects qm_R qm_carOf_y qm_carOf_y ∈ gw := gw_at 59 (by decide +kernel) rfl
theorem k_60 : Cond.selects qm_R qm_indexOf_y qm_indexOf_y ∈ gw := gw_at 60 (by decide +kernel) rfl
theorem k_61 : Cond.selects qm_R qm_cdrOf_y qm_cdrOf_y ∈ gw := gw_at 61 (by decide +kernel) rfl
theorem k_62 : Cond.selects qm_R qm_underOf_y qm_underOf_y ∈ gw := gw_at 62 (by decide +kernel) rfl
theorem k_63 : Cond.selects qm_R qm_parentOf_y qm_parentOf_y ∈ gw := gw_at 63 (by decide +kernel) rfl
theorem k_64 : Cond.selects qm_R qm_finds_y qm_finds_y ∈ gw := gw_at 64 (by decide +kernel) rfl
theorem k_65 : Cond.selects qm_R qm_findsOwn_y qm_findsOwn_y ∈ gw := gw_at 65 (by decide +kernel) rfl
theorem k_66 : Cond.selects qm_R qm_isFull_y qm_isFull_y ∈ gw := gw_at 66 (by decide +kernel) rfl
theorem k_67 : Cond.selects qm_R qm_adds_y qm_adds_y ∈ gw := gw_at 67 (by decide +kernel) rfl
theorem k_68 : Cond.selects qm_R qm_longOf_y qm_longOf_y ∈ gw := gw_at 68 (by decide +kernel) rfl
theorem k_69 : Cond.selects qm_R qm_goesTo_y qm_goesTo_y ∈ gw := gw_at 69 (by decide +kernel) rfl
theorem k_70 : Cond.selects qm_R qm_runs_y qm_runs_y ∈ gw := gw_at 70 (by decide +kernel) rfl
theorem k_71 : Cond.selects qm_R qm_evaluatesOne_y qm_evaluatesOne_y ∈ gw := gw_at 71 (by decide +kernel) rfl
theorem k_72 : Cond.selects qm_R qm_goesWith_y qm_goesWith_y ∈ gw := gw_at 72 (by decide +kernel) rfl
theorem k_73 : Cond.selects qm_R qm_gives_y qm_gives_y ∈ gw := gw_at 73 (by decide +kernel) rfl
theorem k_74 : Cond.selects qm_R qm_combinesOne_y qm_combinesOne_y ∈ gw := gw_at 74 (by decide +kernel) rfl
theorem k_75 : Cond.selects qm_R qm_goesOn_y qm_goesOn_y ∈ gw := gw_at 75 (by decide +kernel) rfl
theorem k_76 : Cond.selects qm_R qm_combines_y qm_combines_y ∈ gw := gw_at 76 (by decide +kernel) rfl
theorem k_77 : Cond.selects qm_R qm_combinesPrimitive_y qm_combinesPrimitive_y ∈ gw := gw_at 77 (by decide +kernel) rfl
theorem k_78 : Cond.selects qm_R qm_combinesPart_y qm_combinesPart_y ∈ gw := gw_at 78 (by decide +kernel) rfl
theorem k_79 : Cond.selects qm_R qm_elementOf_y qm_elementOf_y ∈ gw := gw_at 79 (by decide +kernel) rfl
theorem k_80 : Cond.selects qm_R qm_makesOperative_y qm_makesOperative_y ∈ gw := gw_at 80 (by decide +kernel) rfl
theorem k_81 : Cond.selects qm_R qm_isTree_y qm_isTree_y ∈ gw := gw_at 81 (by decide +kernel) rfl
theorem k_82 : Cond.selects qm_R qm_beginsWith_y qm_beginsWith_y ∈ gw := gw_at 82 (by decide +kernel) rfl
theorem k_83 : Cond.selects qm_R qm_reckons_y qm_reckons_y ∈ gw := gw_at 83 (by decide +kernel) rfl
theorem k_84 : Cond.selects qm_R qm_createsEnvironment_y qm_createsEnvironment_y ∈ gw := gw_at 84 (by decide +kernel) rfl
theorem k_85 : Cond.selects qm_R qm_addsEnvironment_y qm_addsEnvironment_y ∈ gw := gw_at 85 (by decide +kernel) rfl
theorem k_86 : Cond.selects qm_R qm_combinesTwo_y qm_combinesTwo_y ∈ gw := gw_at 86 (by decide +kernel) rfl
theorem k_87 : Cond.selects qm_R qm_creates_y qm_creates_y ∈ gw := gw_at 87 (by decide +kernel) rfl
theorem k_88 : Cond.selects qm_R qm_combinesSingle_y qm_combinesSingle_y ∈ gw := gw_at 88 (by decide +kernel) rfl
theorem k_89 : Cond.selects qm_R qm_combinesCompound_y qm_combinesCompound_y ∈ gw := gw_at 89 (by decide +kernel) rfl
theorem k_90 : Cond.selects qm_R qm_matches_y qm_matches_y ∈ gw := gw_at 90 (by decide +kernel) rfl
theorem k_91 : Cond.selects qm_R qm_binds_y qm_binds_y ∈ gw := gw_at 91 (by decide +kernel) rfl
theorem k_92 : Cond.selects qm_R qm_takesResult_y qm_takesResult_y ∈ gw := gw_at 92 (by decide +kernel) rfl
theorem k_93 : Cond.selects qm_R qm_givesBound_y qm_givesBound_y ∈ gw := gw_at 93 (by decide +kernel) rfl
theorem k_95 : Cond.initialized qx_R ∈ gw := gw_at 95 (by decide +kernel) rfl
theorem k_96 : Cond.initialized qh_R ∈ gw := gw_at 96 (by decide +kernel) rfl
theorem k_97 : Cond.initialized qw_R ∈ gw := gw_at 97 (by decide +kernel) rfl
theorem k_98 : Cond.initialized qn_R ∈ gw := gw_at 98 (by decide +kernel) rfl
theorem k_99 : Cond.initialized qt_R ∈ gw := gw_at 99 (by decide +kernel) rfl
theorem k_100 : Cond.initialized qf_R ∈ gw := gw_at 100 (by decide +kernel) rfl
theorem k_101 : Cond.initialized qm_R ∈ gw := gw_at 101 (by decide +kernel) rfl
theorem k_118 : Cond.instanceMethod qh_restoreGround_y ∈ gw := gw_at 118 (by decide +kernel) rfl
theorem k_119 : Cond.selects qh_R qh_restoreGround_y qh_restoreGround_y ∈ gw := gw_at 119 (by decide +kernel) rfl
theorem k_120 : Cond.code qh_restoreGround_y qh_restoreGround_c 2 none ∈ gw := gw_at 120 (by decide +kernel) rfl
theorem k_121 : Cond.constantLong qh_R 23 (-1) ∈ gw := gw_at 121 (by decide +kernel) rfl
theorem k_122 : Cond.methodLink qh_R 25 qh_write_y ∈ gw := gw_at 122 (by decide +kernel) rfl
theorem k_124 : Cond.instanceMethod qh_write_y ∈ gw := gw_at 124 (by decide +kernel) rfl
theorem k_125 : Cond.code qh_write_y qh_write_c 6 none ∈ gw := gw_at 125 (by decide +kernel) rfl
theorem k_126 : Cond.methodLink qh_R 31 qw_make_y ∈ gw := gw_at 126 (by decide +kernel) rfl
theorem k_127 : Cond.static qw_make_y ∈ gw := gw_at 127 (by decide +kernel) rfl
theorem k_128 : Cond.code qw_make_y qw_make_c 3 (some .long) ∈ gw := gw_at 128 (by decide +kernel) rfl
theorem k_129 : Cond.methodLink qh_R 35 qh_bindInGround_y ∈ gw := gw_at 129 (by decide +kernel) rfl
theorem k_131 : Cond.instanceMethod qh_bindInGround_y ∈ gw := gw_at 131 (by decide +kernel) rfl
theorem k_132 : Cond.code qh_bindInGround_y qh_bindInGround_c 5 none ∈ gw := gw_at 132 (by decide +kernel) rfl
theorem k_133 : Cond.methodLink qh_R 39 qh_latestBindingOf_y ∈ gw := gw_at 133 (by decide +kernel) rfl
theorem k_135 : Cond.instanceMethod qh_latestBindingOf_y ∈ gw := gw_at 135 (by decide +kernel) rfl
theorem k_136 : Cond.code qh_latestBindingOf_y qh_latestBindingOf_c 2 (some .int) ∈ gw := gw_at 136 (by decide +kernel) rfl
theorem k_137 : Cond.methodLink qh_R 61 qh_secondAt_y ∈ gw := gw_at 137 (by decide +kernel) rfl
theorem k_139 : Cond.instanceMethod qh_secondAt_y ∈ gw := gw_at 139 (by decide +kernel) rfl
theorem k_140 : Cond.code qh_secondAt_y qh_secondAt_c 2 (some .long) ∈ gw := gw_at 140 (by decide +kernel) rfl
theorem k_141 : Cond.constantLong qh_R 47 (3) ∈ gw := gw_at 141 (by decide +kernel) rfl
theorem k_142 : Cond.methodLink qh_R 43 qh_packLink_y ∈ gw := gw_at 142 (by decide +kernel) rfl
theorem k_143 : Cond.static qh_packLink_y ∈ gw := gw_at 143 (by decide +kernel) rfl
theorem k_144 : Cond.code qh_packLink_y qh_packLink_c 2 (some .long) ∈ gw := gw_at 144 (by decide +kernel) rfl
theorem k_145 : Cond.fieldLink qh_R 9 "ScopeInterpreter$Heap" "first" "[J" ∈ gw := gw_at 145 (by decide +kernel) rfl
theorem k_146 : Cond.fieldLink qh_R 13 "ScopeInterpreter$Heap" "second" "[J" ∈ gw := gw_at 146 (by decide +kernel) rfl
theorem k_147 : Cond.fieldLink qh_R 19 "ScopeInterpreter$Heap" "nextRow" "I" ∈ gw := gw_at 147 (by decide +kernel) rfl
theorem k_168 : Cond.fieldLink qt_R 9 "ScopeInterpreter$Matcher" "heap" "LScopeInterpreter$Heap;" ∈ gw := gw_at 168 (by decide +kernel) rfl
theorem k_169 : Cond.fieldLink qt_R 13 "ScopeInterpreter$Matcher" "pendingTrees" "[J" ∈ gw := gw_at 169 (by decide +kernel) rfl
theorem k_170 : Cond.fieldLink qt_R 17 "ScopeInterpreter$Matcher" "pendingParts" "[J" ∈ gw := gw_at 170 (by decide +kernel) rfl
theorem k_171 : Cond.fieldLink qt_R 29 "ScopeInterpreter$Matcher" "pendingCount" "I" ∈ gw := gw_at 171 (by decide +kernel) rfl
theorem k_172 : Cond.fieldLink qt_R 22 "ScopeInterpreter$Matcher" "symbols" "[I" ∈ gw := gw_at 172 (by decide +kernel) rfl
theorem k_173 : Cond.fieldLink qt_R 26 "ScopeInterpreter$Matcher" "parts" "[J" ∈ gw := gw_at 173 (by decide +kernel) rfl
theorem k_174 : Cond.fieldLink qt_R 33 "ScopeInterpreter$Matcher" "symbolCount" "I" ∈ gw := gw_at 174 (by decide +kernel) rfl
theorem k_197 : Cond.fieldLink qf_R 9 "ScopeInterpreter$Frames" "tasks" "[I" ∈ gw := gw_at 197 (by decide +kernel) rfl
theorem k_198 : Cond.fieldLink qf_R 13 "ScopeInterpreter$Frames" "environments" "[I" ∈ gw := gw_at 198 (by decide +kernel) rfl
theorem k_199 : Cond.fieldLink qf_R 16 "ScopeInterpreter$Frames" "rests" "[J" ∈ gw := gw_at 199 (by decide +kernel) rfl
theorem k_200 : Cond.fieldLink qf_R 20 "ScopeInterpreter$Frames" "helds" "[J" ∈ gw := gw_at 200 (by decide +kernel) rfl
theorem k_201 : Cond.fieldLink qf_R 23 "ScopeInterpreter$Frames" "gathereds" "[I" ∈ gw := gw_at 201 (by decide +kernel) rfl
theorem k_202 : Cond.fieldLink qf_R 26 "ScopeInterpreter$Frames" "count" "I" ∈ gw := gw_at 202 (by decide +kernel) rfl
theorem k_203 : Cond.fieldLink qf_R 30 "ScopeInterpreter$Frames" "most" "I" ∈ gw := gw_at 203 (by decide +kernel) rfl
theorem k_219 : Cond.methodLink qn_R 35 qn_forget_y ∈ gw := gw_at 219 (by decide +kernel) rfl
theorem k_220 : Cond.instanceMethod qn_forget_y ∈ gw := gw_at 220 (by decide +kernel) rfl
theorem k_221 : Cond.selects qn_R qn_forget_y qn_forget_y ∈ gw := gw_at 221 (by decide +kernel) rfl
theorem k_222 : Cond.code qn_forget_y qn_forget_c 1 none ∈ gw := gw_at 222 (by decide +kernel) rfl
theorem k_223 : Cond.methodLink qn_R 38 qf_clear_y ∈ gw := gw_at 223 (by decide +kernel) rfl
theorem k_224 : Cond.instanceMethod qf_clear_y ∈ gw := gw_at 224 (by decide +kernel) rfl
theorem k_225 : Cond.selects qf_R qf_clear_y qf_clear_y ∈ gw := gw_at 225 (by decide +kernel) rfl
theorem k_226 : Cond.code qf_clear_y qf_clear_c 1 none ∈ gw := gw_at 226 (by decide +kernel) rfl
theorem k_227 : Cond.constantLong qn_R 50 (3) ∈ gw := gw_at 227 (by decide +kernel) rfl
theorem k_228 : Cond.fieldLink qn_R 9 "ScopeInterpreter$Machine" "heap" "LScopeInterpreter$Heap;" ∈ gw := gw_at 228 (by decide +kernel) rfl
theorem k_229 : Cond.fieldLink qn_R 20 "ScopeInterpreter$Machine" "matcher" "LScopeInterpreter$Matcher;" ∈ gw := gw_at 229 (by decide +kernel) rfl
theorem k_230 : Cond.fieldLink qn_R 27 "ScopeInterpreter$Machine" "frames" "LScopeInterpreter$Frames;" ∈ gw := gw_at 230 (by decide +kernel) rfl
theorem k_231 : Cond.fieldLink qn_R 31 "ScopeInterpreter$Machine" "arguments" "[J" ∈ gw := gw_at 231 (by decide +kernel) rfl
theorem k_232 : Cond.fieldLink qn_R 41 "ScopeInterpreter$Machine" "argumentCount" "I" ∈ gw := gw_at 232 (by decide +kernel) rfl
theorem k_233 : Cond.fieldLink qn_R 45 "ScopeInterpreter$Machine" "mode" "I" ∈ gw := gw_at 233 (by decide +kernel) rfl
theorem k_234 : Cond.fieldLink qn_R 52 "ScopeInterpreter$Machine" "current" "J" ∈ gw := gw_at 234 (by decide +kernel) rfl
theorem k_235 : Cond.fieldLink qn_R 56 "ScopeInterpreter$Machine" "operands" "J" ∈ gw := gw_at 235 (by decide +kernel) rfl
theorem k_236 : Cond.fieldLink qn_R 61 "ScopeInterpreter$Machine" "environment" "I" ∈ gw := gw_at 236 (by decide +kernel) rfl
theorem k_237 : Cond.fieldLink qn_R 64 "ScopeInterpreter$Machine" "steps" "I" ∈ gw := gw_at 237 (by decide +kernel) rfl
theorem k_238 : Cond.fieldLink qn_R 67 "ScopeInterpreter$Machine" "limit" "I" ∈ gw := gw_at 238 (by decide +kernel) rfl
theorem k_239 : Cond.fieldLink qn_R 70 "ScopeInterpreter$Machine" "failure" "I" ∈ gw := gw_at 239 (by decide +kernel) rfl
theorem k_265 : Cond.fieldLink qx_R 12 "ScopeInterpreter" "heap" "LScopeInterpreter$Heap;" ∈ gw := gw_at 265 (by decide +kernel) rfl
theorem k_266 : Cond.fieldLink qx_R 23 "ScopeInterpreter" "machine" "LScopeInterpreter$Machine;" ∈ gw := gw_at 266 (by decide +kernel) rfl
theorem k_267 : Cond.fieldLink qx_R 27 "ScopeInterpreter" "stack" "[J" ∈ gw := gw_at 267 (by decide +kernel) rfl
theorem k_268 : Cond.fieldLink qx_R 31 "ScopeInterpreter" "stackSize" "I" ∈ gw := gw_at 268 (by decide +kernel) rfl
theorem k_269 : Cond.fieldLink qx_R 35 "ScopeInterpreter" "present" "I" ∈ gw := gw_at 269 (by decide +kernel) rfl
theorem k_270 : Cond.fieldLink qx_R 38 "ScopeInterpreter" "limit" "I" ∈ gw := gw_at 270 (by decide +kernel) rfl
theorem k_285 : Cond.instanceMethod qx_pushInteger_y ∈ gw := gw_at 285 (by decide +kernel) rfl
theorem k_286 : Cond.selects qx_R qx_pushInteger_y qx_pushInteger_y ∈ gw := gw_at 286 (by decide +kernel) rfl
theorem k_287 : Cond.code qx_pushInteger_y qx_pushInteger_c 3 (some .int) ∈ gw := gw_at 287 (by decide +kernel) rfl
theorem k_288 : Cond.methodLink qx_R 41 qw_isInteger_y ∈ gw := gw_at 288 (by decide +kernel) rfl
theorem k_289 : Cond.static qw_isInteger_y ∈ gw := gw_at 289 (by decide +kernel) rfl
theorem k_290 : Cond.code qw_isInteger_y qw_isInteger_c 2 (some .boolean) ∈ gw := gw_at 290 (by decide +kernel) rfl
theorem k_291 : Cond.constantLong qw_R 21 (-1000000000000000) ∈ gw := gw_at 291 (by decide +kernel) rfl
theorem k_292 : Cond.constantLong qw_R 23 (1000000000000000) ∈ gw := gw_at 292 (by decide +kernel) rfl
theorem k_293 : Cond.methodLink qx_R 47 qw_make_y ∈ gw := gw_at 293 (by decide +kernel) rfl
theorem k_294 : Cond.methodLink qx_R 51 qx_push_y ∈ gw := gw_at 294 (by decide +kernel) rfl
theorem k_296 : Cond.instanceMethod qx_push_y ∈ gw := gw_at 296 (by decide +kernel) rfl
theorem k_297 : Cond.code qx_push_y qx_push_c 3 (some .int) ∈ gw := gw_at 297 (by decide +kernel) rfl
theorem k_299 : Cond.instanceMethod qx_pushBoolean_y ∈ gw := gw_at 299 (by decide +kernel) rfl
theorem k_300 : Cond.selects qx_R qx_pushBoolean_y qx_pushBoolean_y ∈ gw := gw_at 300 (by decide +kernel) rfl
theorem k_301 : Cond.code qx_pushBoolean_y qx_pushBoolean_c 2 (some .int) ∈ gw := gw_at 301 (by decide +kernel) rfl
theorem k_302 : Cond.methodLink qx_R 55 qw_makeBoolean_y ∈ gw := gw_at 302 (by decide +kernel) rfl
theorem k_303 : Cond.static qw_makeBoolean_y ∈ gw := gw_at 303 (by decide +kernel) rfl
theorem k_304 : Cond.code qw_makeBoolean_y qw_makeBoolean_c 1 (some .long) ∈ gw := gw_at 304 (by decide +kernel) rfl
theorem k_305 : Cond.methodLink qw_R 11 qw_make_y ∈ gw := gw_at 305 (by decide +kernel) rfl
theorem k_307 : Cond.instanceMethod qx_pushSymbol_y ∈ gw := gw_at 307 (by decide +kernel) rfl
theorem k_308 : Cond.selects qx_R qx_pushSymbol_y qx_pushSymbol_y ∈ gw := gw_at 308 (by decide +kernel) rfl
theorem k_309 : Cond.code qx_pushSymbol_y qx_pushSymbol_c 2 (some .int) ∈ gw := gw_at 309 (by decide +kernel) rfl
theorem k_310 : Cond.methodLink qx_R 59 qw_isSymbol_y ∈ gw := gw_at 310 (by decide +kernel) rfl
theorem k_311 : Cond.static qw_isSymbol_y ∈ gw := gw_at 311 (by decide +kernel) rfl
theorem k_312 : Cond.code qw_isSymbol_y qw_isSymbol_c 1 (some .boolean) ∈ gw := gw_at 312 (by decide +kernel) rfl
theorem k_314 : Cond.instanceMethod qx_pushEmpty_y ∈ gw := gw_at 314 (by decide +kernel) rfl
theorem k_315 : Cond.selects qx_R qx_pushEmpty_y qx_pushEmpty_y ∈ gw := gw_at 315 (by decide +kernel) rfl
theorem k_316 : Cond.code qx_pushEmpty_y qx_pushEmpty_c 2 (some .int) ∈ gw := gw_at 316 (by decide +kernel) rfl
theorem k_317 : Cond.constantLong qx_R 63 (8) ∈ gw := gw_at 317 (by decide +kernel) rfl
theorem k_318 : Cond.constantLong qx_R 65 (3) ∈ gw := gw_at 318 (by decide +kernel) rfl
theorem k_320 : Cond.instanceMethod qx_pushEnvironment_y ∈ gw := gw_at 320 (by decide +kernel) rfl
theorem k_321 : Cond.selects qx_R qx_pushEnvironment_y qx_pushEnvironment_y ∈ gw := gw_at 321 (by decide +kernel) rfl
theorem k_322 : Cond.code qx_pushEnvironment_y qx_pushEnvironment_c 1 (some .int) ∈ gw := gw_at 322 (by decide +kernel) rfl
theorem k_324 : Cond.instanceMethod qx_pushCopy_y ∈ gw := gw_at 324 (by decide +kernel) rfl
theorem k_325 : Cond.selects qx_R qx_pushCopy_y qx_pushCopy_y ∈ gw := gw_at 325 (by decide +kernel) rfl
theorem k_326 : Cond.code qx_pushCopy_y qx_pushCopy_c 3 (some .int) ∈ gw := gw_at 326 (by decide +kernel) rfl
theorem k_327 : Cond.methodLink qx_R 67 qx_depthError_y ∈ gw := gw_at 327 (by decide +kernel) rfl
theorem k_329 : Cond.instanceMethod qx_depthError_y ∈ gw := gw_at 329 (by decide +kernel) rfl
theorem k_330 : Cond.code qx_depthError_y qx_depthError_c 2 (some .int) ∈ gw := gw_at 330 (by decide +kernel) rfl
theorem k_331 : Cond.methodLink qx_R 71 qx_valueAt_y ∈ gw := gw_at 331 (by decide +kernel) rfl
theorem k_333 : Cond.instanceMethod qx_valueAt_y ∈ gw := gw_at 333 (by decide +kernel) rfl
theorem k_334 : Cond.code qx_valueAt_y qx_valueAt_c 3 (some .long) ∈ gw := gw_at 334 (by decide +kernel) rfl
theorem k_336 : Cond.instanceMethod qx_pushPart_y ∈ gw := gw_at 336 (by decide +kernel) rfl
theorem k_337 : Cond.selects qx_R qx_pushPart_y qx_pushPart_y ∈ gw := gw_at 337 (by decide +kernel) rfl
theorem k_338 : Cond.code qx_pushPart_y qx_pushPart_c 7 (some .int) ∈ gw := gw_at 338 (by decide +kernel) rfl
theorem k_339 : Cond.methodLink qx_R 75 qw_kindOf_y ∈ gw := gw_at 339 (by decide +kernel) rfl
theorem k_340 : Cond.static qw_kindOf_y ∈ gw := gw_at 340 (by decide +kernel) rfl
theorem k_341 : Cond.code qw_kindOf_y qw_kindOf_c 2 (some .int) ∈ gw := gw_at 341 (by decide +kernel) rfl
theorem k_342 : Cond.constantLong qw_R 15 (15) ∈ gw := gw_at 342 (by decide +kernel) rfl
theorem k_343 : Cond.methodLink qx_R 78 qh_carOf_y ∈ gw := gw_at 343 (by decide +kernel) rfl
theorem k_344 : Cond.instanceMethod qh_carOf_y ∈ gw := gw_at 344 (by decide +kernel) rfl
theorem k_345 : Cond.selects qh_R qh_carOf_y qh_carOf_y ∈ gw := gw_at 345 (by decide +kernel) rfl
theorem k_346 : Cond.code qh_carOf_y qh_carOf_c 3 (some .long) ∈ gw := gw_at 346 (by decide +kernel) rfl
theorem k_347 : Cond.methodLink qh_R 53 qw_rowOf_y ∈ gw := gw_at 347 (by decide +kernel) rfl
theorem k_348 : Cond.static qw_rowOf_y ∈ gw := gw_at 348 (by decide +kernel) rfl
theorem k_349 : Cond.code qw_rowOf_y qw_rowOf_c 2 (some .int) ∈ gw := gw_at 349 (by decide +kernel) rfl
theorem k_350 : Cond.methodLink qh_R 57 qh_firstAt_y ∈ gw := gw_at 350 (by decide +kernel) rfl
theorem k_352 : Cond.instanceMethod qh_firstAt_y ∈ gw := gw_at 352 (by decide +kernel) rfl
theorem k_353 : Cond.code qh_firstAt_y qh_firstAt_c 2 (some .long) ∈ gw := gw_at 353 (by decide +kernel) rfl
theorem k_354 : Cond.methodLink qx_R 82 qh_cdrOf_y ∈ gw := gw_at 354 (by decide +kernel) rfl
theorem k_355 : Cond.instanceMethod qh_cdrOf_y ∈ gw := gw_at 355 (by decide +kernel) rfl
theorem k_356 : Cond.selects qh_R qh_cdrOf_y qh_cdrOf_y ∈ gw := gw_at 356 (by decide +kernel) rfl
theorem k_357 : Cond.code qh_cdrOf_y qh_cdrOf_c 3 (some .long) ∈ gw := gw_at 357 (by decide +kernel) rfl
theorem k_358 : Cond.methodLink qx_R 85 qh_underlyingOf_y ∈ gw := gw_at 358 (by decide +kernel) rfl
theorem k_359 : Cond.instanceMethod qh_underlyingOf_y ∈ gw := gw_at 359 (by decide +kernel) rfl
theorem k_360 : Cond.selects qh_R qh_underlyingOf_y qh_underlyingOf_y ∈ gw := gw_at 360 (by decide +kernel) rfl
theorem k_361 : Cond.code qh_underlyingOf_y qh_underlyingOf_c 3 (some .long) ∈ gw := gw_at 361 (by decide +kernel) rfl
theorem k_362 : Cond.methodLink qx_R 88 qw_rowOf_y ∈ gw := gw_at 362 (by decide +kernel) rfl
theorem k_363 : Cond.methodLink qx_R 91 qx_pushParent_y ∈ gw := gw_at 363 (by decide +kernel) rfl
theorem k_365 : Cond.instanceMethod qx_pushParent_y ∈ gw := gw_at 365 (by decide +kernel) rfl
theorem k_366 : Cond.code qx_pushParent_y qx_pushParent_c 3 (some .int) ∈ gw := gw_at 366 (by decide +kernel) rfl
theorem k_367 : Cond.methodLink qx_R 149 qh_parentOf_y ∈ gw := gw_at 367 (by decide +kernel) rfl
theorem k_368 : Cond.instanceMethod qh_parentOf_y ∈ gw := gw_at 368 (by decide +kernel) rfl
theorem k_369 : Cond.selects qh_R qh_parentOf_y qh_parentOf_y ∈ gw := gw_at 369 (by decide +kernel) rfl
theorem k_370 : Cond.code qh_parentOf_y qh_parentOf_c 2 (some .int) ∈ gw := gw_at 370 (by decide +kernel) rfl
theorem k_372 : Cond.instanceMethod qx_pushBinding_y ∈ gw := gw_at 372 (by decide +kernel) rfl
theorem k_373 : Cond.selects qx_R qx_pushBinding_y qx_pushBinding_y ∈ gw := gw_at 373 (by decide +kernel) rfl
theorem k_374 : Cond.code qx_pushBinding_y qx_pushBinding_c 5 (some .int) ∈ gw := gw_at 374 (by decide +kernel) rfl
theorem k_375 : Cond.methodLink qx_R 94 qx_kindError_y ∈ gw := gw_at 375 (by decide +kernel) rfl
theorem k_377 : Cond.instanceMethod qx_kindError_y ∈ gw := gw_at 377 (by decide +kernel) rfl
theorem k_378 : Cond.code qx_kindError_y qx_kindError_c 4 (some .int) ∈ gw := gw_at 378 (by decide +kernel) rfl
theorem k_379 : Cond.methodLink qx_R 98 qh_visibleBinding_y ∈ gw := gw_at 379 (by decide +kernel) rfl
theorem k_380 : Cond.instanceMethod qh_visibleBinding_y ∈ gw := gw_at 380 (by decide +kernel) rfl
theorem k_381 : Cond.selects qh_R qh_visibleBinding_y qh_visibleBinding_y ∈ gw := gw_at 381 (by decide +kernel) rfl
theorem k_382 : Cond.code qh_visibleBinding_y qh_visibleBinding_c 6 (some .int) ∈ gw := gw_at 382 (by decide +kernel) rfl
theorem k_383 : Cond.methodLink qh_R 81 qh_ownBinding_y ∈ gw := gw_at 383 (by decide +kernel) rfl
theorem k_385 : Cond.instanceMethod qh_ownBinding_y ∈ gw := gw_at 385 (by decide +kernel) rfl
theorem k_386 : Cond.code qh_ownBinding_y qh_ownBinding_c 7 (some .int) ∈ gw := gw_at 386 (by decide +kernel) rfl
theorem k_387 : Cond.methodLink qh_R 78 qh_symbolIn_y ∈ gw := gw_at 387 (by decide +kernel) rfl
theorem k_388 : Cond.static qh_symbolIn_y ∈ gw := gw_at 388 (by decide +kernel) rfl
theorem k_389 : Cond.code qh_symbolIn_y qh_symbolIn_c 2 (some .int) ∈ gw := gw_at 389 (by decide +kernel) rfl
theorem k_390 : Cond.constantLong qh_R 71 (127) ∈ gw := gw_at 390 (by decide +kernel) rfl
theorem k_391 : Cond.methodLink qh_R 75 qh_nextIn_y ∈ gw := gw_at 391 (by decide +kernel) rfl
theorem k_392 : Cond.static qh_nextIn_y ∈ gw := gw_at 392 (by decide +kernel) rfl
theorem k_393 : Cond.code qh_nextIn_y qh_nextIn_c 2 (some .int) ∈ gw := gw_at 393 (by decide +kernel) rfl
theorem k_394 : Cond.methodLink qh_R 85 qh_parentOf_y ∈ gw := gw_at 394 (by decide +kernel) rfl
theorem k_395 : Cond.methodLink qx_R 101 qh_boundValueOf_y ∈ gw := gw_at 395 (by decide +kernel) rfl
theorem k_396 : Cond.instanceMethod qh_boundValueOf_y ∈ gw := gw_at 396 (by decide +kernel) rfl
theorem k_397 : Cond.selects qh_R qh_boundValueOf_y qh_boundValueOf_y ∈ gw := gw_at 397 (by decide +kernel) rfl
theorem k_398 : Cond.code qh_boundValueOf_y qh_boundValueOf_c 2 (some .long) ∈ gw := gw_at 398 (by decide +kernel) rfl
theorem k_400 : Cond.instanceMethod qx_makePair_y ∈ gw := gw_at 400 (by decide +kernel) rfl
theorem k_401 : Cond.selects qx_R qx_makePair_y qx_makePair_y ∈ gw := gw_at 401 (by decide +kernel) rfl
theorem k_402 : Cond.code qx_makePair_y qx_makePair_c 2 (some .int) ∈ gw := gw_at 402 (by decide +kernel) rfl
theorem k_403 : Cond.methodLink qx_R 104 qh_addPair_y ∈ gw := gw_at 403 (by decide +kernel) rfl
theorem k_404 : Cond.instanceMethod qh_addPair_y ∈ gw := gw_at 404 (by decide +kernel) rfl
theorem k_405 : Cond.selects qh_R qh_addPair_y qh_addPair_y ∈ gw := gw_at 405 (by decide +kernel) rfl
theorem k_406 : Cond.code qh_addPair_y qh_addPair_c 5 (some .int) ∈ gw := gw_at 406 (by decide +kernel) rfl
theorem k_407 : Cond.methodLink qh_R 49 qh_add_y ∈ gw := gw_at 407 (by decide +kernel) rfl
theorem k_409 : Cond.instanceMethod qh_add_y ∈ gw := gw_at 409 (by decide +kernel) rfl
theorem k_410 : Cond.code qh_add_y qh_add_c 6 (some .int) ∈ gw := gw_at 410 (by decide +kernel) rfl
theorem k_412 : Cond.instanceMethod qx_makeList_y ∈ gw := gw_at 412 (by decide +kernel) rfl
theorem k_413 : Cond.selects qx_R qx_makeList_y qx_makeList_y ∈ gw := gw_at 413 (by decide +kernel) rfl
theorem k_414 : Cond.code qx_makeList_y qx_makeList_c 6 (some .int) ∈ gw := gw_at 414 (by decide +kernel) rfl
theorem k_415 : Cond.methodLink qx_R 108 qx_countError_y ∈ gw := gw_at 415 (by decide +kernel) rfl
theorem k_417 : Cond.instanceMethod qx_countError_y ∈ gw := gw_at 417 (by decide +kernel) rfl
theorem k_418 : Cond.code qx_countError_y qx_countError_c 2 (some .int) ∈ gw := gw_at 418 (by decide +kernel) rfl
theorem k_419 : Cond.methodLink qx_R 111 qh_hasRoomFor_y ∈ gw := gw_at 419 (by decide +kernel) rfl
theorem k_420 : Cond.instanceMethod qh_hasRoomFor_y ∈ gw := gw_at 420 (by decide +kernel) rfl
theorem k_421 : Cond.selects qh_R qh_hasRoomFor_y qh_hasRoomFor_y ∈ gw := gw_at 421 (by decide +kernel) rfl
theorem k_422 : Cond.code qh_hasRoomFor_y qh_hasRoomFor_c 2 (some .boolean) ∈ gw := gw_at 422 (by decide +kernel) rfl
theorem k_424 : Cond.instanceMethod qx_drop_y ∈ gw := gw_at 424 (by decide +kernel) rfl
theorem k_425 : Cond.selects qx_R qx_drop_y qx_drop_y ∈ gw := gw_at 425 (by decide +kernel) rfl
theorem k_426 : Cond.code qx_drop_y qx_drop_c 3 (some .int) ∈ gw := gw_at 426 (by decide +kernel) rfl
theorem k_428 : Cond.instanceMethod qx_reset_y ∈ gw := gw_at 428 (by decide +kernel) rfl
theorem k_429 : Cond.selects qx_R qx_reset_y qx_reset_y ∈ gw := gw_at 429 (by decide +kernel) rfl
theorem k_430 : Cond.code qx_reset_y qx_reset_c 2 (some .int) ∈ gw := gw_at 430 (by decide +kernel) rfl
theorem k_431 : Cond.methodLink qx_R 114 qh_objectCount_y ∈ gw := gw_at 431 (by decide +kernel) rfl
theorem k_432 : Cond.instanceMethod qh_objectCount_y ∈ gw := gw_at 432 (by decide +kernel) rfl
theorem k_433 : Cond.selects qh_R qh_objectCount_y qh_objectCount_y ∈ gw := gw_at 433 (by decide +kernel) rfl
theorem k_434 : Cond.code qh_objectCount_y qh_objectCount_c 1 (some .int) ∈ gw := gw_at 434 (by decide +kernel) rfl
theorem k_435 : Cond.methodLink qx_R 118 qh_restoreGround_y ∈ gw := gw_at 435 (by decide +kernel) rfl
theorem k_436 : Cond.methodLink qx_R 121 qn_forget_y ∈ gw := gw_at 436 (by decide +kernel) rfl
theorem k_438 : Cond.instanceMethod qx_size_y ∈ gw := gw_at 438 (by decide +kernel) rfl
theorem k_439 : Cond.selects qx_R qx_size_y qx_size_y ∈ gw := gw_at 439 (by decide +kernel) rfl
theorem k_440 : Cond.code qx_size_y qx_size_c 1 (some .int) ∈ gw := gw_at 440 (by decide +kernel) rfl
theorem k_442 : Cond.instanceMethod qx_kind_y ∈ gw := gw_at 442 (by decide +kernel) rfl
theorem k_443 : Cond.selects qx_R qx_kind_y qx_kind_y ∈ gw := gw_at 443 (by decide +kernel) rfl
theorem k_444 : Cond.code qx_kind_y qx_kind_c 3 (some .int) ∈ gw := gw_at 444 (by decide +kernel) rfl
theorem k_446 : Cond.instanceMethod qx_value_y ∈ gw := gw_at 446 (by decide +kernel) rfl
theorem k_447 : Cond.selects qx_R qx_value_y qx_value_y ∈ gw := gw_at 447 (by decide +kernel) rfl
theorem k_448 : Cond.code qx_value_y qx_value_c 6 (some .long) ∈ gw := gw_at 448 (by decide +kernel) rfl
theorem k_449 : Cond.constantLong qx_R 124 (-9223372036854775808) ∈ gw := gw_at 449 (by decide +kernel) rfl
theorem k_450 : Cond.methodLink qx_R 126 qw_contentOf_y ∈ gw := gw_at 450 (by decide +kernel) rfl
theorem k_451 : Cond.static qw_contentOf_y ∈ gw := gw_at 451 (by decide +kernel) rfl
theorem k_452 : Cond.code qw_contentOf_y qw_contentOf_c 2 (some .long) ∈ gw := gw_at 452 (by decide +kernel) rfl
theorem k_454 : Cond.instanceMethod qx_areSame_y ∈ gw := gw_at 454 (by decide +kernel) rfl
theorem k_455 : Cond.selects qx_R qx_areSame_y qx_areSame_y ∈ gw := gw_at 455 (by decide +kernel) rfl
theorem k_456 : Cond.code qx_areSame_y qx_areSame_c 3 (some .int) ∈ gw := gw_at 456 (by decide +kernel) rfl
theorem k_458 : Cond.instanceMethod qx_length_y ∈ gw := gw_at 458 (by decide +kernel) rfl
theorem k_459 : Cond.selects qx_R qx_length_y qx_length_y ∈ gw := gw_at 459 (by decide +kernel) rfl
theorem k_460 : Cond.code qx_length_y qx_length_c 4 (some .int) ∈ gw := gw_at 460 (by decide +kernel) rfl
theorem k_461 : Cond.methodLink qx_R 129 qh_lengthOf_y ∈ gw := gw_at 461 (by decide +kernel) rfl
theorem k_462 : Cond.instanceMethod qh_lengthOf_y ∈ gw := gw_at 462 (by decide +kernel) rfl
theorem k_463 : Cond.selects qh_R qh_lengthOf_y qh_lengthOf_y ∈ gw := gw_at 463 (by decide +kernel) rfl
theorem k_464 : Cond.code qh_lengthOf_y qh_lengthOf_c 6 (some .int) ∈ gw := gw_at 464 (by decide +kernel) rfl
theorem k_465 : Cond.methodLink qh_R 64 qw_kindOf_y ∈ gw := gw_at 465 (by decide +kernel) rfl
theorem k_466 : Cond.methodLink qh_R 67 qh_cdrOf_y ∈ gw := gw_at 466 (by decide +kernel) rfl
theorem k_468 : Cond.instanceMethod qx_bindingCount_y ∈ gw := gw_at 468 (by decide +kernel) rfl
theorem k_469 : Cond.selects qx_R qx_bindingCount_y qx_bindingCount_y ∈ gw := gw_at 469 (by decide +kernel) rfl
theorem k_470 : Cond.code qx_bindingCount_y qx_bindingCount_c 3 (some .int) ∈ gw := gw_at 470 (by decide +kernel) rfl
theorem k_471 : Cond.methodLink qx_R 132 qh_countBindings_y ∈ gw := gw_at 471 (by decide +kernel) rfl
theorem k_472 : Cond.instanceMethod qh_countBindings_y ∈ gw := gw_at 472 (by decide +kernel) rfl
theorem k_473 : Cond.selects qh_R qh_countBindings_y qh_countBindings_y ∈ gw := gw_at 473 (by decide +kernel) rfl
theorem k_474 : Cond.code qh_countBindings_y qh_countBindings_c 4 (some .int) ∈ gw := gw_at 474 (by decide +kernel) rfl
theorem k_476 : Cond.instanceMethod qx_evaluate_y ∈ gw := gw_at 476 (by decide +kernel) rfl
theorem k_477 : Cond.selects qx_R qx_evaluate_y qx_evaluate_y ∈ gw := gw_at 477 (by decide +kernel) rfl
theorem k_478 : Cond.code qx_evaluate_y qx_evaluate_c 4 (some .int) ∈ gw := gw_at 478 (by decide +kernel) rfl
theorem k_479 : Cond.methodLink qx_R 135 qn_run_y ∈ gw := gw_at 479 (by decide +kernel) rfl
theorem k_480 : Cond.instanceMethod qn_run_y ∈ gw := gw_at 480 (by decide +kernel) rfl
theorem k_481 : Cond.selects qn_R qn_run_y qn_run_y ∈ gw := gw_at 481 (by decide +kernel) rfl
theorem k_482 : Cond.code qn_run_y qn_run_c 6 (some .int) ∈ gw := gw_at 482 (by decide +kernel) rfl
theorem k_483 : Cond.methodLink qn_R 77 qn_evaluateInTail_y ∈ gw := gw_at 483 (by decide +kernel) rfl
theorem k_485 : Cond.instanceMethod qn_evaluateInTail_y ∈ gw := gw_at 485 (by decide +kernel) rfl
theorem k_486 : Cond.code qn_evaluateInTail_y qn_evaluateInTail_c 3 none ∈ gw := gw_at 486 (by decide +kernel) rfl
theorem k_487 : Cond.constant qn_R 81 (100000000) ∈ gw := gw_at 487 (by decide +kernel) rfl
theorem k_488 : Cond.methodLink qn_R 82 qn_evaluateCurrent_y ∈ gw := gw_at 488 (by decide +kernel) rfl
theorem k_490 : Cond.instanceMethod qn_evaluateCurrent_y ∈ gw := gw_at 490 (by decide +kernel) rfl
theorem k_491 : Cond.code qn_evaluateCurrent_y qn_evaluateCurrent_c 2 none ∈ gw := gw_at 491 (by decide +kernel) rfl
theorem k_492 : Cond.methodLink qn_R 99 qn_fail_y ∈ gw := gw_at 492 (by decide +kernel) rfl
theorem k_494 : Cond.instanceMethod qn_fail_y ∈ gw := gw_at 494 (by decide +kernel) rfl
theorem k_495 : Cond.code qn_fail_y qn_fail_c 2 none ∈ gw := gw_at 495 (by decide +kernel) rfl
theorem k_496 : Cond.methodLink qn_R 117 qw_kindOf_y ∈ gw := gw_at 496 (by decide +kernel) rfl
theorem k_497 : Cond.methodLink qn_R 120 qh_carOf_y ∈ gw := gw_at 497 (by decide +kernel) rfl
theorem k_498 : Cond.methodLink qn_R 124 qh_cdrOf_y ∈ gw := gw_at 498 (by decide +kernel) rfl
theorem k_499 : Cond.methodLink qn_R 127 qn_evaluateWithFrame_y ∈ gw := gw_at 499 (by decide +kernel) rfl
theorem k_501 : Cond.instanceMethod qn_evaluateWithFrame_y ∈ gw := gw_at 501 (by decide +kernel) rfl
theorem k_502 : Cond.code qn_evaluateWithFrame_y qn_evaluateWithFrame_c 9 none ∈ gw := gw_at 502 (by decide +kernel) rfl
theorem k_503 : Cond.methodLink qn_R 113 qf_put_y ∈ gw := gw_at 503 (by decide +kernel) rfl
theorem k_504 : Cond.instanceMethod qf_put_y ∈ gw := gw_at 504 (by decide +kernel) rfl
theorem k_505 : Cond.selects qf_R qf_put_y qf_put_y ∈ gw := gw_at 505 (by decide +kernel) rfl
theorem k_506 : Cond.code qf_put_y qf_put_c 8 (some .boolean) ∈ gw := gw_at 506 (by decide +kernel) rfl
theorem k_507 : Cond.methodLink qn_R 88 qw_rowOf_y ∈ gw := gw_at 507 (by decide +kernel) rfl
theorem k_508 : Cond.methodLink qn_R 131 qn_lookUp_y ∈ gw := gw_at 508 (by decide +kernel) rfl
theorem k_510 : Cond.instanceMethod qn_lookUp_y ∈ gw := gw_at 510 (by decide +kernel) rfl
theorem k_511 : Cond.code qn_lookUp_y qn_lookUp_c 3 none ∈ gw := gw_at 511 (by decide +kernel) rfl
theorem k_512 : Cond.methodLink qn_R 134 qh_visibleBinding_y ∈ gw := gw_at 512 (by decide +kernel) rfl
theorem k_513 : Cond.methodLink qn_R 138 qh_boundValueOf_y ∈ gw := gw_at 513 (by decide +kernel) rfl
theorem k_514 : Cond.methodLink qn_R 106 qn_giveBack_y ∈ gw := gw_at 514 (by decide +kernel) rfl
theorem k_516 : Cond.instanceMethod qn_giveBack_y ∈ gw := gw_at 516 (by decide +kernel) rfl
theorem k_517 : Cond.code qn_giveBack_y qn_giveBack_c 3 none ∈ gw := gw_at 517 (by decide +kernel) rfl
theorem k_518 : Cond.methodLink qn_R 85 qn_combineCurrent_y ∈ gw := gw_at 518 (by decide +kernel) rfl
theorem k_520 : Cond.instanceMethod qn_combineCurrent_y ∈ gw := gw_at 520 (by decide +kernel) rfl
theorem k_521 : Cond.code qn_combineCurrent_y qn_combineCurrent_c 2 none ∈ gw := gw_at 521 (by decide +kernel) rfl
theorem k_522 : Cond.methodLink qn_R 142 qn_combineApplicative_y ∈ gw := gw_at 522 (by decide +kernel) rfl
theorem k_524 : Cond.instanceMethod qn_combineApplicative_y ∈ gw := gw_at 524 (by decide +kernel) rfl
theorem k_525 : Cond.code qn_combineApplicative_y qn_combineApplicative_c 1 none ∈ gw := gw_at 525 (by decide +kernel) rfl
theorem k_526 : Cond.methodLink qn_R 195 qh_lengthOf_y ∈ gw := gw_at 526 (by decide +kernel) rfl
theorem k_527 : Cond.methodLink qn_R 198 qh_underlyingOf_y ∈ gw := gw_at 527 (by decide +kernel) rfl
theorem k_528 : Cond.methodLink qn_R 201 qn_evaluateArguments_y ∈ gw := gw_at 528 (by decide +kernel) rfl
theorem k_530 : Cond.instanceMethod qn_evaluateArguments_y ∈ gw := gw_at 530 (by decide +kernel) rfl
theorem k_531 : Cond.code qn_evaluateArguments_y qn_evaluateArguments_c 6 none ∈ gw := gw_at 531 (by decide +kernel) rfl
theorem k_532 : Cond.methodLink qn_R 204 qn_combineWithArguments_y ∈ gw := gw_at 532 (by decide +kernel) rfl
theorem k_534 : Cond.instanceMethod qn_combineWithArguments_y ∈ gw := gw_at 534 (by decide +kernel) rfl
theorem k_535 : Cond.code qn_combineWithArguments_y qn_combineWithArguments_c 8 none ∈ gw := gw_at 535 (by decide +kernel) rfl
theorem k_536 : Cond.methodLink qn_R 208 qh_addPair_y ∈ gw := gw_at 536 (by decide +kernel) rfl
theorem k_537 : Cond.methodLink qn_R 102 qw_make_y ∈ gw := gw_at 537 (by decide +kernel) rfl
theorem k_538 : Cond.methodLink qn_R 168 qn_combine_y ∈ gw := gw_at 538 (by decide +kernel) rfl
theorem k_540 : Cond.instanceMethod qn_combine_y ∈ gw := gw_at 540 (by decide +kernel) rfl
theorem k_541 : Cond.code qn_combine_y qn_combine_c 5 none ∈ gw := gw_at 541 (by decide +kernel) rfl
theorem k_542 : Cond.methodLink qn_R 145 qh_isPrimitive_y ∈ gw := gw_at 542 (by decide +kernel) rfl
theorem k_543 : Cond.static qh_isPrimitive_y ∈ gw := gw_at 543 (by decide +kernel) rfl
theorem k_544 : Cond.code qh_isPrimitive_y qh_isPrimitive_c 1 (some .boolean) ∈ gw := gw_at 544 (by decide +kernel) rfl
theorem k_545 : Cond.methodLink qn_R 149 qn_combineCompound_y ∈ gw := gw_at 545 (by decide +kernel) rfl
theorem k_547 : Cond.instanceMethod qn_combineCompound_y ∈ gw := gw_at 547 (by decide +kernel) rfl
theorem k_548 : Cond.code qn_combineCompound_y qn_combineCompound_c 3 none ∈ gw := gw_at 548 (by decide +kernel) rfl
theorem k_549 : Cond.methodLink qn_R 212 qh_parametersOf_y ∈ gw := gw_at 549 (by decide +kernel) rfl
theorem k_550 : Cond.instanceMethod qh_parametersOf_y ∈ gw := gw_at 550 (by decide +kernel) rfl
theorem k_551 : Cond.selects qh_R qh_parametersOf_y qh_parametersOf_y ∈ gw := gw_at 551 (by decide +kernel) rfl
theorem k_552 : Cond.code qh_parametersOf_y qh_parametersOf_c 2 (some .long) ∈ gw := gw_at 552 (by decide +kernel) rfl
theorem k_553 : Cond.methodLink qn_R 215 qt_matches_y ∈ gw := gw_at 553 (by decide +kernel) rfl
theorem k_554 : Cond.instanceMethod qt_matches_y ∈ gw := gw_at 554 (by decide +kernel) rfl
theorem k_555 : Cond.selects qt_R qt_matches_y qt_matches_y ∈ gw := gw_at 555 (by decide +kernel) rfl
theorem k_556 : Cond.code qt_matches_y qt_matches_c 10 (some .boolean) ∈ gw := gw_at 556 (by decide +kernel) rfl
theorem k_557 : Cond.methodLink qt_R 38 qt_start_y ∈ gw := gw_at 557 (by decide +kernel) rfl
theorem k_559 : Cond.instanceMethod qt_start_y ∈ gw := gw_at 559 (by decide +kernel) rfl
theorem k_560 : Cond.code qt_start_y qt_start_c 5 none ∈ gw := gw_at 560 (by decide +kernel) rfl
theorem k_561 : Cond.methodLink qt_R 56 qt_putOff_y ∈ gw := gw_at 561 (by decide +kernel) rfl
theorem k_563 : Cond.instanceMethod qt_putOff_y ∈ gw := gw_at 563 (by decide +kernel) rfl
theorem k_564 : Cond.code qt_putOff_y qt_putOff_c 5 none ∈ gw := gw_at 564 (by decide +kernel) rfl
theorem k_565 : Cond.methodLink qt_R 42 qt_takeTree_y ∈ gw := gw_at 565 (by decide +kernel) rfl
theorem k_567 : Cond.instanceMethod qt_takeTree_y ∈ gw := gw_at 567 (by decide +kernel) rfl
theorem k_568 : Cond.code qt_takeTree_y qt_takeTree_c 1 (some .long) ∈ gw := gw_at 568 (by decide +kernel) rfl
theorem k_569 : Cond.constantLong qt_R 36 (3) ∈ gw := gw_at 569 (by decide +kernel) rfl
theorem k_570 : Cond.methodLink qt_R 73 qt_takenPart_y ∈ gw := gw_at 570 (by decide +kernel) rfl
theorem k_572 : Cond.instanceMethod qt_takenPart_y ∈ gw := gw_at 572 (by decide +kernel) rfl
theorem k_573 : Cond.code qt_takenPart_y qt_takenPart_c 1 (some .long) ∈ gw := gw_at 573 (by decide +kernel) rfl
theorem k_574 : Cond.methodLink qt_R 46 qw_kindOf_y ∈ gw := gw_at 574 (by decide +kernel) rfl
theorem k_575 : Cond.methodLink qt_R 50 qh_cdrOf_y ∈ gw := gw_at 575 (by decide +kernel) rfl
theorem k_576 : Cond.methodLink qt_R 59 qh_carOf_y ∈ gw := gw_at 576 (by decide +kernel) rfl
theorem k_577 : Cond.methodLink qt_R 62 qw_rowOf_y ∈ gw := gw_at 577 (by decide +kernel) rfl
theorem k_578 : Cond.methodLink qt_R 69 qt_find_y ∈ gw := gw_at 578 (by decide +kernel) rfl
theorem k_580 : Cond.instanceMethod qt_find_y ∈ gw := gw_at 580 (by decide +kernel) rfl
theorem k_581 : Cond.code qt_find_y qt_find_c 4 none ∈ gw := gw_at 581 (by decide +kernel) rfl
theorem k_582 : Cond.methodLink qn_R 219 qh_scopeOf_y ∈ gw := gw_at 582 (by decide +kernel) rfl
theorem k_583 : Cond.instanceMethod qh_scopeOf_y ∈ gw := gw_at 583 (by decide +kernel) rfl
theorem k_584 : Cond.selects qh_R qh_scopeOf_y qh_scopeOf_y ∈ gw := gw_at 584 (by decide +kernel) rfl
theorem k_585 : Cond.code qh_scopeOf_y qh_scopeOf_c 2 (some .int) ∈ gw := gw_at 585 (by decide +kernel) rfl
theorem k_586 : Cond.constantLong qh_R 73 (8191) ∈ gw := gw_at 586 (by decide +kernel) rfl
theorem k_587 : Cond.methodLink qn_R 223 qh_addEnvironment_y ∈ gw := gw_at 587 (by decide +kernel) rfl
theorem k_588 : Cond.instanceMethod qh_addEnvironment_y ∈ gw := gw_at 588 (by decide +kernel) rfl
theorem k_589 : Cond.selects qh_R qh_addEnvironment_y qh_addEnvironment_y ∈ gw := gw_at 589 (by decide +kernel) rfl
theorem k_590 : Cond.code qh_addEnvironment_y qh_addEnvironment_c 2 (some .int) ∈ gw := gw_at 590 (by decide +kernel) rfl
theorem k_591 : Cond.methodLink qn_R 226 qt_bindFound_y ∈ gw := gw_at 591 (by decide +kernel) rfl
theorem k_592 : Cond.instanceMethod qt_bindFound_y ∈ gw := gw_at 592 (by decide +kernel) rfl
theorem k_593 : Cond.selects qt_R qt_bindFound_y qt_bindFound_y ∈ gw := gw_at 593 (by decide +kernel) rfl
theorem k_594 : Cond.code qt_bindFound_y qt_bindFound_c 3 (some .boolean) ∈ gw := gw_at 594 (by decide +kernel) rfl
theorem k_595 : Cond.methodLink qt_R 76 qh_addBinding_y ∈ gw := gw_at 595 (by decide +kernel) rfl
theorem k_596 : Cond.instanceMethod qh_addBinding_y ∈ gw := gw_at 596 (by decide +kernel) rfl
theorem k_597 : Cond.selects qh_R qh_addBinding_y qh_addBinding_y ∈ gw := gw_at 597 (by decide +kernel) rfl
theorem k_598 : Cond.code qh_addBinding_y qh_addBinding_c 6 (some .boolean) ∈ gw := gw_at 598 (by decide +kernel) rfl
theorem k_599 : Cond.methodLink qn_R 229 qh_environmentSymbolOf_y ∈ gw := gw_at 599 (by decide +kernel) rfl
theorem k_600 : Cond.instanceMethod qh_environmentSymbolOf_y ∈ gw := gw_at 600 (by decide +kernel) rfl
theorem k_601 : Cond.selects qh_R qh_environmentSymbolOf_y qh_environmentSymbolOf_y ∈ gw := gw_at 601 (by decide +kernel) rfl
theorem k_602 : Cond.code qh_environmentSymbolOf_y qh_environmentSymbolOf_c 2 (some .int) ∈ gw := gw_at 602 (by decide +kernel) rfl
theorem k_603 : Cond.methodLink qn_R 232 qn_bindCaller_y ∈ gw := gw_at 603 (by decide +kernel) rfl
theorem k_605 : Cond.instanceMethod qn_bindCaller_y ∈ gw := gw_at 605 (by decide +kernel) rfl
theorem k_606 : Cond.code qn_bindCaller_y qn_bindCaller_c 3 (some .boolean) ∈ gw := gw_at 606 (by decide +kernel) rfl
theorem k_607 : Cond.methodLink qn_R 239 qh_addBinding_y ∈ gw := gw_at 607 (by decide +kernel) rfl
theorem k_608 : Cond.methodLink qn_R 236 qh_bodyOf_y ∈ gw := gw_at 608 (by decide +kernel) rfl
theorem k_609 : Cond.instanceMethod qh_bodyOf_y ∈ gw := gw_at 609 (by decide +kernel) rfl
theorem k_610 : Cond.selects qh_R qh_bodyOf_y qh_bodyOf_y ∈ gw := gw_at 610 (by decide +kernel) rfl
theorem k_611 : Cond.code qh_bodyOf_y qh_bodyOf_c 2 (some .long) ∈ gw := gw_at 611 (by decide +kernel) rfl
theorem k_612 : Cond.methodLink qn_R 92 qn_callPrimitive_y ∈ gw := gw_at 612 (by decide +kernel) rfl
theorem k_614 : Cond.instanceMethod qn_callPrimitive_y ∈ gw := gw_at 614 (by decide +kernel) rfl
theorem k_615 : Cond.code qn_callPrimitive_y qn_callPrimitive_c 3 none ∈ gw := gw_at 615 (by decide +kernel) rfl
theorem k_616 : Cond.methodLink qn_R 243 qn_hasDueCount_y ∈ gw := gw_at 616 (by decide +kernel) rfl
theorem k_618 : Cond.instanceMethod qn_hasDueCount_y ∈ gw := gw_at 618 (by decide +kernel) rfl
theorem k_619 : Cond.code qn_hasDueCount_y qn_hasDueCount_c 3 (some .boolean) ∈ gw := gw_at 619 (by decide +kernel) rfl
theorem k_620 : Cond.fieldLink qn_R 259 "ScopeInterpreter$Machine" "OPERAND_COUNTS" "[I" ∈ gw := gw_at 620 (by decide +kernel) rfl
theorem k_622 : Cond.methodLink qn_R 246 qn_haveDueKinds_y ∈ gw := gw_at 622 (by decide +kernel) rfl
theorem k_624 : Cond.instanceMethod qn_haveDueKinds_y ∈ gw := gw_at 624 (by decide +kernel) rfl
theorem k_625 : Cond.code qn_haveDueKinds_y qn_haveDueKinds_c 3 (some .boolean) ∈ gw := gw_at 625 (by decide +kernel) rfl
theorem k_626 : Cond.methodLink qn_R 263 qn_operand_y ∈ gw := gw_at 626 (by decide +kernel) rfl
theorem k_628 : Cond.instanceMethod qn_operand_y ∈ gw := gw_at 628 (by decide +kernel) rfl
theorem k_629 : Cond.code qn_operand_y qn_operand_c 2 (some .long) ∈ gw := gw_at 629 (by decide +kernel) rfl
theorem k_630 : Cond.methodLink qn_R 286 qh_elementOf_y ∈ gw := gw_at 630 (by decide +kernel) rfl
theorem k_631 : Cond.instanceMethod qh_elementOf_y ∈ gw := gw_at 631 (by decide +kernel) rfl
theorem k_632 : Cond.selects qh_R qh_elementOf_y qh_elementOf_y ∈ gw := gw_at 632 (by decide +kernel) rfl
theorem k_633 : Cond.code qh_elementOf_y qh_elementOf_c 7 (some .long) ∈ gw := gw_at 633 (by decide +kernel) rfl
theorem k_634 : Cond.methodLink qn_R 266 qt_isParameterTree_y ∈ gw := gw_at 634 (by decide +kernel) rfl
theorem k_635 : Cond.instanceMethod qt_isParameterTree_y ∈ gw := gw_at 635 (by decide +kernel) rfl
theorem k_636 : Cond.selects qt_R qt_isParameterTree_y qt_isParameterTree_y ∈ gw := gw_at 636 (by decide +kernel) rfl
theorem k_637 : Cond.code qt_isParameterTree_y qt_isParameterTree_c 7 (some .boolean) ∈ gw := gw_at 637 (by decide +kernel) rfl
theorem k_638 : Cond.methodLink qt_R 65 qt_hasFound_y ∈ gw := gw_at 638 (by decide +kernel) rfl
theorem k_639 : Cond.instanceMethod qt_hasFound_y ∈ gw := gw_at 639 (by decide +kernel) rfl
theorem k_640 : Cond.selects qt_R qt_hasFound_y qt_hasFound_y ∈ gw := gw_at 640 (by decide +kernel) rfl
theorem k_641 : Cond.code qt_hasFound_y qt_hasFound_c 3 (some .boolean) ∈ gw := gw_at 641 (by decide +kernel) rfl
theorem k_642 : Cond.methodLink qn_R 269 qn_canNameCaller_y ∈ gw := gw_at 642 (by decide +kernel) rfl
theorem k_644 : Cond.instanceMethod qn_canNameCaller_y ∈ gw := gw_at 644 (by decide +kernel) rfl
theorem k_645 : Cond.code qn_canNameCaller_y qn_canNameCaller_c 4 (some .boolean) ∈ gw := gw_at 645 (by decide +kernel) rfl
theorem k_646 : Cond.constantLong qn_R 281 (8) ∈ gw := gw_at 646 (by decide +kernel) rfl
theorem k_647 : Cond.methodLink qn_R 283 qt_hasFound_y ∈ gw := gw_at 647 (by decide +kernel) rfl
theorem k_648 : Cond.methodLink qn_R 272 qn_isOperand_y ∈ gw := gw_at 648 (by decide +kernel) rfl
theorem k_650 : Cond.instanceMethod qn_isOperand_y ∈ gw := gw_at 650 (by decide +kernel) rfl
theorem k_651 : Cond.code qn_isOperand_y qn_isOperand_c 3 (some .boolean) ∈ gw := gw_at 651 (by decide +kernel) rfl
theorem k_652 : Cond.methodLink qn_R 275 qn_areIntegers_y ∈ gw := gw_at 652 (by decide +kernel) rfl
theorem k_654 : Cond.instanceMethod qn_areIntegers_y ∈ gw := gw_at 654 (by decide +kernel) rfl
theorem k_655 : Cond.code qn_areIntegers_y qn_areIntegers_c 4 (some .boolean) ∈ gw := gw_at 655 (by decide +kernel) rfl
theorem k_656 : Cond.methodLink qn_R 278 qw_isCombiner_y ∈ gw := gw_at 656 (by decide +kernel) rfl
theorem k_657 : Cond.static qw_isCombiner_y ∈ gw := gw_at 657 (by decide +kernel) rfl
theorem k_658 : Cond.code qw_isCombiner_y qw_isCombiner_c 2 (some .boolean) ∈ gw := gw_at 658 (by decide +kernel) rfl
theorem k_659 : Cond.methodLink qw_R 17 qw_kindOf_y ∈ gw := gw_at 659 (by decide +kernel) rfl
theorem k_660 : Cond.methodLink qn_R 249 qn_callSpecial_y ∈ gw := gw_at 660 (by decide +kernel) rfl
theorem k_662 : Cond.instanceMethod qn_callSpecial_y ∈ gw := gw_at 662 (by decide +kernel) rfl
theorem k_663 : Cond.code qn_callSpecial_y qn_callSpecial_c 2 none ∈ gw := gw_at 663 (by decide +kernel) rfl
theorem k_664 : Cond.methodLink qn_R 290 qn_makeOperative_y ∈ gw := gw_at 664 (by decide +kernel) rfl
theorem k_666 : Cond.instanceMethod qn_makeOperative_y ∈ gw := gw_at 666 (by decide +kernel) rfl
theorem k_667 : Cond.code qn_makeOperative_y qn_makeOperative_c 8 none ∈ gw := gw_at 667 (by decide +kernel) rfl
theorem k_668 : Cond.methodLink qn_R 297 qh_addOperative_y ∈ gw := gw_at 668 (by decide +kernel) rfl
theorem k_669 : Cond.instanceMethod qh_addOperative_y ∈ gw := gw_at 669 (by decide +kernel) rfl
theorem k_670 : Cond.selects qh_R qh_addOperative_y qh_addOperative_y ∈ gw := gw_at 670 (by decide +kernel) rfl
theorem k_671 : Cond.code qh_addOperative_y qh_addOperative_c 9 (some .int) ∈ gw := gw_at 671 (by decide +kernel) rfl
theorem k_672 : Cond.methodLink qn_R 301 qn_giveBackNew_y ∈ gw := gw_at 672 (by decide +kernel) rfl
theorem k_674 : Cond.instanceMethod qn_giveBackNew_y ∈ gw := gw_at 674 (by decide +kernel) rfl
theorem k_675 : Cond.code qn_giveBackNew_y qn_giveBackNew_c 3 none ∈ gw := gw_at 675 (by decide +kernel) rfl
theorem k_676 : Cond.methodLink qn_R 294 qn_makeFunction_y ∈ gw := gw_at 676 (by decide +kernel) rfl
theorem k_678 : Cond.instanceMethod qn_makeFunction_y ∈ gw := gw_at 678 (by decide +kernel) rfl
theorem k_679 : Cond.code qn_makeFunction_y qn_makeFunction_c 6 none ∈ gw := gw_at 679 (by decide +kernel) rfl
theorem k_680 : Cond.methodLink qn_R 304 qh_addApplicative_y ∈ gw := gw_at 680 (by decide +kernel) rfl
theorem k_681 : Cond.instanceMethod qh_addApplicative_y ∈ gw := gw_at 681 (by decide +kernel) rfl
theorem k_682 : Cond.selects qh_R qh_addApplicative_y qh_addApplicative_y ∈ gw := gw_at 682 (by decide +kernel) rfl
theorem k_683 : Cond.code qh_addApplicative_y qh_addApplicative_c 3 (some .int) ∈ gw := gw_at 683 (by decide +kernel) rfl
theorem k_684 : Cond.methodLink qn_R 192 qn_evaluateSequence_y ∈ gw := gw_at 684 (by decide +kernel) rfl
theorem k_686 : Cond.instanceMethod qn_evaluateSequence_y ∈ gw := gw_at 686 (by decide +kernel) rfl
theorem k_687 : Cond.code qn_evaluateSequence_y qn_evaluateSequence_c 5 none ∈ gw := gw_at 687 (by decide +kernel) rfl
theorem k_688 : Cond.methodLink qn_R 252 qn_callDataFunction_y ∈ gw := gw_at 688 (by decide +kernel) rfl
theorem k_690 : Cond.instanceMethod qn_callDataFunction_y ∈ gw := gw_at 690 (by decide +kernel) rfl
theorem k_691 : Cond.code qn_callDataFunction_y qn_callDataFunction_c 2 none ∈ gw := gw_at 691 (by decide +kernel) rfl
theorem k_692 : Cond.methodLink qn_R 313 qn_accumulate_y ∈ gw := gw_at 692 (by decide +kernel) rfl
theorem k_694 : Cond.instanceMethod qn_accumulate_y ∈ gw := gw_at 694 (by decide +kernel) rfl
theorem k_695 : Cond.code qn_accumulate_y qn_accumulate_c 9 none ∈ gw := gw_at 695 (by decide +kernel) rfl
theorem k_696 : Cond.methodLink qn_R 307 qw_contentOf_y ∈ gw := gw_at 696 (by decide +kernel) rfl
theorem k_697 : Cond.methodLink qn_R 324 qw_product_y ∈ gw := gw_at 697 (by decide +kernel) rfl
theorem k_698 : Cond.static qw_product_y ∈ gw := gw_at 698 (by decide +kernel) rfl
theorem k_699 : Cond.code qw_product_y qw_product_c 4 (some .long) ∈ gw := gw_at 699 (by decide +kernel) rfl
theorem k_703 : Cond.constantLong qw_R 31 (-9223372036854775808) ∈ gw := gw_at 703 (by decide +kernel) rfl
theorem k_704 : Cond.methodLink qn_R 109 qw_isInteger_y ∈ gw := gw_at 704 (by decide +kernel) rfl
theorem k_705 : Cond.methodLink qn_R 317 qn_giveBackInteger_y ∈ gw := gw_at 705 (by decide +kernel) rfl
theorem k_707 : Cond.instanceMethod qn_giveBackInteger_y ∈ gw := gw_at 707 (by decide +kernel) rfl
theorem k_708 : Cond.code qn_giveBackInteger_y qn_giveBackInteger_c 3 none ∈ gw := gw_at 708 (by decide +kernel) rfl
theorem k_709 : Cond.methodLink qn_R 320 qw_makeBoolean_y ∈ gw := gw_at 709 (by decide +kernel) rfl
theorem k_710 : Cond.methodLink qn_R 255 qn_callScopeFunction_y ∈ gw := gw_at 710 (by decide +kernel) rfl
theorem k_712 : Cond.instanceMethod qn_callScopeFunction_y ∈ gw := gw_at 712 (by decide +kernel) rfl
theorem k_713 : Cond.code qn_callScopeFunction_y qn_callScopeFunction_c 3 none ∈ gw := gw_at 713 (by decide +kernel) rfl
theorem k_714 : Cond.methodLink qn_R 328 qn_makeEnvironment_y ∈ gw := gw_at 714 (by decide +kernel) rfl
theorem k_716 : Cond.instanceMethod qn_makeEnvironment_y ∈ gw := gw_at 716 (by decide +kernel) rfl
theorem k_717 : Cond.code qn_makeEnvironment_y qn_makeEnvironment_c 2 none ∈ gw := gw_at 717 (by decide +kernel) rfl
theorem k_718 : Cond.methodLink qn_R 331 qn_applyWithoutScope_y ∈ gw := gw_at 718 (by decide +kernel) rfl
theorem k_720 : Cond.instanceMethod qn_applyWithoutScope_y ∈ gw := gw_at 720 (by decide +kernel) rfl
theorem k_721 : Cond.code qn_applyWithoutScope_y qn_applyWithoutScope_c 6 none ∈ gw := gw_at 721 (by decide +kernel) rfl
theorem k_722 : Cond.methodLink qn_R 96 qn_returnCurrent_y ∈ gw := gw_at 722 (by decide +kernel) rfl
theorem k_724 : Cond.instanceMethod qn_returnCurrent_y ∈ gw := gw_at 724 (by decide +kernel) rfl
theorem k_725 : Cond.code qn_returnCurrent_y qn_returnCurrent_c 3 none ∈ gw := gw_at 725 (by decide +kernel) rfl
theorem k_726 : Cond.methodLink qn_R 152 qf_isEmpty_y ∈ gw := gw_at 726 (by decide +kernel) rfl
theorem k_727 : Cond.instanceMethod qf_isEmpty_y ∈ gw := gw_at 727 (by decide +kernel) rfl
theorem k_728 : Cond.selects qf_R qf_isEmpty_y qf_isEmpty_y ∈ gw := gw_at 728 (by decide +kernel) rfl
theorem k_729 : Cond.code qf_isEmpty_y qf_isEmpty_c 1 (some .boolean) ∈ gw := gw_at 729 (by decide +kernel) rfl
theorem k_730 : Cond.methodLink qn_R 156 qf_take_y ∈ gw := gw_at 730 (by decide +kernel) rfl
theorem k_731 : Cond.instanceMethod qf_take_y ∈ gw := gw_at 731 (by decide +kernel) rfl
theorem k_732 : Cond.selects qf_R qf_take_y qf_take_y ∈ gw := gw_at 732 (by decide +kernel) rfl
theorem k_733 : Cond.code qf_take_y qf_take_c 1 none ∈ gw := gw_at 733 (by decide +kernel) rfl
theorem k_734 : Cond.methodLink qn_R 159 qf_environment_y ∈ gw := gw_at 734 (by decide +kernel) rfl
theorem k_735 : Cond.instanceMethod qf_environment_y ∈ gw := gw_at 735 (by decide +kernel) rfl
theorem k_736 : Cond.selects qf_R qf_environment_y qf_environment_y ∈ gw := gw_at 736 (by decide +kernel) rfl
theorem k_737 : Cond.code qf_environment_y qf_environment_c 1 (some .int) ∈ gw := gw_at 737 (by decide +kernel) rfl
theorem k_738 : Cond.methodLink qf_R 33 qf_canRead_y ∈ gw := gw_at 738 (by decide +kernel) rfl
theorem k_740 : Cond.instanceMethod qf_canRead_y ∈ gw := gw_at 740 (by decide +kernel) rfl
theorem k_741 : Cond.code qf_canRead_y qf_canRead_c 1 (some .boolean) ∈ gw := gw_at 741 (by decide +kernel) rfl
theorem k_742 : Cond.methodLink qn_R 161 qf_rest_y ∈ gw := gw_at 742 (by decide +kernel) rfl
theorem k_743 : Cond.instanceMethod qf_rest_y ∈ gw := gw_at 743 (by decide +kernel) rfl
theorem k_744 : Cond.selects qf_R qf_rest_y qf_rest_y ∈ gw := gw_at 744 (by decide +kernel) rfl
theorem k_745 : Cond.code qf_rest_y qf_rest_c 1 (some .long) ∈ gw := gw_at 745 (by decide +kernel) rfl
theorem k_746 : Cond.constantLong qf_R 41 (3) ∈ gw := gw_at 746 (by decide +kernel) rfl
theorem k_747 : Cond.methodLink qn_R 165 qf_task_y ∈ gw := gw_at 747 (by decide +kernel) rfl
theorem k_748 : Cond.instanceMethod qf_task_y ∈ gw := gw_at 748 (by decide +kernel) rfl
theorem k_749 : Cond.selects qf_R qf_task_y qf_task_y ∈ gw := gw_at 749 (by decide +kernel) rfl
theorem k_750 : Cond.code qf_task_y qf_task_c 1 (some .int) ∈ gw := gw_at 750 (by decide +kernel) rfl
theorem k_751 : Cond.methodLink qn_R 172 qf_held_y ∈ gw := gw_at 751 (by decide +kernel) rfl
theorem k_752 : Cond.instanceMethod qf_held_y ∈ gw := gw_at 752 (by decide +kernel) rfl
theorem k_753 : Cond.selects qf_R qf_held_y qf_held_y ∈ gw := gw_at 753 (by decide +kernel) rfl
theorem k_754 : Cond.code qf_held_y qf_held_c 1 (some .long) ∈ gw := gw_at 754 (by decide +kernel) rfl
theorem k_755 : Cond.methodLink qn_R 175 qf_gathered_y ∈ gw := gw_at 755 (by decide +kernel) rfl
theorem k_756 : Cond.instanceMethod qf_gathered_y ∈ gw := gw_at 756 (by decide +kernel) rfl
theorem k_757 : Cond.selects qf_R qf_gathered_y qf_gathered_y ∈ gw := gw_at 757 (by decide +kernel) rfl
theorem k_758 : Cond.code qf_gathered_y qf_gathered_c 1 (some .int) ∈ gw := gw_at 758 (by decide +kernel) rfl
theorem k_759 : Cond.methodLink qn_R 178 qn_takeArgument_y ∈ gw := gw_at 759 (by decide +kernel) rfl
theorem k_761 : Cond.instanceMethod qn_takeArgument_y ∈ gw := gw_at 761 (by decide +kernel) rfl
theorem k_762 : Cond.code qn_takeArgument_y qn_takeArgument_c 6 none ∈ gw := gw_at 762 (by decide +kernel) rfl
theorem k_763 : Cond.methodLink qn_R 182 qn_choose_y ∈ gw := gw_at 763 (by decide +kernel) rfl
theorem k_765 : Cond.instanceMethod qn_choose_y ∈ gw := gw_at 765 (by decide +kernel) rfl
theorem k_766 : Cond.code qn_choose_y qn_choose_c 3 none ∈ gw := gw_at 766 (by decide +kernel) rfl
theorem k_767 : Cond.methodLink qn_R 185 qn_bindCurrent_y ∈ gw := gw_at 767 (by decide +kernel) rfl
theorem k_769 : Cond.instanceMethod qn_bindCurrent_y ∈ gw := gw_at 769 (by decide +kernel) rfl
theorem k_770 : Cond.code qn_bindCurrent_y qn_bindCurrent_c 4 none ∈ gw := gw_at 770 (by decide +kernel) rfl
theorem k_771 : Cond.methodLink qn_R 310 qh_bind_y ∈ gw := gw_at 771 (by decide +kernel) rfl
theorem k_772 : Cond.instanceMethod qh_bind_y ∈ gw := gw_at 772 (by decide +kernel) rfl
theorem k_773 : Cond.selects qh_R qh_bind_y qh_bind_y ∈ gw := gw_at 773 (by decide +kernel) rfl
theorem k_774 : Cond.code qh_bind_y qh_bind_c 6 (some .boolean) ∈ gw := gw_at 774 (by decide +kernel) rfl
theorem k_775 : Cond.methodLink qh_R 88 qh_addBinding_y ∈ gw := gw_at 775 (by decide +kernel) rfl
theorem k_776 : Cond.methodLink qn_R 189 qn_takePlace_y ∈ gw := gw_at 776 (by decide +kernel) rfl
theorem k_778 : Cond.instanceMethod qn_takePlace_y ∈ gw := gw_at 778 (by decide +kernel) rfl
theorem k_779 : Cond.code qn_takePlace_y qn_takePlace_c 3 none ∈ gw := gw_at 779 (by decide +kernel) rfl
theorem k_780 : Cond.methodLink qx_R 139 qn_answer_y ∈ gw := gw_at 780 (by decide +kernel) rfl
theorem k_781 : Cond.instanceMethod qn_answer_y ∈ gw := gw_at 781 (by decide +kernel) rfl
theorem k_782 : Cond.selects qn_R qn_answer_y qn_answer_y ∈ gw := gw_at 782 (by decide +kernel) rfl
theorem k_783 : Cond.code qn_answer_y qn_answer_c 1 (some .long) ∈ gw := gw_at 783 (by decide +kernel) rfl
theorem k_785 : Cond.instanceMethod qx_useEnvironment_y ∈ gw := gw_at 785 (by decide +kernel) rfl
theorem k_786 : Cond.selects qx_R qx_useEnvironment_y qx_useEnvironment_y ∈ gw := gw_at 786 (by decide +kernel) rfl
theorem k_787 : Cond.code qx_useEnvironment_y qx_useEnvironment_c 2 (some .int) ∈ gw := gw_at 787 (by decide +kernel) rfl
theorem k_789 : Cond.instanceMethod qx_useUser_y ∈ gw := gw_at 789 (by decide +kernel) rfl
theorem k_790 : Cond.selects qx_R qx_useUser_y qx_useUser_y ∈ gw := gw_at 790 (by decide +kernel) rfl
theorem k_791 : Cond.code qx_useUser_y qx_useUser_c 2 (some .int) ∈ gw := gw_at 791 (by decide +kernel) rfl
theorem k_793 : Cond.instanceMethod qx_setLimit_y ∈ gw := gw_at 793 (by decide +kernel) rfl
theorem k_794 : Cond.selects qx_R qx_setLimit_y qx_setLimit_y ∈ gw := gw_at 794 (by decide +kernel) rfl
theorem k_795 : Cond.code qx_setLimit_y qx_setLimit_c 3 (some .int) ∈ gw := gw_at 795 (by decide +kernel) rfl
theorem k_797 : Cond.instanceMethod qx_latest_y ∈ gw := gw_at 797 (by decide +kernel) rfl
theorem k_798 : Cond.selects qx_R qx_latest_y qx_latest_y ∈ gw := gw_at 798 (by decide +kernel) rfl
theorem k_799 : Cond.code qx_latest_y qx_latest_c 2 (some .int) ∈ gw := gw_at 799 (by decide +kernel) rfl
theorem k_800 : Cond.methodLink qx_R 143 qn_stepCount_y ∈ gw := gw_at 800 (by decide +kernel) rfl
theorem k_801 : Cond.instanceMethod qn_stepCount_y ∈ gw := gw_at 801 (by decide +kernel) rfl
theorem k_802 : Cond.selects qn_R qn_stepCount_y qn_stepCount_y ∈ gw := gw_at 802 (by decide +kernel) rfl
theorem k_803 : Cond.code qn_stepCount_y qn_stepCount_c 1 (some .int) ∈ gw := gw_at 803 (by decide +kernel) rfl
theorem k_804 : Cond.methodLink qx_R 146 qn_mostFrames_y ∈ gw := gw_at 804 (by decide +kernel) rfl
theorem k_805 : Cond.instanceMethod qn_mostFrames_y ∈ gw := gw_at 805 (by decide +kernel) rfl
theorem k_806 : Cond.selects qn_R qn_mostFrames_y qn_mostFrames_y ∈ gw := gw_at 806 (by decide +kernel) rfl
theorem k_807 : Cond.code qn_mostFrames_y qn_mostFrames_c 1 (some .int) ∈ gw := gw_at 807 (by decide +kernel) rfl
theorem k_808 : Cond.methodLink qn_R 73 qf_greatestCount_y ∈ gw := gw_at 808 (by decide +kernel) rfl
theorem k_809 : Cond.instanceMethod qf_greatestCount_y ∈ gw := gw_at 809 (by decide +kernel) rfl
theorem k_810 : Cond.selects qf_R qf_greatestCount_y qf_greatestCount_y ∈ gw := gw_at 810 (by decide +kernel) rfl
theorem k_811 : Cond.code qf_greatestCount_y qf_greatestCount_c 1 (some .int) ∈ gw := gw_at 811 (by decide +kernel) rfl
theorem k_813 : Cond.instanceMethod qx_heapSize_y ∈ gw := gw_at 813 (by decide +kernel) rfl
theorem k_814 : Cond.selects qx_R qx_heapSize_y qx_heapSize_y ∈ gw := gw_at 814 (by decide +kernel) rfl
theorem k_815 : Cond.code qx_heapSize_y qx_heapSize_c 1 (some .int) ∈ gw := gw_at 815 (by decide +kernel) rfl
theorem k_822 : Cond.methodLink qm_R 75 qm_begin_y ∈ gw := gw_at 822 (by decide +kernel) rfl
theorem k_824 : Cond.instanceMethod qm_begin_y ∈ gw := gw_at 824 (by decide +kernel) rfl
theorem k_825 : Cond.code qm_begin_y qm_begin_c 2 none ∈ gw := gw_at 825 (by decide +kernel) rfl
theorem k_826 : Cond.constantLong qm_R 98 (-25) ∈ gw := gw_at 826 (by decide +kernel) rfl
theorem k_827 : Cond.constantLong qm_R 110 (10) ∈ gw := gw_at 827 (by decide +kernel) rfl
theorem k_828 : Cond.constantLong qm_R 112 (25) ∈ gw := gw_at 828 (by decide +kernel) rfl
theorem k_829 : Cond.methodLink qm_R 114 qm_within_y ∈ gw := gw_at 829 (by decide +kernel) rfl
theorem k_830 : Cond.static qm_within_y ∈ gw := gw_at 830 (by decide +kernel) rfl
theorem k_831 : Cond.code qm_within_y qm_within_c 6 (some .boolean) ∈ gw := gw_at 831 (by decide +kernel) rfl
theorem k_832 : Cond.constantLong qm_R 118 (-1) ∈ gw := gw_at 832 (by decide +kernel) rfl
theorem k_833 : Cond.methodLink qm_R 84 qm_made_y ∈ gw := gw_at 833 (by decide +kernel) rfl
theorem k_834 : Cond.static qm_made_y ∈ gw := gw_at 834 (by decide +kernel) rfl
theorem k_835 : Cond.code qm_made_y qm_made_c 3 (some .long) ∈ gw := gw_at 835 (by decide +kernel) rfl
theorem k_836 : Cond.constantLong qm_R 80 (16) ∈ gw := gw_at 836 (by decide +kernel) rfl
theorem k_837 : Cond.fieldLink qm_R 88 "ScopeInterpreterModel" "objects" "I" ∈ gw := gw_at 837 (by decide +kernel) rfl
theorem k_838 : Cond.fieldLink qm_R 7 "ScopeInterpreterModel" "first" "[J" ∈ gw := gw_at 838 (by decide +kernel) rfl
theorem k_839 : Cond.fieldLink qm_R 13 "ScopeInterpreterModel" "second" "[J" ∈ gw := gw_at 839 (by decide +kernel) rfl
theorem k_840 : Cond.fieldLink qm_R 16 "ScopeInterpreterModel" "third" "[J" ∈ gw := gw_at 840 (by decide +kernel) rfl
theorem k_841 : Cond.fieldLink qm_R 19 "ScopeInterpreterModel" "fourth" "[J" ∈ gw := gw_at 841 (by decide +kernel) rfl
theorem k_842 : Cond.fieldLink qm_R 22 "ScopeInterpreterModel" "symbolOf" "[I" ∈ gw := gw_at 842 (by decide +kernel) rfl
theorem k_843 : Cond.fieldLink qm_R 26 "ScopeInterpreterModel" "nextOf" "[I" ∈ gw := gw_at 843 (by decide +kernel) rfl
theorem k_844 : Cond.fieldLink qm_R 29 "ScopeInterpreterModel" "headOf" "[I" ∈ gw := gw_at 844 (by decide +kernel) rfl
theorem k_845 : Cond.fieldLink qm_R 32 "ScopeInterpreterModel" "isGround" "[Z" ∈ gw := gw_at 845 (by decide +kernel) rfl
theorem k_846 : Cond.fieldLink qm_R 36 "ScopeInterpreterModel" "groundValue" "[J" ∈ gw := gw_at 846 (by decide +kernel) rfl
theorem k_847 : Cond.fieldLink qm_R 134 "ScopeInterpreterModel" "found" "J" ∈ gw := gw_at 847 (by decide +kernel) rfl
theorem k_848 : Cond.fieldLink qm_R 137 "ScopeInterpreterModel" "foundAt" "I" ∈ gw := gw_at 848 (by decide +kernel) rfl
theorem k_849 : Cond.fieldLink qm_R 92 "ScopeInterpreterModel" "values" "I" ∈ gw := gw_at 849 (by decide +kernel) rfl
theorem k_850 : Cond.fieldLink qm_R 39 "ScopeInterpreterModel" "stack" "[J" ∈ gw := gw_at 850 (by decide +kernel) rfl
theorem k_851 : Cond.fieldLink qm_R 100 "ScopeInterpreterModel" "present" "J" ∈ gw := gw_at 851 (by decide +kernel) rfl
theorem k_852 : Cond.fieldLink qm_R 95 "ScopeInterpreterModel" "limit" "I" ∈ gw := gw_at 852 (by decide +kernel) rfl
theorem k_853 : Cond.fieldLink qm_R 104 "ScopeInterpreterModel" "steps" "I" ∈ gw := gw_at 853 (by decide +kernel) rfl
theorem k_854 : Cond.fieldLink qm_R 107 "ScopeInterpreterModel" "mostFrames" "I" ∈ gw := gw_at 854 (by decide +kernel) rfl
theorem k_855 : Cond.fieldLink qm_R 200 "ScopeInterpreterModel" "mode" "I" ∈ gw := gw_at 855 (by decide +kernel) rfl
theorem k_856 : Cond.fieldLink qm_R 203 "ScopeInterpreterModel" "now" "J" ∈ gw := gw_at 856 (by decide +kernel) rfl
theorem k_857 : Cond.fieldLink qm_R 223 "ScopeInterpreterModel" "operands" "J" ∈ gw := gw_at 857 (by decide +kernel) rfl
theorem k_858 : Cond.fieldLink qm_R 206 "ScopeInterpreterModel" "around" "J" ∈ gw := gw_at 858 (by decide +kernel) rfl
theorem k_859 : Cond.fieldLink qm_R 209 "ScopeInterpreterModel" "frames" "I" ∈ gw := gw_at 859 (by decide +kernel) rfl
theorem k_860 : Cond.fieldLink qm_R 42 "ScopeInterpreterModel" "frameKind" "[I" ∈ gw := gw_at 860 (by decide +kernel) rfl
theorem k_861 : Cond.fieldLink qm_R 45 "ScopeInterpreterModel" "frameOne" "[J" ∈ gw := gw_at 861 (by decide +kernel) rfl
theorem k_862 : Cond.fieldLink qm_R 48 "ScopeInterpreterModel" "frameOther" "[J" ∈ gw := gw_at 862 (by decide +kernel) rfl
theorem k_863 : Cond.fieldLink qm_R 51 "ScopeInterpreterModel" "frameAround" "[J" ∈ gw := gw_at 863 (by decide +kernel) rfl
theorem k_864 : Cond.fieldLink qm_R 54 "ScopeInterpreterModel" "frameBase" "[I" ∈ gw := gw_at 864 (by decide +kernel) rfl
theorem k_865 : Cond.fieldLink qm_R 57 "ScopeInterpreterModel" "results" "[J" ∈ gw := gw_at 865 (by decide +kernel) rfl
theorem k_866 : Cond.fieldLink qm_R 226 "ScopeInterpreterModel" "resultMany" "I" ∈ gw := gw_at 866 (by decide +kernel) rfl
theorem k_867 : Cond.fieldLink qm_R 60 "ScopeInterpreterModel" "treeLeft" "[J" ∈ gw := gw_at 867 (by decide +kernel) rfl
theorem k_868 : Cond.fieldLink qm_R 63 "ScopeInterpreterModel" "matchLeft" "[J" ∈ gw := gw_at 868 (by decide +kernel) rfl
theorem k_869 : Cond.fieldLink qm_R 66 "ScopeInterpreterModel" "isSeen" "[Z" ∈ gw := gw_at 869 (by decide +kernel) rfl
theorem k_870 : Cond.fieldLink qm_R 69 "ScopeInterpreterModel" "boundSymbol" "[I" ∈ gw := gw_at 870 (by decide +kernel) rfl
theorem k_871 : Cond.fieldLink qm_R 72 "ScopeInterpreterModel" "boundValue" "[J" ∈ gw := gw_at 871 (by decide +kernel) rfl
theorem k_872 : Cond.fieldLink qm_R 248 "ScopeInterpreterModel" "bound" "I" ∈ gw := gw_at 872 (by decide +kernel) rfl
theorem k_948 : Cond.instanceMethod qm_pushInteger_y ∈ gw := gw_at 948 (by decide +kernel) rfl
theorem k_949 : Cond.selects qm_R qm_pushInteger_y qm_pushInteger_y ∈ gw := gw_at 949 (by decide +kernel) rfl
theorem k_950 : Cond.code qm_pushInteger_y qm_pushInteger_c 3 (some .int) ∈ gw := gw_at 950 (by decide +kernel) rfl
theorem k_951 : Cond.constantLong qm_R 160 (-1000000000000000) ∈ gw := gw_at 951 (by decide +kernel) rfl
theorem k_952 : Cond.constantLong qm_R 162 (1000000000000000) ∈ gw := gw_at 952 (by decide +kernel) rfl
theorem k_953 : Cond.methodLink qm_R 164 qm_pushes_y ∈ gw := gw_at 953 (by decide +kernel) rfl
theorem k_955 : Cond.instanceMethod qm_pushes_y ∈ gw := gw_at 955 (by decide +kernel) rfl
theorem k_956 : Cond.code qm_pushes_y qm_pushes_c 3 (some .int) ∈ gw := gw_at 956 (by decide +kernel) rfl
theorem k_958 : Cond.instanceMethod qm_pushBoolean_y ∈ gw := gw_at 958 (by decide +kernel) rfl
theorem k_959 : Cond.selects qm_R qm_pushBoolean_y qm_pushBoolean_y ∈ gw := gw_at 959 (by decide +kernel) rfl
theorem k_960 : Cond.code qm_pushBoolean_y qm_pushBoolean_c 2 (some .int) ∈ gw := gw_at 960 (by decide +kernel) rfl
theorem k_961 : Cond.methodLink qm_R 167 qm_truth_y ∈ gw := gw_at 961 (by decide +kernel) rfl
theorem k_962 : Cond.static qm_truth_y ∈ gw := gw_at 962 (by decide +kernel) rfl
theorem k_963 : Cond.code qm_truth_y qm_truth_c 1 (some .long) ∈ gw := gw_at 963 (by decide +kernel) rfl
theorem k_965 : Cond.instanceMethod qm_pushSymbol_y ∈ gw := gw_at 965 (by decide +kernel) rfl
theorem k_966 : Cond.selects qm_R qm_pushSymbol_y qm_pushSymbol_y ∈ gw := gw_at 966 (by decide +kernel) rfl
theorem k_967 : Cond.code qm_pushSymbol_y qm_pushSymbol_c 2 (some .int) ∈ gw := gw_at 967 (by decide +kernel) rfl
theorem k_968 : Cond.constantLong qm_R 171 (99) ∈ gw := gw_at 968 (by decide +kernel) rfl
theorem k_970 : Cond.instanceMethod qm_pushEmpty_y ∈ gw := gw_at 970 (by decide +kernel) rfl
theorem k_971 : Cond.selects qm_R qm_pushEmpty_y qm_pushEmpty_y ∈ gw := gw_at 971 (by decide +kernel) rfl
theorem k_972 : Cond.code qm_pushEmpty_y qm_pushEmpty_c 2 (some .int) ∈ gw := gw_at 972 (by decide +kernel) rfl
theorem k_973 : Cond.constantLong qm_R 173 (8) ∈ gw := gw_at 973 (by decide +kernel) rfl
theorem k_974 : Cond.constantLong qm_R 175 (3) ∈ gw := gw_at 974 (by decide +kernel) rfl
theorem k_976 : Cond.instanceMethod qm_pushEnvironment_y ∈ gw := gw_at 976 (by decide +kernel) rfl
theorem k_977 : Cond.selects qm_R qm_pushEnvironment_y qm_pushEnvironment_y ∈ gw := gw_at 977 (by decide +kernel) rfl
theorem k_978 : Cond.code qm_pushEnvironment_y qm_pushEnvironment_c 1 (some .int) ∈ gw := gw_at 978 (by decide +kernel) rfl
theorem k_980 : Cond.instanceMethod qm_pushCopy_y ∈ gw := gw_at 980 (by decide +kernel) rfl
theorem k_981 : Cond.selects qm_R qm_pushCopy_y qm_pushCopy_y ∈ gw := gw_at 981 (by decide +kernel) rfl
theorem k_982 : Cond.code qm_pushCopy_y qm_pushCopy_c 3 (some .int) ∈ gw := gw_at 982 (by decide +kernel) rfl
theorem k_983 : Cond.methodLink qm_R 177 qm_depthBarred_y ∈ gw := gw_at 983 (by decide +kernel) rfl
theorem k_985 : Cond.instanceMethod qm_depthBarred_y ∈ gw := gw_at 985 (by decide +kernel) rfl
theorem k_986 : Cond.code qm_depthBarred_y qm_depthBarred_c 2 (some .int) ∈ gw := gw_at 986 (by decide +kernel) rfl
theorem k_987 : Cond.methodLink qm_R 181 qm_at_y ∈ gw := gw_at 987 (by decide +kernel) rfl
theorem k_989 : Cond.instanceMethod qm_at_y ∈ gw := gw_at 989 (by decide +kernel) rfl
theorem k_990 : Cond.code qm_at_y qm_at_c 2 (some .long) ∈ gw := gw_at 990 (by decide +kernel) rfl
theorem k_992 : Cond.instanceMethod qm_pushPart_y ∈ gw := gw_at 992 (by decide +kernel) rfl
theorem k_993 : Cond.selects qm_R qm_pushPart_y qm_pushPart_y ∈ gw := gw_at 993 (by decide +kernel) rfl
theorem k_994 : Cond.code qm_pushPart_y qm_pushPart_c 8 (some .int) ∈ gw := gw_at 994 (by decide +kernel) rfl
theorem k_995 : Cond.methodLink qm_R 151 qm_kindOf_y ∈ gw := gw_at 995 (by decide +kernel) rfl
theorem k_996 : Cond.static qm_kindOf_y ∈ gw := gw_at 996 (by decide +kernel) rfl
theorem k_997 : Cond.code qm_kindOf_y qm_kindOf_c 2 (some .int) ∈ gw := gw_at 997 (by decide +kernel) rfl
theorem k_998 : Cond.constantLong qm_R 82 (15) ∈ gw := gw_at 998 (by decide +kernel) rfl
theorem k_999 : Cond.methodLink qm_R 157 qm_carOf_y ∈ gw := gw_at 999 (by decide +kernel) rfl
theorem k_1001 : Cond.instanceMethod qm_carOf_y ∈ gw := gw_at 1001 (by decide +kernel) rfl
theorem k_1002 : Cond.code qm_carOf_y qm_carOf_c 3 (some .long) ∈ gw := gw_at 1002 (by decide +kernel) rfl
theorem k_1003 : Cond.methodLink qm_R 124 qm_indexOf_y ∈ gw := gw_at 1003 (by decide +kernel) rfl
theorem k_1005 : Cond.instanceMethod qm_indexOf_y ∈ gw := gw_at 1005 (by decide +kernel) rfl
theorem k_1006 : Cond.code qm_indexOf_y qm_indexOf_c 3 (some .int) ∈ gw := gw_at 1006 (by decide +kernel) rfl
theorem k_1007 : Cond.methodLink qm_R 120 qm_whatOf_y ∈ gw := gw_at 1007 (by decide +kernel) rfl
theorem k_1008 : Cond.static qm_whatOf_y ∈ gw := gw_at 1008 (by decide +kernel) rfl
theorem k_1009 : Cond.code qm_whatOf_y qm_whatOf_c 2 (some .long) ∈ gw := gw_at 1009 (by decide +kernel) rfl
theorem k_1010 : Cond.methodLink qm_R 154 qm_cdrOf_y ∈ gw := gw_at 1010 (by decide +kernel) rfl
theorem k_1012 : Cond.instanceMethod qm_cdrOf_y ∈ gw := gw_at 1012 (by decide +kernel) rfl
theorem k_1013 : Cond.code qm_cdrOf_y qm_cdrOf_c 3 (some .long) ∈ gw := gw_at 1013 (by decide +kernel) rfl
theorem k_1014 : Cond.methodLink qm_R 185 qm_underOf_y ∈ gw := gw_at 1014 (by decide +kernel) rfl
theorem k_1016 : Cond.instanceMethod qm_underOf_y ∈ gw := gw_at 1016 (by decide +kernel) rfl
theorem k_1017 : Cond.code qm_underOf_y qm_underOf_c 3 (some .long) ∈ gw := gw_at 1017 (by decide +kernel) rfl
theorem k_1018 : Cond.methodLink qm_R 144 qm_parentOf_y ∈ gw := gw_at 1018 (by decide +kernel) rfl
theorem k_1020 : Cond.instanceMethod qm_parentOf_y ∈ gw := gw_at 1020 (by decide +kernel) rfl
theorem k_1021 : Cond.code qm_parentOf_y qm_parentOf_c 3 (some .long) ∈ gw := gw_at 1021 (by decide +kernel) rfl
theorem k_1022 : Cond.constantLong qm_R 128 (-9) ∈ gw := gw_at 1022 (by decide +kernel) rfl
theorem k_1024 : Cond.instanceMethod qm_pushBinding_y ∈ gw := gw_at 1024 (by decide +kernel) rfl
theorem k_1025 : Cond.selects qm_R qm_pushBinding_y qm_pushBinding_y ∈ gw := gw_at 1025 (by decide +kernel) rfl
theorem k_1026 : Cond.code qm_pushBinding_y qm_pushBinding_c 3 (some .int) ∈ gw := gw_at 1026 (by decide +kernel) rfl
theorem k_1027 : Cond.methodLink qm_R 188 qm_finds_y ∈ gw := gw_at 1027 (by decide +kernel) rfl
theorem k_1029 : Cond.instanceMethod qm_finds_y ∈ gw := gw_at 1029 (by decide +kernel) rfl
theorem k_1030 : Cond.code qm_finds_y qm_finds_c 6 (some .boolean) ∈ gw := gw_at 1030 (by decide +kernel) rfl
theorem k_1031 : Cond.methodLink qm_R 140 qm_findsOwn_y ∈ gw := gw_at 1031 (by decide +kernel) rfl
theorem k_1033 : Cond.instanceMethod qm_findsOwn_y ∈ gw := gw_at 1033 (by decide +kernel) rfl
theorem k_1034 : Cond.code qm_findsOwn_y qm_findsOwn_c 4 (some .boolean) ∈ gw := gw_at 1034 (by decide +kernel) rfl
theorem k_1036 : Cond.instanceMethod qm_makePair_y ∈ gw := gw_at 1036 (by decide +kernel) rfl
theorem k_1037 : Cond.selects qm_R qm_makePair_y qm_makePair_y ∈ gw := gw_at 1037 (by decide +kernel) rfl
theorem k_1038 : Cond.code qm_makePair_y qm_makePair_c 3 (some .int) ∈ gw := gw_at 1038 (by decide +kernel) rfl
theorem k_1039 : Cond.methodLink qm_R 147 qm_isFull_y ∈ gw := gw_at 1039 (by decide +kernel) rfl
theorem k_1041 : Cond.instanceMethod qm_isFull_y ∈ gw := gw_at 1041 (by decide +kernel) rfl
theorem k_1042 : Cond.code qm_isFull_y qm_isFull_c 1 (some .boolean) ∈ gw := gw_at 1042 (by decide +kernel) rfl
theorem k_1043 : Cond.methodLink qm_R 130 qm_adds_y ∈ gw := gw_at 1043 (by decide +kernel) rfl
theorem k_1045 : Cond.instanceMethod qm_adds_y ∈ gw := gw_at 1045 (by decide +kernel) rfl
theorem k_1046 : Cond.code qm_adds_y qm_adds_c 6 (some .long) ∈ gw := gw_at 1046 (by decide +kernel) rfl
theorem k_1048 : Cond.instanceMethod qm_makeList_y ∈ gw := gw_at 1048 (by decide +kernel) rfl
theorem k_1049 : Cond.selects qm_R qm_makeList_y qm_makeList_y ∈ gw := gw_at 1049 (by decide +kernel) rfl
theorem k_1050 : Cond.code qm_makeList_y qm_makeList_c 5 (some .int) ∈ gw := gw_at 1050 (by decide +kernel) rfl
theorem k_1051 : Cond.constantLong qm_R 191 (40) ∈ gw := gw_at 1051 (by decide +kernel) rfl
theorem k_1053 : Cond.instanceMethod qm_drop_y ∈ gw := gw_at 1053 (by decide +kernel) rfl
theorem k_1054 : Cond.selects qm_R qm_drop_y qm_drop_y ∈ gw := gw_at 1054 (by decide +kernel) rfl
theorem k_1055 : Cond.code qm_drop_y qm_drop_c 2 (some .int) ∈ gw := gw_at 1055 (by decide +kernel) rfl
theorem k_1057 : Cond.instanceMethod qm_reset_y ∈ gw := gw_at 1057 (by decide +kernel) rfl
theorem k_1058 : Cond.selects qm_R qm_reset_y qm_reset_y ∈ gw := gw_at 1058 (by decide +kernel) rfl
theorem k_1059 : Cond.code qm_reset_y qm_reset_c 2 (some .int) ∈ gw := gw_at 1059 (by decide +kernel) rfl
theorem k_1061 : Cond.instanceMethod qm_size_y ∈ gw := gw_at 1061 (by decide +kernel) rfl
theorem k_1062 : Cond.selects qm_R qm_size_y qm_size_y ∈ gw := gw_at 1062 (by decide +kernel) rfl
theorem k_1063 : Cond.code qm_size_y qm_size_c 1 (some .int) ∈ gw := gw_at 1063 (by decide +kernel) rfl
theorem k_1065 : Cond.instanceMethod qm_kind_y ∈ gw := gw_at 1065 (by decide +kernel) rfl
theorem k_1066 : Cond.selects qm_R qm_kind_y qm_kind_y ∈ gw := gw_at 1066 (by decide +kernel) rfl
theorem k_1067 : Cond.code qm_kind_y qm_kind_c 3 (some .int) ∈ gw := gw_at 1067 (by decide +kernel) rfl
theorem k_1069 : Cond.instanceMethod qm_value_y ∈ gw := gw_at 1069 (by decide +kernel) rfl
theorem k_1070 : Cond.selects qm_R qm_value_y qm_value_y ∈ gw := gw_at 1070 (by decide +kernel) rfl
theorem k_1071 : Cond.code qm_value_y qm_value_c 2 (some .long) ∈ gw := gw_at 1071 (by decide +kernel) rfl
theorem k_1072 : Cond.methodLink qm_R 193 qm_lost_y ∈ gw := gw_at 1072 (by decide +kernel) rfl
theorem k_1073 : Cond.static qm_lost_y ∈ gw := gw_at 1073 (by decide +kernel) rfl
theorem k_1074 : Cond.code qm_lost_y qm_lost_c 0 (some .long) ∈ gw := gw_at 1074 (by decide +kernel) rfl
theorem k_1075 : Cond.constantLong qm_R 78 (-9223372036854775808) ∈ gw := gw_at 1075 (by decide +kernel) rfl
theorem k_1077 : Cond.instanceMethod qm_areSame_y ∈ gw := gw_at 1077 (by decide +kernel) rfl
theorem k_1078 : Cond.selects qm_R qm_areSame_y qm_areSame_y ∈ gw := gw_at 1078 (by decide +kernel) rfl
theorem k_1079 : Cond.code qm_areSame_y qm_areSame_c 3 (some .int) ∈ gw := gw_at 1079 (by decide +kernel) rfl
theorem k_1081 : Cond.instanceMethod qm_length_y ∈ gw := gw_at 1081 (by decide +kernel) rfl
theorem k_1082 : Cond.selects qm_R qm_length_y qm_length_y ∈ gw := gw_at 1082 (by decide +kernel) rfl
theorem k_1083 : Cond.code qm_length_y qm_length_c 4 (some .int) ∈ gw := gw_at 1083 (by decide +kernel) rfl
theorem k_1084 : Cond.methodLink qm_R 197 qm_longOf_y ∈ gw := gw_at 1084 (by decide +kernel) rfl
theorem k_1086 : Cond.instanceMethod qm_longOf_y ∈ gw := gw_at 1086 (by decide +kernel) rfl
theorem k_1087 : Cond.code qm_longOf_y qm_longOf_c 6 (some .int) ∈ gw := gw_at 1087 (by decide +kernel) rfl
theorem k_1089 : Cond.instanceMethod qm_bindingCount_y ∈ gw := gw_at 1089 (by decide +kernel) rfl
theorem k_1090 : Cond.selects qm_R qm_bindingCount_y qm_bindingCount_y ∈ gw := gw_at 1090 (by decide +kernel) rfl
theorem k_1091 : Cond.code qm_bindingCount_y qm_bindingCount_c 7 (some .int) ∈ gw := gw_at 1091 (by decide +kernel) rfl
theorem k_1093 : Cond.instanceMethod qm_evaluate_y ∈ gw := gw_at 1093 (by decide +kernel) rfl
theorem k_1094 : Cond.selects qm_R qm_evaluate_y qm_evaluate_y ∈ gw := gw_at 1094 (by decide +kernel) rfl
theorem k_1095 : Cond.code qm_evaluate_y qm_evaluate_c 2 (some .int) ∈ gw := gw_at 1095 (by decide +kernel) rfl
theorem k_1096 : Cond.methodLink qm_R 212 qm_goesTo_y ∈ gw := gw_at 1096 (by decide +kernel) rfl
theorem k_1098 : Cond.instanceMethod qm_goesTo_y ∈ gw := gw_at 1098 (by decide +kernel) rfl
theorem k_1099 : Cond.code qm_goesTo_y qm_goesTo_c 5 (some .int) ∈ gw := gw_at 1099 (by decide +kernel) rfl
theorem k_1100 : Cond.methodLink qm_R 320 qm_runs_y ∈ gw := gw_at 1100 (by decide +kernel) rfl
theorem k_1102 : Cond.instanceMethod qm_runs_y ∈ gw := gw_at 1102 (by decide +kernel) rfl
theorem k_1103 : Cond.code qm_runs_y qm_runs_c 2 (some .int) ∈ gw := gw_at 1103 (by decide +kernel) rfl
theorem k_1104 : Cond.methodLink qm_R 311 qm_evaluatesOne_y ∈ gw := gw_at 1104 (by decide +kernel) rfl
theorem k_1106 : Cond.instanceMethod qm_evaluatesOne_y ∈ gw := gw_at 1106 (by decide +kernel) rfl
theorem k_1107 : Cond.code qm_evaluatesOne_y qm_evaluatesOne_c 2 (some .int) ∈ gw := gw_at 1107 (by decide +kernel) rfl
theorem k_1108 : Cond.methodLink qm_R 216 qm_goesWith_y ∈ gw := gw_at 1108 (by decide +kernel) rfl
theorem k_1110 : Cond.instanceMethod qm_goesWith_y ∈ gw := gw_at 1110 (by decide +kernel) rfl
theorem k_1111 : Cond.code qm_goesWith_y qm_goesWith_c 11 (some .int) ∈ gw := gw_at 1111 (by decide +kernel) rfl
theorem k_1112 : Cond.methodLink qm_R 220 qm_gives_y ∈ gw := gw_at 1112 (by decide +kernel) rfl
theorem k_1114 : Cond.instanceMethod qm_gives_y ∈ gw := gw_at 1114 (by decide +kernel) rfl
theorem k_1115 : Cond.code qm_gives_y qm_gives_c 3 (some .int) ∈ gw := gw_at 1115 (by decide +kernel) rfl
theorem k_1116 : Cond.methodLink qm_R 314 qm_combinesOne_y ∈ gw := gw_at 1116 (by decide +kernel) rfl
theorem k_1118 : Cond.instanceMethod qm_combinesOne_y ∈ gw := gw_at 1118 (by decide +kernel) rfl
theorem k_1119 : Cond.code qm_combinesOne_y qm_combinesOne_c 2 (some .int) ∈ gw := gw_at 1119 (by decide +kernel) rfl
theorem k_1120 : Cond.methodLink qm_R 237 qm_goesOn_y ∈ gw := gw_at 1120 (by decide +kernel) rfl
theorem k_1122 : Cond.instanceMethod qm_goesOn_y ∈ gw := gw_at 1122 (by decide +kernel) rfl
theorem k_1123 : Cond.code qm_goesOn_y qm_goesOn_c 11 (some .int) ∈ gw := gw_at 1123 (by decide +kernel) rfl
theorem k_1124 : Cond.methodLink qm_R 229 qm_combines_y ∈ gw := gw_at 1124 (by decide +kernel) rfl
theorem k_1126 : Cond.instanceMethod qm_combines_y ∈ gw := gw_at 1126 (by decide +kernel) rfl
theorem k_1127 : Cond.code qm_combines_y qm_combines_c 7 (some .int) ∈ gw := gw_at 1127 (by decide +kernel) rfl
theorem k_1128 : Cond.methodLink qm_R 304 qm_combinesPrimitive_y ∈ gw := gw_at 1128 (by decide +kernel) rfl
theorem k_1130 : Cond.instanceMethod qm_combinesPrimitive_y ∈ gw := gw_at 1130 (by decide +kernel) rfl
theorem k_1131 : Cond.code qm_combinesPrimitive_y qm_combinesPrimitive_c 6 (some .int) ∈ gw := gw_at 1131 (by decide +kernel) rfl
theorem k_1132 : Cond.methodLink qm_R 286 qm_combinesPart_y ∈ gw := gw_at 1132 (by decide +kernel) rfl
theorem k_1134 : Cond.instanceMethod qm_combinesPart_y ∈ gw := gw_at 1134 (by decide +kernel) rfl
theorem k_1135 : Cond.code qm_combinesPart_y qm_combinesPart_c 9 (some .int) ∈ gw := gw_at 1135 (by decide +kernel) rfl
theorem k_1136 : Cond.methodLink qm_R 262 qm_elementOf_y ∈ gw := gw_at 1136 (by decide +kernel) rfl
theorem k_1138 : Cond.instanceMethod qm_elementOf_y ∈ gw := gw_at 1138 (by decide +kernel) rfl
theorem k_1139 : Cond.code qm_elementOf_y qm_elementOf_c 7 (some .long) ∈ gw := gw_at 1139 (by decide +kernel) rfl
theorem k_1140 : Cond.methodLink qm_R 266 qm_makesOperative_y ∈ gw := gw_at 1140 (by decide +kernel) rfl
theorem k_1142 : Cond.instanceMethod qm_makesOperative_y ∈ gw := gw_at 1142 (by decide +kernel) rfl
theorem k_1143 : Cond.code qm_makesOperative_y qm_makesOperative_c 10 (some .int) ∈ gw := gw_at 1143 (by decide +kernel) rfl
theorem k_1144 : Cond.methodLink qm_R 258 qm_isTree_y ∈ gw := gw_at 1144 (by decide +kernel) rfl
theorem k_1146 : Cond.instanceMethod qm_isTree_y ∈ gw := gw_at 1146 (by decide +kernel) rfl
theorem k_1147 : Cond.code qm_isTree_y qm_isTree_c 8 (some .boolean) ∈ gw := gw_at 1147 (by decide +kernel) rfl
theorem k_1148 : Cond.methodLink qm_R 270 qm_isSymbol_y ∈ gw := gw_at 1148 (by decide +kernel) rfl
theorem k_1149 : Cond.static qm_isSymbol_y ∈ gw := gw_at 1149 (by decide +kernel) rfl
theorem k_1150 : Cond.code qm_isSymbol_y qm_isSymbol_c 2 (some .boolean) ∈ gw := gw_at 1150 (by decide +kernel) rfl
theorem k_1151 : Cond.methodLink qm_R 245 qm_beginsWith_y ∈ gw := gw_at 1151 (by decide +kernel) rfl
theorem k_1153 : Cond.instanceMethod qm_beginsWith_y ∈ gw := gw_at 1153 (by decide +kernel) rfl
theorem k_1154 : Cond.code qm_beginsWith_y qm_beginsWith_c 5 (some .int) ∈ gw := gw_at 1154 (by decide +kernel) rfl
theorem k_1155 : Cond.methodLink qm_R 290 qm_reckons_y ∈ gw := gw_at 1155 (by decide +kernel) rfl
theorem k_1157 : Cond.instanceMethod qm_reckons_y ∈ gw := gw_at 1157 (by decide +kernel) rfl
theorem k_1158 : Cond.code qm_reckons_y qm_reckons_c 8 (some .int) ∈ gw := gw_at 1158 (by decide +kernel) rfl
theorem k_1159 : Cond.methodLink qm_R 275 qm_times_y ∈ gw := gw_at 1159 (by decide +kernel) rfl
theorem k_1160 : Cond.static qm_times_y ∈ gw := gw_at 1160 (by decide +kernel) rfl
theorem k_1161 : Cond.code qm_times_y qm_times_c 8 (some .long) ∈ gw := gw_at 1161 (by decide +kernel) rfl
theorem k_1162 : Cond.constantLong qm_R 273 (1000000000000001) ∈ gw := gw_at 1162 (by decide +kernel) rfl
theorem k_1163 : Cond.methodLink qm_R 279 qm_isIn_y ∈ gw := gw_at 1163 (by decide +kernel) rfl
theorem k_1164 : Cond.static qm_isIn_y ∈ gw := gw_at 1164 (by decide +kernel) rfl
theorem k_1165 : Cond.code qm_isIn_y qm_isIn_c 2 (some .boolean) ∈ gw := gw_at 1165 (by decide +kernel) rfl
theorem k_1166 : Cond.methodLink qm_R 294 qm_createsEnvironment_y ∈ gw := gw_at 1166 (by decide +kernel) rfl
theorem k_1168 : Cond.instanceMethod qm_createsEnvironment_y ∈ gw := gw_at 1168 (by decide +kernel) rfl
theorem k_1169 : Cond.code qm_createsEnvironment_y qm_createsEnvironment_c 2 (some .int) ∈ gw := gw_at 1169 (by decide +kernel) rfl
theorem k_1170 : Cond.methodLink qm_R 255 qm_addsEnvironment_y ∈ gw := gw_at 1170 (by decide +kernel) rfl
theorem k_1172 : Cond.instanceMethod qm_addsEnvironment_y ∈ gw := gw_at 1172 (by decide +kernel) rfl
theorem k_1173 : Cond.code qm_addsEnvironment_y qm_addsEnvironment_c 3 (some .long) ∈ gw := gw_at 1173 (by decide +kernel) rfl
theorem k_1174 : Cond.methodLink qm_R 297 qm_combinesTwo_y ∈ gw := gw_at 1174 (by decide +kernel) rfl
theorem k_1176 : Cond.instanceMethod qm_combinesTwo_y ∈ gw := gw_at 1176 (by decide +kernel) rfl
theorem k_1177 : Cond.code qm_combinesTwo_y qm_combinesTwo_c 9 (some .int) ∈ gw := gw_at 1177 (by decide +kernel) rfl
theorem k_1178 : Cond.methodLink qm_R 282 qm_creates_y ∈ gw := gw_at 1178 (by decide +kernel) rfl
theorem k_1180 : Cond.instanceMethod qm_creates_y ∈ gw := gw_at 1180 (by decide +kernel) rfl
theorem k_1181 : Cond.code qm_creates_y qm_creates_c 6 (some .int) ∈ gw := gw_at 1181 (by decide +kernel) rfl
theorem k_1182 : Cond.methodLink qm_R 300 qm_combinesSingle_y ∈ gw := gw_at 1182 (by decide +kernel) rfl
theorem k_1184 : Cond.instanceMethod qm_combinesSingle_y ∈ gw := gw_at 1184 (by decide +kernel) rfl
theorem k_1185 : Cond.code qm_combinesSingle_y qm_combinesSingle_c 5 (some .int) ∈ gw := gw_at 1185 (by decide +kernel) rfl
theorem k_1186 : Cond.methodLink qm_R 307 qm_combinesCompound_y ∈ gw := gw_at 1186 (by decide +kernel) rfl
theorem k_1188 : Cond.instanceMethod qm_combinesCompound_y ∈ gw := gw_at 1188 (by decide +kernel) rfl
theorem k_1189 : Cond.code qm_combinesCompound_y qm_combinesCompound_c 7 (some .int) ∈ gw := gw_at 1189 (by decide +kernel) rfl
theorem k_1190 : Cond.methodLink qm_R 251 qm_matches_y ∈ gw := gw_at 1190 (by decide +kernel) rfl
theorem k_1192 : Cond.instanceMethod qm_matches_y ∈ gw := gw_at 1192 (by decide +kernel) rfl
theorem k_1193 : Cond.code qm_matches_y qm_matches_c 11 (some .boolean) ∈ gw := gw_at 1193 (by decide +kernel) rfl
theorem k_1194 : Cond.methodLink qm_R 233 qm_binds_y ∈ gw := gw_at 1194 (by decide +kernel) rfl
theorem k_1196 : Cond.instanceMethod qm_binds_y ∈ gw := gw_at 1196 (by decide +kernel) rfl
theorem k_1197 : Cond.code qm_binds_y qm_binds_c 8 (some .boolean) ∈ gw := gw_at 1197 (by decide +kernel) rfl
theorem k_1198 : Cond.methodLink qm_R 317 qm_takesResult_y ∈ gw := gw_at 1198 (by decide +kernel) rfl
theorem k_1200 : Cond.instanceMethod qm_takesResult_y ∈ gw := gw_at 1200 (by decide +kernel) rfl
theorem k_1201 : Cond.code qm_takesResult_y qm_takesResult_c 10 (some .int) ∈ gw := gw_at 1201 (by decide +kernel) rfl
theorem k_1202 : Cond.methodLink qm_R 241 qm_givesBound_y ∈ gw := gw_at 1202 (by decide +kernel) rfl
theorem k_1204 : Cond.instanceMethod qm_givesBound_y ∈ gw := gw_at 1204 (by decide +kernel) rfl
theorem k_1205 : Cond.code qm_givesBound_y qm_givesBound_c 6 (some .int) ∈ gw := gw_at 1205 (by decide +kernel) rfl
theorem k_1207 : Cond.instanceMethod qm_useEnvironment_y ∈ gw := gw_at 1207 (by decide +kernel) rfl
theorem k_1208 : Cond.selects qm_R qm_useEnvironment_y qm_useEnvironment_y ∈ gw := gw_at 1208 (by decide +kernel) rfl
theorem k_1209 : Cond.code qm_useEnvironment_y qm_useEnvironment_c 1 (some .int) ∈ gw := gw_at 1209 (by decide +kernel) rfl
theorem k_1211 : Cond.instanceMethod qm_useUser_y ∈ gw := gw_at 1211 (by decide +kernel) rfl
theorem k_1212 : Cond.selects qm_R qm_useUser_y qm_useUser_y ∈ gw := gw_at 1212 (by decide +kernel) rfl
theorem k_1213 : Cond.code qm_useUser_y qm_useUser_c 2 (some .int) ∈ gw := gw_at 1213 (by decide +kernel) rfl
theorem k_1215 : Cond.instanceMethod qm_setLimit_y ∈ gw := gw_at 1215 (by decide +kernel) rfl
theorem k_1216 : Cond.selects qm_R qm_setLimit_y qm_setLimit_y ∈ gw := gw_at 1216 (by decide +kernel) rfl
theorem k_1217 : Cond.code qm_setLimit_y qm_setLimit_c 3 (some .int) ∈ gw := gw_at 1217 (by decide +kernel) rfl
theorem k_1218 : Cond.constantLong qm_R 323 (1500) ∈ gw := gw_at 1218 (by decide +kernel) rfl
theorem k_1220 : Cond.instanceMethod qm_latest_y ∈ gw := gw_at 1220 (by decide +kernel) rfl
theorem k_1221 : Cond.selects qm_R qm_latest_y qm_latest_y ∈ gw := gw_at 1221 (by decide +kernel) rfl
theorem k_1222 : Cond.code qm_latest_y qm_latest_c 2 (some .int) ∈ gw := gw_at 1222 (by decide +kernel) rfl
theorem k_1224 : Cond.instanceMethod qm_heapSize_y ∈ gw := gw_at 1224 (by decide +kernel) rfl
theorem k_1225 : Cond.selects qm_R qm_heapSize_y qm_heapSize_y ∈ gw := gw_at 1225 (by decide +kernel) rfl
theorem k_1226 : Cond.code qm_heapSize_y qm_heapSize_c 1 (some .int) ∈ gw := gw_at 1226 (by decide +kernel) rfl
theorem kc_b_m12 : (Int8.ofInt (-12)).toInt32 = (-12 : Int32) := by decide
theorem kc_b_m11 : (Int8.ofInt (-11)).toInt32 = (-11 : Int32) := by decide
theorem kc_b_m10 : (Int8.ofInt (-10)).toInt32 = (-10 : Int32) := by decide
theorem kc_b_m9 : (Int8.ofInt (-9)).toInt32 = (-9 : Int32) := by decide
theorem kc_b_m8 : (Int8.ofInt (-8)).toInt32 = (-8 : Int32) := by decide
theorem kc_b_m7 : (Int8.ofInt (-7)).toInt32 = (-7 : Int32) := by decide
theorem kc_b_m6 : (Int8.ofInt (-6)).toInt32 = (-6 : Int32) := by decide
theorem kc_b_m5 : (Int8.ofInt (-5)).toInt32 = (-5 : Int32) := by decide
theorem kc_b_m4 : (Int8.ofInt (-4)).toInt32 = (-4 : Int32) := by decide
theorem kc_b_m3 : (Int8.ofInt (-3)).toInt32 = (-3 : Int32) := by decide
theorem kc_b_m2 : (Int8.ofInt (-2)).toInt32 = (-2 : Int32) := by decide
theorem kc_b_6 : (Int8.ofInt (6)).toInt32 = (6 : Int32) := by decide
theorem kc_b_7 : (Int8.ofInt (7)).toInt32 = (7 : Int32) := by decide
theorem kc_b_8 : (Int8.ofInt (8)).toInt32 = (8 : Int32) := by decide
theorem kc_b_10 : (Int8.ofInt (10)).toInt32 = (10 : Int32) := by decide
theorem kc_b_11 : (Int8.ofInt (11)).toInt32 = (11 : Int32) := by decide
theorem kc_b_13 : (Int8.ofInt (13)).toInt32 = (13 : Int32) := by decide
theorem kc_b_16 : (Int8.ofInt (16)).toInt32 = (16 : Int32) := by decide
theorem kc_b_20 : (Int8.ofInt (20)).toInt32 = (20 : Int32) := by decide
theorem kc_b_23 : (Int8.ofInt (23)).toInt32 = (23 : Int32) := by decide
theorem kc_b_24 : (Int8.ofInt (24)).toInt32 = (24 : Int32) := by decide
theorem kc_b_25 : (Int8.ofInt (25)).toInt32 = (25 : Int32) := by decide
theorem kc_b_40 : (Int8.ofInt (40)).toInt32 = (40 : Int32) := by decide
theorem kc_b_50 : (Int8.ofInt (50)).toInt32 = (50 : Int32) := by decide
theorem kc_b_100 : (Int8.ofInt (100)).toInt32 = (100 : Int32) := by decide
theorem kc_b_127 : (Int8.ofInt (127)).toInt32 = (127 : Int32) := by decide
theorem kc_i_m1 : Int32.ofInt (-1) = (-1 : Int32) := by decide
theorem kc_i_0 : Int32.ofInt (0) = (0 : Int32) := by decide
theorem kc_i_1 : Int32.ofInt (1) = (1 : Int32) := by decide
theorem kc_i_2 : Int32.ofInt (2) = (2 : Int32) := by decide
theorem kc_i_3 : Int32.ofInt (3) = (3 : Int32) := by decide
theorem kc_i_4 : Int32.ofInt (4) = (4 : Int32) := by decide
theorem kc_i_5 : Int32.ofInt (5) = (5 : Int32) := by decide
theorem kc_inc_m1 (x : Int32) : x + Int32.ofInt (-1) = x + (-1 : Int32) := by rw [show Int32.ofInt (-1) = (-1 : Int32) from by decide]
theorem kc_inc_1 (x : Int32) : x + Int32.ofInt (1) = x + (1 : Int32) := by rw [show Int32.ofInt (1) = (1 : Int32) from by decide]
theorem kc_inc_2 (x : Int32) : x + Int32.ofInt (2) = x + (2 : Int32) := by rw [show Int32.ofInt (2) = (2 : Int32) from by decide]
theorem kc_l_0 : Int64.ofNat ((0 : Fin 2) : Nat) = (0 : Int64) := by decide
theorem kc_l_1 : Int64.ofNat ((1 : Fin 2) : Nat) = (1 : Int64) := by decide
theorem kc_s_201 : (Int16.ofInt (201)).toInt32 = (201 : Int32) := by decide
theorem kc_s_300 : (Int16.ofInt (300)).toInt32 = (300 : Int32) := by decide
theorem kc_s_1000 : (Int16.ofInt (1000)).toInt32 = (1000 : Int32) := by decide
theorem kc_s_1500 : (Int16.ofInt (1500)).toInt32 = (1500 : Int32) := by decide
theorem kc_s_4000 : (Int16.ofInt (4000)).toInt32 = (4000 : Int32) := by decide
theorem kc_s_4100 : (Int16.ofInt (4100)).toInt32 = (4100 : Int32) := by decide
theorem kc_shl_4 (x : Int64) : x <<< ((4 : Int32).toInt64 &&& 63) = x <<< 4 := by rw [show (((4 : Int32).toInt64 &&& 63) : Int64) = 4 from by decide]
theorem kc_shl_7 (x : Int64) : x <<< ((7 : Int32).toInt64 &&& 63) = x <<< 7 := by rw [show (((7 : Int32).toInt64 &&& 63) : Int64) = 7 from by decide]
theorem kc_shl_13 (x : Int64) : x <<< ((13 : Int32).toInt64 &&& 63) = x <<< 13 := by rw [show (((13 : Int32).toInt64 &&& 63) : Int64) = 13 from by decide]
theorem kc_shr_4 (x : Int64) : x >>> ((4 : Int32).toInt64 &&& 63) = x >>> 4 := by rw [show (((4 : Int32).toInt64 &&& 63) : Int64) = 4 from by decide]
theorem kc_shr_7 (x : Int64) : x >>> ((7 : Int32).toInt64 &&& 63) = x >>> 7 := by rw [show (((7 : Int32).toInt64 &&& 63) : Int64) = 7 from by decide]
theorem kc_shr_13 (x : Int64) : x >>> ((13 : Int32).toInt64 &&& 63) = x >>> 13 := by rw [show (((13 : Int32).toInt64 &&& 63) : Int64) = 13 from by decide]
theorem kc_shr_20 (x : Int64) : x >>> ((20 : Int32).toInt64 &&& 63) = x >>> 20 := by rw [show (((20 : Int32).toInt64 &&& 63) : Int64) = 20 from by decide]
end
section
/-! decoded instructions -/
theorem d_qh_write_0 : decode qh_write_c 0 = .ok (.iload_n 1, 1) := by decide +kernel
theorem d_qh_write_1 : decode qh_write_c 1 = .ok (.ifCond .lt 25, 3) := by decide +kernel
theorem d_qh_write_4 : decode qh_write_c 4 = .ok (.iload_n 1, 1) := by decide +kernel
theorem d_qh_write_5 : decode qh_write_c 5 = .ok (.sipush 4100, 3) := by decide +kernel
theorem d_qh_write_8 : decode qh_write_c 8 = .ok (.if_icmp .ge 18, 3) := by decide +kernel
theorem d_qh_write_11 : decode qh_write_c 11 = .ok (.aload_n 0, 1) := by decide +kernel
theorem d_qh_write_12 : decode qh_write_c 12 = .ok (.getfield 9, 3) := by decide +kernel
theorem d_qh_write_15 : decode qh_write_c 15 = .ok (.iload_n 1, 1) := by decide +kernel
theorem d_qh_write_16 : decode qh_write_c 16 = .ok (.lload_n 2, 1) := by decide +kernel
theorem d_qh_write_17 : decode qh_write_c 17 = .ok (.lastore, 1) := by decide +kernel
theorem d_qh_write_18 : decode qh_write_c 18 = .ok (.aload_n 0, 1) := by decide +kernel
theorem d_qh_write_19 : decode qh_write_c 19 = .ok (.getfield 13, 3) := by decide +kernel
theorem d_qh_write_22 : decode qh_write_c 22 = .ok (.iload_n 1, 1) := by decide +kernel
theorem d_qh_write_23 : decode qh_write_c 23 = .ok (.lload 4, 2) := by decide +kernel
theorem d_qh_write_25 : decode qh_write_c 25 = .ok (.lastore, 1) := by decide +kernel
theorem d_qh_write_26 : decode qh_write_c 26 = .ok (.return_, 1) := by decide +kernel
theorem d_qw_make_0 : decode qw_make_c 0 = .ok (.lload_n 1, 1) := by decide +kernel
theorem d_qw_make_1 : decode qw_make_c 1 = .ok (.iconst 4, 1) := by decide +kernel
theorem d_qw_make_2 : decode qw_make_c 2 = .ok (.lshl, 1) := by decide +kernel
theorem d_qw_make_3 : decode qw_make_c 3 = .ok (.iload_n 0, 1) := by decide +kernel
theorem d_qw_make_4 : decode qw_make_c 4 = .ok (.i2l, 1) := by decide +kernel
theorem d_qw_make_5 : decode qw_make_c 5 = .ok (.lor, 1) := by decide +kernel
theorem d_qw_make_6 : decode qw_make_c 6 = .ok (.lreturn, 1) := by decide +kernel
theorem d_qh_secondAt_0 : decode qh_secondAt_c 0 = .ok (.iload_n 1, 1) := by decide +kernel
theorem d_qh_secondAt_1 : decode qh_secondAt_c 1 = .ok (.ifCond .lt 19, 3) := by decide +kernel
theorem d_qh_secondAt_4 : decode qh_secondAt_c 4 = .ok (.iload_n 1, 1) := by decide +kernel
theorem d_qh_secondAt_5 : decode qh_secondAt_c 5 = .ok (.sipush 4100, 3) := by decide +kernel
theorem d_qh_secondAt_8 : decode qh_secondAt_c 8 = .ok (.if_icmp .ge 12, 3) := by decide +kernel
theorem d_qh_secondAt_11 : decode qh_secondAt_c 11 = .ok (.aload_n 0, 1) := by decide +kernel
theorem d_qh_secondAt_12 : decode qh_secondAt_c 12 = .ok (.getfield 13, 3) := by decide +kernel
theorem d_qh_secondAt_15 : decode qh_secondAt_c 15 = .ok (.iload_n 1, 1) := by decide +kernel
theorem d_qh_secondAt_16 : decode qh_secondAt_c 16 = .ok (.laload, 1) := by decide +kernel
theorem d_qh_secondAt_17 : decode qh_secondAt_c 17 = .ok (.goto 6, 3) := by decide +kernel
theorem d_qh_secondAt_20 : decode qh_secondAt_c 20 = .ok (.ldc2_w 47, 3) := by decide +kernel
theorem d_qh_secondAt_23 : decode qh_secondAt_c 23 = .ok (.lreturn, 1) := by decide +kernel
theorem d_qh_latestBindingOf_0 : decode qh_latestBindingOf_c 0 = .ok (.aload_n 0, 1) := by decide +kernel
theorem d_qh_latestBindingOf_1 : decode qh_latestBindingOf_c 1 = .ok (.iload_n 1, 1) := by decide +kernel
theorem d_qh_latestBindingOf_2 : decode qh_latestBindingOf_c 2 = .ok (.invokevirtual 61, 3) := by decide +kernel
theorem d_qh_latestBindingOf_5 : decode qh_latestBindingOf_c 5 = .ok (.l2i, 1) := by decide +kernel
theorem d_qh_latestBindingOf_6 : decode qh_latestBindingOf_c 6 = .ok (.ireturn, 1) := by decide +kernel
theorem d_qh_packLink_0 : decode qh_packLink_c 0 = .ok (.iload_n 1, 1) := by decide +kernel
theorem d_qh_packLink_1 : decode qh_packLink_c 1 = .ok (.i2l, 1) := by decide +kernel
theorem d_qh_packLink_2 : decode qh_packLink_c 2 = .ok (.bipush 7, 2) := by decide +kernel
theorem d_qh_packLink_4 : decode qh_packLink_c 4 = .ok (.lshl, 1) := by decide +kernel
theorem d_qh_packLink_5 : decode qh_packLink_c 5 = .ok (.iload_n 0, 1) := by decide +kernel
theorem d_qh_packLink_6 : decode qh_packLink_c 6 = .ok (.i2l, 1) := by decide +kernel
theorem d_qh_packLink_7 : decode qh_packLink_c 7 = .ok (.lor, 1) := by decide +kernel
theorem d_qh_packLink_8 : decode qh_packLink_c 8 = .ok (.lreturn, 1) := by decide +kernel
theorem d_qh_bindInGround_0 : decode qh_bindInGround_c 0 = .ok (.bipush 50, 2) := by decide +kernel
theorem d_qh_bindInGround_2 : decode qh_bindInGround_c 2 = .ok (.iload_n 1, 1) := by decide +kernel
theorem d_qh_bindInGround_3 : decode qh_bindInGround_c 3 = .ok (.iadd, 1) := by decide +kernel
theorem d_qh_bindInGround_4 : decode qh_bindInGround_c 4 = .ok (.istore 4, 2) := by decide +kernel
theorem d_qh_bindInGround_6 : decode qh_bindInGround_c 6 = .ok (.aload_n 0, 1) := by decide +kernel
theorem d_qh_bindInGround_7 : decode qh_bindInGround_c 7 = .ok (.iload 4, 2) := by decide +kernel
theorem d_qh_bindInGround_9 : decode qh_bindInGround_c 9 = .ok (.lload_n 2, 1) := by decide +kernel
theorem d_qh_bindInGround_10 : decode qh_bindInGround_c 10 = .ok (.iload_n 1, 1) := by decide +kernel
theorem d_qh_bindInGround_11 : decode qh_bindInGround_c 11 = .ok (.aload_n 0, 1) := by decide +kernel
theorem d_qh_bindInGround_12 : decode qh_bindInGround_c 12 = .ok (.iconst 0, 1) := by decide +kernel
theorem d_qh_bindInGround_13 : decode qh_bindInGround_c 13 = .ok (.invokevirtual 39, 3) := by decide +kernel
theorem d_qh_bindInGround_16 : decode qh_bindInGround_c 16 = .ok (.invokestatic 43, 3) := by decide +kernel
theorem d_qh_bindInGround_19 : decode qh_bindInGround_c 19 = .ok (.invokevirtual 25, 3) := by decide +kernel
theorem d_qh_bindInGround_22 : decode qh_bindInGround_c 22 = .ok (.aload_n 0, 1) := by decide +kernel
theorem d_qh_bindInGround_23 : decode qh_bindInGround_c 23 = .ok (.iconst 0, 1) := by decide +kernel
theorem d_qh_bindInGround_24 : decode qh_bindInGround_c 24 = .ok (.ldc2_w 23, 3) := by decide +kernel
theorem d_qh_bindInGround_27 : decode qh_bindInGround_c 27 = .ok (.iload 4, 2) := by decide +kernel
theorem d_qh_bindInGround_29 : decode qh_bindInGround_c 29 = .ok (.i2l, 1) := by decide +kernel
theorem d_qh_bindInGround_30 : decode qh_bindInGround_c 30 = .ok (.invokevirtual 25, 3) := by decide +kernel
theorem d_qh_bindInGround_33 : decode qh_bindInGround_c 33 = .ok (.return_, 1) := by decide +kernel
theorem d_qh_restoreGround_0 : decode qh_restoreGround_c 0 = .ok (.aload_n 0, 1) := by decide +kernel
theorem d_qh_restoreGround_1 : decode qh_restoreGround_c 1 = .ok (.bipush 100, 2) := by decide +kernel
theorem d_qh_restoreGround_3 : decode qh_restoreGround_c 3 = .ok (.putfield 19, 3) := by decide +kernel
theorem d_qh_restoreGround_6 : decode qh_restoreGround_c 6 = .ok (.aload_n 0, 1) := by decide +kernel
theorem d_qh_restoreGround_7 : decode qh_restoreGround_c 7 = .ok (.iconst 0, 1) := by decide +kernel
theorem d_qh_restoreGround_8 : decode qh_restoreGround_c 8 = .ok (.ldc2_w 23, 3) := by decide +kernel
theorem d_qh_restoreGround_11 : decode qh_restoreGround_c 11 = .ok (.ldc2_w 23, 3) := by decide +kernel
theorem d_qh_restoreGround_14 : decode qh_restoreGround_c 14 = .ok (.invokevirtual 25, 3) := by decide +kernel
theorem d_qh_restoreGround_17 : decode qh_restoreGround_c 17 = .ok (.aload_n 0, 1) := by decide +kernel
theorem d_qh_restoreGround_18 : decode qh_restoreGround_c 18 = .ok (.iconst 1, 1) := by decide +kernel
theorem d_qh_restoreGround_19 : decode qh_restoreGround_c 19 = .ok (.lconst 0, 1) := by decide +kernel
theorem d_qh_restoreGround_20 : decode qh_restoreGround_c 20 = .ok (.ldc2_w 23, 3) := by decide +kernel
theorem d_qh_restoreGround_23 : decode qh_restoreGround_c 23 = .ok (.invokevirtual 25, 3) := by decide +kernel
theorem d_qh_restoreGround_26 : decode qh_restoreGround_c 26 = .ok (.iconst 0, 1) := by decide +kernel
theorem d_qh_restoreGround_27 : decode qh_restoreGround_c 27 = .ok (.istore_n 1, 1) := by decide +kernel
theorem d_qh_restoreGround_28 : decode qh_restoreGround_c 28 = .ok (.iload_n 1, 1) := by decide +kernel
theorem d_qh_restoreGround_29 : decode qh_restoreGround_c 29 = .ok (.bipush 7, 2) := by decide +kernel
theorem d_qh_restoreGround_31 : decode qh_restoreGround_c 31 = .ok (.if_icmp .gt 20, 3) := by decide +kernel
theorem d_qh_restoreGround_34 : decode qh_restoreGround_c 34 = .ok (.aload_n 0, 1) := by decide +kernel
theorem d_qh_restoreGround_35 : decode qh_restoreGround_c 35 = .ok (.iload_n 1, 1) := by decide +kernel
theorem d_qh_restoreGround_36 : decode qh_restoreGround_c 36 = .ok (.iconst 5, 1) := by decide +kernel
theorem d_qh_restoreGround_37 : decode qh_restoreGround_c 37 = .ok (.iload_n 1, 1) := by decide +kernel
theorem d_qh_restoreGround_38 : decode qh_restoreGround_c 38 = .ok (.i2l, 1) := by decide +kernel
theorem d_qh_restoreGround_39 : decode qh_restoreGround_c 39 = .ok (.invokestatic 31, 3) := by decide +kernel
theorem d_qh_restoreGround_42 : decode qh_restoreGround_c 42 = .ok (.invokevirtual 35, 3) := by decide +kernel
theorem d_qh_restoreGround_45 : decode qh_restoreGround_c 45 = .ok (.iinc 1 1, 3) := by decide +kernel
theorem d_qh_restoreGround_48 : decode qh_restoreGround_c 48 = .ok (.goto (-20), 3) := by decide +kernel
theorem d_qh_restoreGround_51 : decode qh_restoreGround_c 51 = .ok (.bipush 10, 2) := by decide +kernel
theorem d_qh_restoreGround_53 : decode qh_restoreGround_c 53 = .ok (.istore_n 1, 1) := by decide +kernel
theorem d_qh_restoreGround_54 : decode qh_restoreGround_c 54 = .ok (.iload_n 1, 1) := by decide +kernel
theorem d_qh_restoreGround_55 : decode qh_restoreGround_c 55 = .ok (.bipush 25, 2) := by decide +kernel
theorem d_qh_restoreGround_57 : decode qh_restoreGround_c 57 = .ok (.if_icmp .gt 33, 3) := by decide +kernel
theorem d_qh_restoreGround_60 : decode qh_restoreGround_c 60 = .ok (.aload_n 0, 1) := by decide +kernel
theorem d_qh_restoreGround_61 : decode qh_restoreGround_c 61 = .ok (.iload_n 1, 1) := by decide +kernel
theorem d_qh_restoreGround_62 : decode qh_restoreGround_c 62 = .ok (.iconst 5, 1) := by decide +kernel
theorem d_qh_restoreGround_63 : decode qh_restoreGround_c 63 = .ok (.iload_n 1, 1) := by decide +kernel
theorem d_qh_restoreGround_64 : decode qh_restoreGround_c 64 = .ok (.i2l, 1) := by decide +kernel
theorem d_qh_restoreGround_65 : decode qh_restoreGround_c 65 = .ok (.invokestatic 31, 3) := by decide +kernel
theorem d_qh_restoreGround_68 : decode qh_restoreGround_c 68 = .ok (.lconst 0, 1) := by decide +kernel
theorem d_qh_restoreGround_69 : decode qh_restoreGround_c 69 = .ok (.invokevirtual 25, 3) := by decide +kernel
theorem d_qh_restoreGround_72 : decode qh_restoreGround_c 72 = .ok (.aload_n 0, 1) := by decide +kernel
theorem d_qh_restoreGround_73 : decode qh_restoreGround_c 73 = .ok (.iload_n 1, 1) := by decide +kernel
theorem d_qh_restoreGround_74 : decode qh_restoreGround_c 74 = .ok (.bipush 6, 2) := by decide +kernel
theorem d_qh_restoreGround_76 : decode qh_restoreGround_c 76 = .ok (.iload_n 1, 1) := by decide +kernel
theorem d_qh_restoreGround_77 : decode qh_restoreGround_c 77 = .ok (.i2l, 1) := by decide +kernel
theorem d_qh_restoreGround_78 : decode qh_restoreGround_c 78 = .ok (.invokestatic 31, 3) := by decide +kernel
theorem d_qh_restoreGround_81 : decode qh_restoreGround_c 81 = .ok (.invokevirtual 35, 3) := by decide +kernel
theorem d_qh_restoreGround_84 : decode qh_restoreGround_c 84 = .ok (.iinc 1 1, 3) := by decide +kernel
theorem d_qh_restoreGround_87 : decode qh_restoreGround_c 87 = .ok (.goto (-33), 3) := by decide +kernel
theorem d_qh_restoreGround_90 : decode qh_restoreGround_c 90 = .ok (.return_, 1) := by decide +kernel
theorem d_qf_clear_0 : decode qf_clear_c 0 = .ok (.aload_n 0, 1) := by decide +kernel
theorem d_qf_clear_1 : decode qf_clear_c 1 = .ok (.iconst 0, 1) := by decide +kernel
theorem d_qf_clear_2 : decode qf_clear_c 2 = .ok (.putfield 26, 3) := by decide +kernel
theorem d_qf_clear_5 : decode qf_clear_c 5 = .ok (.aload_n 0, 1) := by decide +kernel
theorem d_qf_clear_6 : decode qf_clear_c 6 = .ok (.iconst 0, 1) := by decide +kernel
theorem d_qf_clear_7 : decode qf_clear_c 7 = .ok (.putfield 30, 3) := by decide +kernel
theorem d_qf_clear_10 : decode qf_clear_c 10 = .ok (.return_, 1) := by decide +kernel
theorem d_qn_forget_0 : decode qn_forget_c 0 = .ok (.aload_n 0, 1) := by decide +kernel
theorem d_qn_forget_1 : decode qn_forget_c 1 = .ok (.getfield 27, 3) := by decide +kernel
theorem d_qn_forget_4 : decode qn_forget_c 4 = .ok (.invokevirtual 38, 3) := by decide +kernel
theorem d_qn_forget_7 : decode qn_forget_c 7 = .ok (.aload_n 0, 1) := by decide +kernel
theorem d_qn_forget_8 : decode qn_forget_c 8 = .ok (.iconst 0, 1) := by decide +kernel
theorem d_qn_forget_9 : decode qn_forget_c 9 = .ok (.putfield 41, 3) := by decide +kernel
theorem d_qn_forget_12 : decode qn_forget_c 12 = .ok (.aload_n 0, 1) := by decide +kernel
theorem d_qn_forget_13 : decode qn_forget_c 13 = .ok (.iconst 4, 1) := by decide +kernel
theorem d_qn_forget_14 : decode qn_forget_c 14 = .ok (.putfield 45, 3) := by decide +kernel
theorem d_qn_forget_17 : decode qn_forget_c 17 = .ok (.aload_n 0, 1) := by decide +kernel
theorem d_qn_forget_18 : decode qn_forget_c 18 = .ok (.ldc2_w 50, 3) := by decide +kernel
theorem d_qn_forget_21 : decode qn_forget_c 21 = .ok (.putfield 52, 3) := by decide +kernel
theorem d_qn_forget_24 : decode qn_forget_c 24 = .ok (.aload_n 0, 1) := by decide +kernel
theorem d_qn_forget_25 : decode qn_forget_c 25 = .ok (.ldc2_w 50, 3) := by decide +kernel
theorem d_qn_forget_28 : decode qn_forget_c 28 = .ok (.putfield 56, 3) := by decide +kernel
theorem d_qn_forget_31 : decode qn_forget_c 31 = .ok (.aload_n 0, 1) := by decide +kernel
theorem d_qn_forget_32 : decode qn_forget_c 32 = .ok (.iconst 1, 1) := by decide +kernel
theorem d_qn_forget_33 : decode qn_forget_c 33 = .ok (.putfield 61, 3) := by decide +kernel
theorem d_qn_forget_36 : decode qn_forget_c 36 = .ok (.aload_n 0, 1) := by decide +kernel
theorem d_qn_forget_37 : decode qn_forget_c 37 = .ok (.iconst 0, 1) := by decide +kernel
theorem d_qn_forget_38 : decode qn_forget_c 38 = .ok (.putfield 64, 3) := by decide +kernel
theorem d_qn_forget_41 : decode qn_forget_c 41 = .ok (.aload_n 0, 1) := by decide +kernel
theorem d_qn_forget_42 : decode qn_forget_c 42 = .ok (.iconst 0, 1) := by decide +kernel
theorem d_qn_forget_43 : decode qn_forget_c 43 = .ok (.putfield 67, 3) := by decide +kernel
theorem d_qn_forget_46 : decode qn_forget_c 46 = .ok (.aload_n 0, 1) := by decide +kernel
theorem d_qn_forget_47 : decode qn_forget_c 47 = .ok (.iconst 0, 1) := by decide +kernel
theorem d_qn_forget_48 : decode qn_forget_c 48 = .ok (.putfield 70, 3) := by decide +kernel
theorem d_qn_forget_51 : decode qn_forget_c 51 = .ok (.return_, 1) := by decide +kernel
theorem d_qw_isInteger_0 : decode qw_isInteger_c 0 = .ok (.lload_n 0, 1) := by decide +kernel
theorem d_qw_isInteger_1 : decode qw_isInteger_c 1 = .ok (.ldc2_w 21, 3) := by decide +kernel
theorem d_qw_isInteger_4 : decode qw_isInteger_c 4 = .ok (.lcmp, 1) := by decide +kernel
theorem d_qw_isInteger_5 : decode qw_isInteger_c 5 = .ok (.ifCond .lt 15, 3) := by decide +kernel
theorem d_qw_isInteger_8 : decode qw_isInteger_c 8 = .ok (.lload_n 0, 1) := by decide +kernel
theorem d_qw_isInteger_9 : decode qw_isInteger_c 9 = .ok (.ldc2_w 23, 3) := by decide +kernel
theorem d_qw_isInteger_12 : decode qw_isInteger_c 12 = .ok (.lcmp, 1) := by decide +kernel
theorem d_qw_isInteger_13 : decode qw_isInteger_c 13 = .ok (.ifCond .gt 7, 3) := by decide +kernel
theorem d_qw_isInteger_16 : decode qw_isInteger_c 16 = .ok (.iconst 1, 1) := by decide +kernel
theorem d_qw_isInteger_17 : decode qw_isInteger_c 17 = .ok (.goto 4, 3) := by decide +kernel
theorem d_qw_isInteger_20 : decode qw_isInteger_c 20 = .ok (.iconst 0, 1) := by decide +kernel
theorem d_qw_isInteger_21 : decode qw_isInteger_c 21 = .ok (.ireturn, 1) := by decide +kernel
theorem d_qx_push_0 : decode qx_push_c 0 = .ok (.aload_n 0, 1) := by decide +kernel
theorem d_qx_push_1 : decode qx_push_c 1 = .ok (.getfield 31, 3) := by decide +kernel
theorem d_qx_push_4 : decode qx_push_c 4 = .ok (.ifCond .lt 12, 3) := by decide +kernel
theorem d_qx_push_7 : decode qx_push_c 7 = .ok (.aload_n 0, 1) := by decide +kernel
theorem d_qx_push_8 : decode qx_push_c 8 = .ok (.getfield 31, 3) := by decide +kernel
theorem d_qx_push_11 : decode qx_push_c 11 = .ok (.bipush 40, 2) := by decide +kernel
theorem d_qx_push_13 : decode qx_push_c 13 = .ok (.if_icmp .lt 6, 3) := by decide +kernel
theorem d_qx_push_16 : decode qx_push_c 16 = .ok (.bipush (-3), 2) := by decide +kernel
theorem d_qx_push_18 : decode qx_push_c 18 = .ok (.ireturn, 1) := by decide +kernel
theorem d_qx_push_19 : decode qx_push_c 19 = .ok (.aload_n 0, 1) := by decide +kernel
theorem d_qx_push_20 : decode qx_push_c 20 = .ok (.getfield 27, 3) := by decide +kernel
theorem d_qx_push_23 : decode qx_push_c 23 = .ok (.aload_n 0, 1) := by decide +kernel
theorem d_qx_push_24 : decode qx_push_c 24 = .ok (.getfield 31, 3) := by decide +kernel
theorem d_qx_push_27 : decode qx_push_c 27 = .ok (.lload_n 1, 1) := by decide +kernel
theorem d_qx_push_28 : decode qx_push_c 28 = .ok (.lastore, 1) := by decide +kernel
theorem d_qx_push_29 : decode qx_push_c 29 = .ok (.aload_n 0, 1) := by decide +kernel
theorem d_qx_push_30 : decode qx_push_c 30 = .ok (.dup, 1) := by decide +kernel
theorem d_qx_push_31 : decode qx_push_c 31 = .ok (.getfield 31, 3) := by decide +kernel
theorem d_qx_push_34 : decode qx_push_c 34 = .ok (.iconst 1, 1) := by decide +kernel
theorem d_qx_push_35 : decode qx_push_c 35 = .ok (.iadd, 1) := by decide +kernel
theorem d_qx_push_36 : decode qx_push_c 36 = .ok (.putfield 31, 3) := by decide +kernel
theorem d_qx_push_39 : decode qx_push_c 39 = .ok (.aload_n 0, 1) := by decide +kernel
theorem d_qx_push_40 : decode qx_push_c 40 = .ok (.getfield 31, 3) := by decide +kernel
theorem d_qx_push_43 : decode qx_push_c 43 = .ok (.ireturn, 1) := by decide +kernel
theorem d_qx_pushInteger_0 : decode qx_pushInteger_c 0 = .ok (.lload_n 1, 1) := by decide +kernel
theorem d_qx_pushInteger_1 : decode qx_pushInteger_c 1 = .ok (.invokestatic 41, 3) := by decide +kernel
theorem d_qx_pushInteger_4 : decode qx_pushInteger_c 4 = .ok (.ifCond .ne 5, 3) := by decide +kernel
theorem d_qx_pushInteger_7 : decode qx_pushInteger_c 7 = .ok (.iconst (-1), 1) := by decide +kernel
theorem d_qx_pushInteger_8 : decode qx_pushInteger_c 8 = .ok (.ireturn, 1) := by decide +kernel
theorem d_qx_pushInteger_9 : decode qx_pushInteger_c 9 = .ok (.aload_n 0, 1) := by decide +kernel
theorem d_qx_pushInteger_10 : decode qx_pushInteger_c 10 = .ok (.iconst 0, 1) := by decide +kernel
theorem d_qx_pushInteger_11 : decode qx_pushInteger_c 11 = .ok (.lload_n 1, 1) := by decide +kernel
theorem d_qx_pushInteger_12 : decode qx_pushInteger_c 12 = .ok (.invokestatic 47, 3) := by decide +kernel
theorem d_qx_pushInteger_15 : decode qx_pushInteger_c 15 = .ok (.invokevirtual 51, 3) := by decide +kernel
theorem d_qx_pushInteger_18 : decode qx_pushInteger_c 18 = .ok (.ireturn, 1) := by decide +kernel
theorem d_qw_makeBoolean_0 : decode qw_makeBoolean_c 0 = .ok (.iconst 1, 1) := by decide +kernel
theorem d_qw_makeBoolean_1 : decode qw_makeBoolean_c 1 = .ok (.iload_n 0, 1) := by decide +kernel
theorem d_qw_makeBoolean_2 : decode qw_makeBoolean_c 2 = .ok (.ifCond .eq 7, 3) := by decide +kernel
theorem d_qw_makeBoolean_5 : decode qw_makeBoolean_c 5 = .ok (.lconst 1, 1) := by decide +kernel
theorem d_qw_makeBoolean_6 : decode qw_makeBoolean_c 6 = .ok (.goto 4, 3) := by decide +kernel
theorem d_qw_makeBoolean_9 : decode qw_makeBoolean_c 9 = .ok (.lconst 0, 1) := by decide +kernel
theorem d_qw_makeBoolean_10 : decode qw_makeBoolean_c 10 = .ok (.invokestatic 11, 3) := by decide +kernel
theorem d_qw_makeBoolean_13 : decode qw_makeBoolean_c 13 = .ok (.lreturn, 1) := by decide +kernel
theorem d_qx_pushBoolean_0 : decode qx_pushBoolean_c 0 = .ok (.aload_n 0, 1) := by decide +kernel
theorem d_qx_pushBoolean_1 : decode qx_pushBoolean_c 1 = .ok (.iload_n 1, 1) := by decide +kernel
theorem d_qx_pushBoolean_2 : decode qx_pushBoolean_c 2 = .ok (.invokestatic 55, 3) := by decide +kernel
theorem d_qx_pushBoolean_5 : decode qx_pushBoolean_c 5 = .ok (.invokevirtual 51, 3) := by decide +kernel
theorem d_qx_pushBoolean_8 : decode qx_pushBoolean_c 8 = .ok (.ireturn, 1) := by decide +kernel
theorem d_qw_isSymbol_0 : decode qw_isSymbol_c 0 = .ok (.iload_n 0, 1) := by decide +kernel
theorem d_qw_isSymbol_1 : decode qw_isSymbol_c 1 = .ok (.ifCond .lt 13, 3) := by decide +kernel
theorem d_qw_isSymbol_4 : decode qw_isSymbol_c 4 = .ok (.iload_n 0, 1) := by decide +kernel
theorem d_qw_isSymbol_5 : decode qw_isSymbol_c 5 = .ok (.bipush 100, 2) := by decide +kernel
theorem d_qw_isSymbol_7 : decode qw_isSymbol_c 7 = .ok (.if_icmp .ge 7, 3) := by decide +kernel
theorem d_qw_isSymbol_10 : decode qw_isSymbol_c 10 = .ok (.iconst 1, 1) := by decide +kernel
theorem d_qw_isSymbol_11 : decode qw_isSymbol_c 11 = .ok (.goto 4, 3) := by decide +kernel
theorem d_qw_isSymbol_14 : decode qw_isSymbol_c 14 = .ok (.iconst 0, 1) := by decide +kernel
theorem d_qw_isSymbol_15 : decode qw_isSymbol_c 15 = .ok (.ireturn, 1) := by decide +kernel
theorem d_qx_pushSymbol_0 : decode qx_pushSymbol_c 0 = .ok (.iload_n 1, 1) := by decide +kernel
theorem d_qx_pushSymbol_1 : decode qx_pushSymbol_c 1 = .ok (.invokestatic 59, 3) := by decide +kernel
theorem d_qx_pushSymbol_4 : decode qx_pushSymbol_c 4 = .ok (.ifCond .ne 5, 3) := by decide +kernel
theorem d_qx_pushSymbol_7 : decode qx_pushSymbol_c 7 = .ok (.iconst (-1), 1) := by decide +kernel
theorem d_qx_pushSymbol_8 : decode qx_pushSymbol_c 8 = .ok (.ireturn, 1) := by decide +kernel
theorem d_qx_pushSymbol_9 : decode qx_pushSymbol_c 9 = .ok (.aload_n 0, 1) := by decide +kernel
theorem d_qx_pushSymbol_10 : decode qx_pushSymbol_c 10 = .ok (.iconst 2, 1) := by decide +kernel
theorem d_qx_pushSymbol_11 : decode qx_pushSymbol_c 11 = .ok (.iload_n 1, 1) := by decide +kernel
theorem d_qx_pushSymbol_12 : decode qx_pushSymbol_c 12 = .ok (.i2l, 1) := by decide +kernel
theorem d_qx_pushSymbol_13 : decode qx_pushSymbol_c 13 = .ok (.invokestatic 47, 3) := by decide +kernel
theorem d_qx_pushSymbol_16 : decode qx_pushSymbol_c 16 = .ok (.invokevirtual 51, 3) := by decide +kernel
theorem d_qx_pushSymbol_19 : decode qx_pushSymbol_c 19 = .ok (.ireturn, 1) := by decide +kernel
theorem d_qx_pushEmpty_0 : decode qx_pushEmpty_c 0 = .ok (.aload_n 0, 1) := by decide +kernel
theorem d_qx_pushEmpty_1 : decode qx_pushEmpty_c 1 = .ok (.iload_n 1, 1) := by decide +kernel
theorem d_qx_pushEmpty_2 : decode qx_pushEmpty_c 2 = .ok (.ifCond .eq 9, 3) := by decide +kernel
theorem d_qx_pushEmpty_5 : decode qx_pushEmpty_c 5 = .ok (.ldc2_w 63, 3) := by decide +kernel
theorem d_qx_pushEmpty_8 : decode qx_pushEmpty_c 8 = .ok (.goto 6, 3) := by decide +kernel
theorem d_qx_pushEmpty_11 : decode qx_pushEmpty_c 11 = .ok (.ldc2_w 65, 3) := by decide +kernel
theorem d_qx_pushEmpty_14 : decode qx_pushEmpty_c 14 = .ok (.invokevirtual 51, 3) := by decide +kernel
theorem d_qx_pushEmpty_17 : decode qx_pushEmpty_c 17 = .ok (.ireturn, 1) := by decide +kernel
theorem d_qx_pushEnvironment_0 : decode qx_pushEnvironment_c 0 = .ok (.aload_n 0, 1) := by decide +kernel
theorem d_qx_pushEnvironment_1 : decode qx_pushEnvironment_c 1 = .ok (.bipush 7, 2) := by decide +kernel
theorem d_qx_pushEnvironment_3 : decode qx_pushEnvironment_c 3 = .ok (.aload_n 0, 1) := by decide +kernel
theorem d_qx_pushEnvironment_4 : decode qx_pushEnvironment_c 4 = .ok (.getfield 35, 3) := by decide +kernel
theorem d_qx_pushEnvironment_7 : decode qx_pushEnvironment_c 7 = .ok (.i2l, 1) := by decide +kernel
theorem d_qx_pushEnvironment_8 : decode qx_pushEnvironment_c 8 = .ok (.invokestatic 47, 3) := by decide +kernel
theorem d_qx_pushEnvironment_11 : decode qx_pushEnvironment_c 11 = .ok (.invokevirtual 51, 3) := by decide +kernel
theorem d_qx_pushEnvironment_14 : decode qx_pushEnvironment_c 14 = .ok (.ireturn, 1) := by decide +kernel
theorem d_qx_depthError_0 : decode qx_depthError_c 0 = .ok (.iload_n 1, 1) := by decide +kernel
theorem d_qx_depthError_1 : decode qx_depthError_c 1 = .ok (.ifCond .ge 5, 3) := by decide +kernel
theorem d_qx_depthError_4 : decode qx_depthError_c 4 = .ok (.iconst (-1), 1) := by decide +kernel
theorem d_qx_depthError_5 : decode qx_depthError_c 5 = .ok (.ireturn, 1) := by decide +kernel
theorem d_qx_depthError_6 : decode qx_depthError_c 6 = .ok (.iload_n 1, 1) := by decide +kernel
theorem d_qx_depthError_7 : decode qx_depthError_c 7 = .ok (.aload_n 0, 1) := by decide +kernel
theorem d_qx_depthError_8 : decode qx_depthError_c 8 = .ok (.getfield 31, 3) := by decide +kernel
theorem d_qx_depthError_11 : decode qx_depthError_c 11 = .ok (.if_icmp .lt 8, 3) := by decide +kernel
theorem d_qx_depthError_14 : decode qx_depthError_c 14 = .ok (.bipush (-2), 2) := by decide +kernel
theorem d_qx_depthError_16 : decode qx_depthError_c 16 = .ok (.goto 4, 3) := by decide +kernel
theorem d_qx_depthError_19 : decode qx_depthError_c 19 = .ok (.iconst 0, 1) := by decide +kernel
theorem d_qx_depthError_20 : decode qx_depthError_c 20 = .ok (.ireturn, 1) := by decide +kernel
theorem d_qx_valueAt_0 : decode qx_valueAt_c 0 = .ok (.aload_n 0, 1) := by decide +kernel
theorem d_qx_valueAt_1 : decode qx_valueAt_c 1 = .ok (.getfield 31, 3) := by decide +kernel
theorem d_qx_valueAt_4 : decode qx_valueAt_c 4 = .ok (.iconst 1, 1) := by decide +kernel
theorem d_qx_valueAt_5 : decode qx_valueAt_c 5 = .ok (.isub, 1) := by decide +kernel
theorem d_qx_valueAt_6 : decode qx_valueAt_c 6 = .ok (.iload_n 1, 1) := by decide +kernel
theorem d_qx_valueAt_7 : decode qx_valueAt_c 7 = .ok (.isub, 1) := by decide +kernel
theorem d_qx_valueAt_8 : decode qx_valueAt_c 8 = .ok (.istore_n 2, 1) := by decide +kernel
theorem d_qx_valueAt_9 : decode qx_valueAt_c 9 = .ok (.iload_n 2, 1) := by decide +kernel
theorem d_qx_valueAt_10 : decode qx_valueAt_c 10 = .ok (.ifCond .lt 18, 3) := by decide +kernel
theorem d_qx_valueAt_13 : decode qx_valueAt_c 13 = .ok (.iload_n 2, 1) := by decide +kernel
theorem d_qx_valueAt_14 : decode qx_valueAt_c 14 = .ok (.bipush 40, 2) := by decide +kernel
theorem d_qx_valueAt_16 : decode qx_valueAt_c 16 = .ok (.if_icmp .ge 12, 3) := by decide +kernel
theorem d_qx_valueAt_19 : decode qx_valueAt_c 19 = .ok (.aload_n 0, 1) := by decide +kernel
theorem d_qx_valueAt_20 : decode qx_valueAt_c 20 = .ok (.getfield 27, 3) := by decide +kernel
theorem d_qx_valueAt_23 : decode qx_valueAt_c 23 = .ok (.iload_n 2, 1) := by decide +kernel
theorem d_qx_valueAt_24 : decode qx_valueAt_c 24 = .ok (.laload, 1) := by decide +kernel
theorem d_qx_valueAt_25 : decode qx_valueAt_c 25 = .ok (.goto 6, 3) := by decide +kernel
theorem d_qx_valueAt_28 : decode qx_valueAt_c 28 = .ok (.ldc2_w 65, 3) := by decide +kernel
theorem d_qx_valueAt_31 : decode qx_valueAt_c 31 = .ok (.lreturn, 1) := by decide +kernel
theorem d_qx_pushCopy_0 : decode qx_pushCopy_c 0 = .ok (.aload_n 0, 1) := by decide +kernel
theorem d_qx_pushCopy_1 : decode qx_pushCopy_c 1 = .ok (.iload_n 1, 1) := by decide +kernel
theorem d_qx_pushCopy_2 : decode qx_pushCopy_c 2 = .ok (.invokevirtual 67, 3) := by decide +kernel
theorem d_qx_pushCopy_5 : decode qx_pushCopy_c 5 = .ok (.istore_n 2, 1) := by decide +kernel
theorem d_qx_pushCopy_6 : decode qx_pushCopy_c 6 = .ok (.iload_n 2, 1) := by decide +kernel
theorem d_qx_pushCopy_7 : decode qx_pushCopy_c 7 = .ok (.ifCond .eq 5, 3) := by decide +kernel
theorem d_qx_pushCopy_10 : decode qx_pushCopy_c 10 = .ok (.iload_n 2, 1) := by decide +kernel
theorem d_qx_pushCopy_11 : decode qx_pushCopy_c 11 = .ok (.ireturn, 1) := by decide +kernel
theorem d_qx_pushCopy_12 : decode qx_pushCopy_c 12 = .ok (.aload_n 0, 1) := by decide +kernel
theorem d_qx_pushCopy_13 : decode qx_pushCopy_c 13 = .ok (.aload_n 0, 1) := by decide +kernel
theorem d_qx_pushCopy_14 : decode qx_pushCopy_c 14 = .ok (.iload_n 1, 1) := by decide +kernel
theorem d_qx_pushCopy_15 : decode qx_pushCopy_c 15 = .ok (.invokevirtual 71, 3) := by decide +kernel
theorem d_qx_pushCopy_18 : decode qx_pushCopy_c 18 = .ok (.invokevirtual 51, 3) := by decide +kernel
theorem d_qx_pushCopy_21 : decode qx_pushCopy_c 21 = .ok (.ireturn, 1) := by decide +kernel
theorem d_qw_kindOf_0 : decode qw_kindOf_c 0 = .ok (.lload_n 0, 1) := by decide +kernel
theorem d_qw_kindOf_1 : decode qw_kindOf_c 1 = .ok (.ldc2_w 15, 3) := by decide +kernel
theorem d_qw_kindOf_4 : decode qw_kindOf_c 4 = .ok (.land, 1) := by decide +kernel
theorem d_qw_kindOf_5 : decode qw_kindOf_c 5 = .ok (.l2i, 1) := by decide +kernel
theorem d_qw_kindOf_6 : decode qw_kindOf_c 6 = .ok (.ireturn, 1) := by decide +kernel
theorem d_qw_rowOf_0 : decode qw_rowOf_c 0 = .ok (.lload_n 0, 1) := by decide +kernel
theorem d_qw_rowOf_1 : decode qw_rowOf_c 1 = .ok (.iconst 4, 1) := by decide +kernel
theorem d_qw_rowOf_2 : decode qw_rowOf_c 2 = .ok (.lshr, 1) := by decide +kernel
theorem d_qw_rowOf_3 : decode qw_rowOf_c 3 = .ok (.l2i, 1) := by decide +kernel
theorem d_qw_rowOf_4 : decode qw_rowOf_c 4 = .ok (.ireturn, 1) := by decide +kernel
theorem d_qh_firstAt_0 : decode qh_firstAt_c 0 = .ok (.iload_n 1, 1) := by decide +kernel
theorem d_qh_firstAt_1 : decode qh_firstAt_c 1 = .ok (.ifCond .lt 19, 3) := by decide +kernel
theorem d_qh_firstAt_4 : decode qh_firstAt_c 4 = .ok (.iload_n 1, 1) := by decide +kernel
theorem d_qh_firstAt_5 : decode qh_firstAt_c 5 = .ok (.sipush 4100, 3) := by decide +kernel
theorem d_qh_firstAt_8 : decode qh_firstAt_c 8 = .ok (.if_icmp .ge 12, 3) := by decide +kernel
theorem d_qh_firstAt_11 : decode qh_firstAt_c 11 = .ok (.aload_n 0, 1) := by decide +kernel
theorem d_qh_firstAt_12 : decode qh_firstAt_c 12 = .ok (.getfield 9, 3) := by decide +kernel
theorem d_qh_firstAt_15 : decode qh_firstAt_c 15 = .ok (.iload_n 1, 1) := by decide +kernel
theorem d_qh_firstAt_16 : decode qh_firstAt_c 16 = .ok (.laload, 1) := by decide +kernel
theorem d_qh_firstAt_17 : decode qh_firstAt_c 17 = .ok (.goto 6, 3) := by decide +kernel
theorem d_qh_firstAt_20 : decode qh_firstAt_c 20 = .ok (.ldc2_w 47, 3) := by decide +kernel
theorem d_qh_firstAt_23 : decode qh_firstAt_c 23 = .ok (.lreturn, 1) := by decide +kernel
theorem d_qh_carOf_0 : decode qh_carOf_c 0 = .ok (.aload_n 0, 1) := by decide +kernel
theorem d_qh_carOf_1 : decode qh_carOf_c 1 = .ok (.lload_n 1, 1) := by decide +kernel
theorem d_qh_carOf_2 : decode qh_carOf_c 2 = .ok (.invokestatic 53, 3) := by decide +kernel
theorem d_qh_carOf_5 : decode qh_carOf_c 5 = .ok (.invokevirtual 57, 3) := by decide +kernel
theorem d_qh_carOf_8 : decode qh_carOf_c 8 = .ok (.lreturn, 1) := by decide +kernel
theorem d_qh_cdrOf_0 : decode qh_cdrOf_c 0 = .ok (.aload_n 0, 1) := by decide +kernel
theorem d_qh_cdrOf_1 : decode qh_cdrOf_c 1 = .ok (.lload_n 1, 1) := by decide +kernel
theorem d_qh_cdrOf_2 : decode qh_cdrOf_c 2 = .ok (.invokestatic 53, 3) := by decide +kernel
theorem d_qh_cdrOf_5 : decode qh_cdrOf_c 5 = .ok (.invokevirtual 61, 3) := by decide +kernel
theorem d_qh_cdrOf_8 : decode qh_cdrOf_c 8 = .ok (.lreturn, 1) := by decide +kernel
theorem d_qh_underlyingOf_0 : decode qh_underlyingOf_c 0 = .ok (.aload_n 0, 1) := by decide +kernel
theorem d_qh_underlyingOf_1 : decode qh_underlyingOf_c 1 = .ok (.lload_n 1, 1) := by decide +kernel
theorem d_qh_underlyingOf_2 : decode qh_underlyingOf_c 2 = .ok (.invokestatic 53, 3) := by decide +kernel
theorem d_qh_underlyingOf_5 : decode qh_underlyingOf_c 5 = .ok (.invokevirtual 57, 3) := by decide +kernel
theorem d_qh_underlyingOf_8 : decode qh_underlyingOf_c 8 = .ok (.lreturn, 1) := by decide +kernel
theorem d_qh_parentOf_0 : decode qh_parentOf_c 0 = .ok (.aload_n 0, 1) := by decide +kernel
theorem d_qh_parentOf_1 : decode qh_parentOf_c 1 = .ok (.iload_n 1, 1) := by decide +kernel
theorem d_qh_parentOf_2 : decode qh_parentOf_c 2 = .ok (.invokevirtual 57, 3) := by decide +kernel
theorem d_qh_parentOf_5 : decode qh_parentOf_c 5 = .ok (.l2i, 1) := by decide +kernel
theorem d_qh_parentOf_6 : decode qh_parentOf_c 6 = .ok (.ireturn, 1) := by decide +kernel
theorem d_qx_pushParent_0 : decode qx_pushParent_c 0 = .ok (.aload_n 0, 1) := by decide +kernel
theorem d_qx_pushParent_1 : decode qx_pushParent_c 1 = .ok (.getfield 31, 3) := by decide +kernel
theorem d_qx_pushParent_4 : decode qx_pushParent_c 4 = .ok (.bipush 40, 2) := by decide +kernel
theorem d_qx_pushParent_6 : decode qx_pushParent_c 6 = .ok (.if_icmp .lt 6, 3) := by decide +kernel
theorem d_qx_pushParent_9 : decode qx_pushParent_c 9 = .ok (.bipush (-3), 2) := by decide +kernel
theorem d_qx_pushParent_11 : decode qx_pushParent_c 11 = .ok (.ireturn, 1) := by decide +kernel
theorem d_qx_pushParent_12 : decode qx_pushParent_c 12 = .ok (.aload_n 0, 1) := by decide +kernel
theorem d_qx_pushParent_13 : decode qx_pushParent_c 13 = .ok (.getfield 12, 3) := by decide +kernel
theorem d_qx_pushParent_16 : decode qx_pushParent_c 16 = .ok (.iload_n 1, 1) := by decide +kernel
theorem d_qx_pushParent_17 : decode qx_pushParent_c 17 = .ok (.invokevirtual 149, 3) := by decide +kernel
theorem d_qx_pushParent_20 : decode qx_pushParent_c 20 = .ok (.istore_n 2, 1) := by decide +kernel
theorem d_qx_pushParent_21 : decode qx_pushParent_c 21 = .ok (.iload_n 2, 1) := by decide +kernel
theorem d_qx_pushParent_22 : decode qx_pushParent_c 22 = .ok (.iconst (-1), 1) := by decide +kernel
theorem d_qx_pushParent_23 : decode qx_pushParent_c 23 = .ok (.if_icmp .ne 8, 3) := by decide +kernel
theorem d_qx_pushParent_26 : decode qx_pushParent_c 26 = .ok (.bipush (-12), 2) := by decide +kernel
theorem d_qx_pushParent_28 : decode qx_pushParent_c 28 = .ok (.goto 14, 3) := by decide +kernel
theorem d_qx_pushParent_31 : decode qx_pushParent_c 31 = .ok (.aload_n 0, 1) := by decide +kernel
theorem d_qx_pushParent_32 : decode qx_pushParent_c 32 = .ok (.bipush 7, 2) := by decide +kernel
theorem d_qx_pushParent_34 : decode qx_pushParent_c 34 = .ok (.iload_n 2, 1) := by decide +kernel
theorem d_qx_pushParent_35 : decode qx_pushParent_c 35 = .ok (.i2l, 1) := by decide +kernel
theorem d_qx_pushParent_36 : decode qx_pushParent_c 36 = .ok (.invokestatic 47, 3) := by decide +kernel
theorem d_qx_pushParent_39 : decode qx_pushParent_c 39 = .ok (.invokevirtual 51, 3) := by decide +kernel
theorem d_qx_pushParent_42 : decode qx_pushParent_c 42 = .ok (.ireturn, 1) := by decide +kernel
theorem d_qx_pushPart_0 : decode qx_pushPart_c 0 = .ok (.iload_n 2, 1) := by decide +kernel
theorem d_qx_pushPart_1 : decode qx_pushPart_c 1 = .ok (.ifCond .eq 10, 3) := by decide +kernel
theorem d_qx_pushPart_4 : decode qx_pushPart_c 4 = .ok (.iload_n 2, 1) := by decide +kernel
theorem d_qx_pushPart_5 : decode qx_pushPart_c 5 = .ok (.iconst 1, 1) := by decide +kernel
theorem d_qx_pushPart_6 : decode qx_pushPart_c 6 = .ok (.if_icmp .eq 5, 3) := by decide +kernel
theorem d_qx_pushPart_9 : decode qx_pushPart_c 9 = .ok (.iconst (-1), 1) := by decide +kernel
theorem d_qx_pushPart_10 : decode qx_pushPart_c 10 = .ok (.ireturn, 1) := by decide +kernel
theorem d_qx_pushPart_11 : decode qx_pushPart_c 11 = .ok (.aload_n 0, 1) := by decide +kernel
theorem d_qx_pushPart_12 : decode qx_pushPart_c 12 = .ok (.iload_n 1, 1) := by decide +kernel
theorem d_qx_pushPart_13 : decode qx_pushPart_c 13 = .ok (.invokevirtual 67, 3) := by decide +kernel
theorem d_qx_pushPart_16 : decode qx_pushPart_c 16 = .ok (.istore_n 3, 1) := by decide +kernel
theorem d_qx_pushPart_17 : decode qx_pushPart_c 17 = .ok (.iload_n 3, 1) := by decide +kernel
theorem d_qx_pushPart_18 : decode qx_pushPart_c 18 = .ok (.ifCond .eq 5, 3) := by decide +kernel
theorem d_qx_pushPart_21 : decode qx_pushPart_c 21 = .ok (.iload_n 3, 1) := by decide +kernel
theorem d_qx_pushPart_22 : decode qx_pushPart_c 22 = .ok (.ireturn, 1) := by decide +kernel
theorem d_qx_pushPart_23 : decode qx_pushPart_c 23 = .ok (.aload_n 0, 1) := by decide +kernel
theorem d_qx_pushPart_24 : decode qx_pushPart_c 24 = .ok (.iload_n 1, 1) := by decide +kernel
theorem d_qx_pushPart_25 : decode qx_pushPart_c 25 = .ok (.invokevirtual 71, 3) := by decide +kernel
theorem d_qx_pushPart_28 : decode qx_pushPart_c 28 = .ok (.lstore 4, 2) := by decide +kernel
theorem d_qx_pushPart_30 : decode qx_pushPart_c 30 = .ok (.lload 4, 2) := by decide +kernel
theorem d_qx_pushPart_32 : decode qx_pushPart_c 32 = .ok (.invokestatic 75, 3) := by decide +kernel
theorem d_qx_pushPart_35 : decode qx_pushPart_c 35 = .ok (.istore 6, 2) := by decide +kernel
theorem d_qx_pushPart_37 : decode qx_pushPart_c 37 = .ok (.iload 6, 2) := by decide +kernel
theorem d_qx_pushPart_39 : decode qx_pushPart_c 39 = .ok (.iconst 4, 1) := by decide +kernel
theorem d_qx_pushPart_40 : decode qx_pushPart_c 40 = .ok (.if_icmp .ne 33, 3) := by decide +kernel
theorem d_qx_pushPart_43 : decode qx_pushPart_c 43 = .ok (.aload_n 0, 1) := by decide +kernel
theorem d_qx_pushPart_44 : decode qx_pushPart_c 44 = .ok (.iload_n 2, 1) := by decide +kernel
theorem d_qx_pushPart_45 : decode qx_pushPart_c 45 = .ok (.ifCond .ne 15, 3) := by decide +kernel
theorem d_qx_pushPart_48 : decode qx_pushPart_c 48 = .ok (.aload_n 0, 1) := by decide +kernel
theorem d_qx_pushPart_49 : decode qx_pushPart_c 49 = .ok (.getfield 12, 3) := by decide +kernel
theorem d_qx_pushPart_52 : decode qx_pushPart_c 52 = .ok (.lload 4, 2) := by decide +kernel
theorem d_qx_pushPart_54 : decode qx_pushPart_c 54 = .ok (.invokevirtual 78, 3) := by decide +kernel
theorem d_qx_pushPart_57 : decode qx_pushPart_c 57 = .ok (.goto 12, 3) := by decide +kernel
theorem d_qx_pushPart_60 : decode qx_pushPart_c 60 = .ok (.aload_n 0, 1) := by decide +kernel
theorem d_qx_pushPart_61 : decode qx_pushPart_c 61 = .ok (.getfield 12, 3) := by decide +kernel
theorem d_qx_pushPart_64 : decode qx_pushPart_c 64 = .ok (.lload 4, 2) := by decide +kernel
theorem d_qx_pushPart_66 : decode qx_pushPart_c 66 = .ok (.invokevirtual 82, 3) := by decide +kernel
theorem d_qx_pushPart_69 : decode qx_pushPart_c 69 = .ok (.invokevirtual 51, 3) := by decide +kernel
theorem d_qx_pushPart_72 : decode qx_pushPart_c 72 = .ok (.ireturn, 1) := by decide +kernel
theorem d_qx_pushPart_73 : decode qx_pushPart_c 73 = .ok (.iload_n 2, 1) := by decide +kernel
theorem d_qx_pushPart_74 : decode qx_pushPart_c 74 = .ok (.ifCond .ne 24, 3) := by decide +kernel
theorem d_qx_pushPart_77 : decode qx_pushPart_c 77 = .ok (.iload 6, 2) := by decide +kernel
theorem d_qx_pushPart_79 : decode qx_pushPart_c 79 = .ok (.bipush 6, 2) := by decide +kernel
theorem d_qx_pushPart_81 : decode qx_pushPart_c 81 = .ok (.if_icmp .ne 17, 3) := by decide +kernel
theorem d_qx_pushPart_84 : decode qx_pushPart_c 84 = .ok (.aload_n 0, 1) := by decide +kernel
theorem d_qx_pushPart_85 : decode qx_pushPart_c 85 = .ok (.aload_n 0, 1) := by decide +kernel
theorem d_qx_pushPart_86 : decode qx_pushPart_c 86 = .ok (.getfield 12, 3) := by decide +kernel
theorem d_qx_pushPart_89 : decode qx_pushPart_c 89 = .ok (.lload 4, 2) := by decide +kernel
theorem d_qx_pushPart_91 : decode qx_pushPart_c 91 = .ok (.invokevirtual 85, 3) := by decide +kernel
theorem d_qx_pushPart_94 : decode qx_pushPart_c 94 = .ok (.invokevirtual 51, 3) := by decide +kernel
theorem d_qx_pushPart_97 : decode qx_pushPart_c 97 = .ok (.ireturn, 1) := by decide +kernel
theorem d_qx_pushPart_98 : decode qx_pushPart_c 98 = .ok (.iload_n 2, 1) := by decide +kernel
theorem d_qx_pushPart_99 : decode qx_pushPart_c 99 = .ok (.ifCond .ne 20, 3) := by decide +kernel
theorem d_qx_pushPart_102 : decode qx_pushPart_c 102 = .ok (.iload 6, 2) := by decide +kernel
theorem d_qx_pushPart_104 : decode qx_pushPart_c 104 = .ok (.bipush 7, 2) := by decide +kernel
theorem d_qx_pushPart_106 : decode qx_pushPart_c 106 = .ok (.if_icmp .ne 13, 3) := by decide +kernel
theorem d_qx_pushPart_109 : decode qx_pushPart_c 109 = .ok (.aload_n 0, 1) := by decide +kernel
theorem d_qx_pushPart_110 : decode qx_pushPart_c 110 = .ok (.lload 4, 2) := by decide +kernel
theorem d_qx_pushPart_112 : decode qx_pushPart_c 112 = .ok (.invokestatic 88, 3) := by decide +kernel
theorem d_qx_pushPart_115 : decode qx_pushPart_c 115 = .ok (.invokevirtual 91, 3) := by decide +kernel
theorem d_qx_pushPart_118 : decode qx_pushPart_c 118 = .ok (.ireturn, 1) := by decide +kernel
theorem d_qx_pushPart_119 : decode qx_pushPart_c 119 = .ok (.bipush (-4), 2) := by decide +kernel
theorem d_qx_pushPart_121 : decode qx_pushPart_c 121 = .ok (.ireturn, 1) := by decide +kernel
theorem d_qx_kindError_0 : decode qx_kindError_c 0 = .ok (.aload_n 0, 1) := by decide +kernel
theorem d_qx_kindError_1 : decode qx_kindError_c 1 = .ok (.iload_n 1, 1) := by decide +kernel
theorem d_qx_kindError_2 : decode qx_kindError_c 2 = .ok (.invokevirtual 67, 3) := by decide +kernel
theorem d_qx_kindError_5 : decode qx_kindError_c 5 = .ok (.istore_n 3, 1) := by decide +kernel
theorem d_qx_kindError_6 : decode qx_kindError_c 6 = .ok (.iload_n 3, 1) := by decide +kernel
theorem d_qx_kindError_7 : decode qx_kindError_c 7 = .ok (.ifCond .eq 5, 3) := by decide +kernel
theorem d_qx_kindError_10 : decode qx_kindError_c 10 = .ok (.iload_n 3, 1) := by decide +kernel
theorem d_qx_kindError_11 : decode qx_kindError_c 11 = .ok (.ireturn, 1) := by decide +kernel
theorem d_qx_kindError_12 : decode qx_kindError_c 12 = .ok (.aload_n 0, 1) := by decide +kernel
theorem d_qx_kindError_13 : decode qx_kindError_c 13 = .ok (.iload_n 1, 1) := by decide +kernel
theorem d_qx_kindError_14 : decode qx_kindError_c 14 = .ok (.invokevirtual 71, 3) := by decide +kernel
theorem d_qx_kindError_17 : decode qx_kindError_c 17 = .ok (.invokestatic 75, 3) := by decide +kernel
theorem d_qx_kindError_20 : decode qx_kindError_c 20 = .ok (.iload_n 2, 1) := by decide +kernel
theorem d_qx_kindError_21 : decode qx_kindError_c 21 = .ok (.if_icmp .ne 7, 3) := by decide +kernel
theorem d_qx_kindError_24 : decode qx_kindError_c 24 = .ok (.iconst 0, 1) := by decide +kernel
theorem d_qx_kindError_25 : decode qx_kindError_c 25 = .ok (.goto 5, 3) := by decide +kernel
theorem d_qx_kindError_28 : decode qx_kindError_c 28 = .ok (.bipush (-4), 2) := by decide +kernel
theorem d_qx_kindError_30 : decode qx_kindError_c 30 = .ok (.ireturn, 1) := by decide +kernel
theorem d_qh_symbolIn_0 : decode qh_symbolIn_c 0 = .ok (.lload_n 0, 1) := by decide +kernel
theorem d_qh_symbolIn_1 : decode qh_symbolIn_c 1 = .ok (.ldc2_w 71, 3) := by decide +kernel
theorem d_qh_symbolIn_4 : decode qh_symbolIn_c 4 = .ok (.land, 1) := by decide +kernel
theorem d_qh_symbolIn_5 : decode qh_symbolIn_c 5 = .ok (.l2i, 1) := by decide +kernel
theorem d_qh_symbolIn_6 : decode qh_symbolIn_c 6 = .ok (.ireturn, 1) := by decide +kernel
theorem d_qh_nextIn_0 : decode qh_nextIn_c 0 = .ok (.lload_n 0, 1) := by decide +kernel
theorem d_qh_nextIn_1 : decode qh_nextIn_c 1 = .ok (.bipush 7, 2) := by decide +kernel
theorem d_qh_nextIn_3 : decode qh_nextIn_c 3 = .ok (.lshr, 1) := by decide +kernel
theorem d_qh_nextIn_4 : decode qh_nextIn_c 4 = .ok (.l2i, 1) := by decide +kernel
theorem d_qh_nextIn_5 : decode qh_nextIn_c 5 = .ok (.ireturn, 1) := by decide +kernel
theorem d_qh_ownBinding_0 : decode qh_ownBinding_c 0 = .ok (.aload_n 0, 1) := by decide +kernel
theorem d_qh_ownBinding_1 : decode qh_ownBinding_c 1 = .ok (.iload_n 1, 1) := by decide +kernel
theorem d_qh_ownBinding_2 : decode qh_ownBinding_c 2 = .ok (.invokevirtual 39, 3) := by decide +kernel
theorem d_qh_ownBinding_5 : decode qh_ownBinding_c 5 = .ok (.istore_n 3, 1) := by decide +kernel
theorem d_qh_ownBinding_6 : decode qh_ownBinding_c 6 = .ok (.iconst 0, 1) := by decide +kernel
theorem d_qh_ownBinding_7 : decode qh_ownBinding_c 7 = .ok (.istore 4, 2) := by decide +kernel
theorem d_qh_ownBinding_9 : decode qh_ownBinding_c 9 = .ok (.iload_n 3, 1) := by decide +kernel
theorem d_qh_ownBinding_10 : decode qh_ownBinding_c 10 = .ok (.iconst (-1), 1) := by decide +kernel
theorem d_qh_ownBinding_11 : decode qh_ownBinding_c 11 = .ok (.if_icmp .eq 41, 3) := by decide +kernel
theorem d_qh_ownBinding_14 : decode qh_ownBinding_c 14 = .ok (.iload 4, 2) := by decide +kernel
theorem d_qh_ownBinding_16 : decode qh_ownBinding_c 16 = .ok (.sipush 4100, 3) := by decide +kernel
theorem d_qh_ownBinding_19 : decode qh_ownBinding_c 19 = .ok (.if_icmp .ge 33, 3) := by decide +kernel
theorem d_qh_ownBinding_22 : decode qh_ownBinding_c 22 = .ok (.aload_n 0, 1) := by decide +kernel
theorem d_qh_ownBinding_23 : decode qh_ownBinding_c 23 = .ok (.iload_n 3, 1) := by decide +kernel
theorem d_qh_ownBinding_24 : decode qh_ownBinding_c 24 = .ok (.invokevirtual 61, 3) := by decide +kernel
theorem d_qh_ownBinding_27 : decode qh_ownBinding_c 27 = .ok (.lstore 5, 2) := by decide +kernel
theorem d_qh_ownBinding_29 : decode qh_ownBinding_c 29 = .ok (.lload 5, 2) := by decide +kernel
theorem d_qh_ownBinding_31 : decode qh_ownBinding_c 31 = .ok (.invokestatic 78, 3) := by decide +kernel
theorem d_qh_ownBinding_34 : decode qh_ownBinding_c 34 = .ok (.iload_n 2, 1) := by decide +kernel
theorem d_qh_ownBinding_35 : decode qh_ownBinding_c 35 = .ok (.if_icmp .ne 5, 3) := by decide +kernel
theorem d_qh_ownBinding_38 : decode qh_ownBinding_c 38 = .ok (.iload_n 3, 1) := by decide +kernel
theorem d_qh_ownBinding_39 : decode qh_ownBinding_c 39 = .ok (.ireturn, 1) := by decide +kernel
theorem d_qh_ownBinding_40 : decode qh_ownBinding_c 40 = .ok (.lload 5, 2) := by decide +kernel
theorem d_qh_ownBinding_42 : decode qh_ownBinding_c 42 = .ok (.invokestatic 75, 3) := by decide +kernel
theorem d_qh_ownBinding_45 : decode qh_ownBinding_c 45 = .ok (.istore_n 3, 1) := by decide +kernel
theorem d_qh_ownBinding_46 : decode qh_ownBinding_c 46 = .ok (.iinc 4 1, 3) := by decide +kernel
theorem d_qh_ownBinding_49 : decode qh_ownBinding_c 49 = .ok (.goto (-40), 3) := by decide +kernel
theorem d_qh_ownBinding_52 : decode qh_ownBinding_c 52 = .ok (.iconst (-1), 1) := by decide +kernel
theorem d_qh_ownBinding_53 : decode qh_ownBinding_c 53 = .ok (.ireturn, 1) := by decide +kernel
theorem d_qh_visibleBinding_0 : decode qh_visibleBinding_c 0 = .ok (.iload_n 1, 1) := by decide +kernel
theorem d_qh_visibleBinding_1 : decode qh_visibleBinding_c 1 = .ok (.istore_n 3, 1) := by decide +kernel
theorem d_qh_visibleBinding_2 : decode qh_visibleBinding_c 2 = .ok (.iconst 0, 1) := by decide +kernel
theorem d_qh_visibleBinding_3 : decode qh_visibleBinding_c 3 = .ok (.istore 4, 2) := by decide +kernel
theorem d_qh_visibleBinding_5 : decode qh_visibleBinding_c 5 = .ok (.iload_n 3, 1) := by decide +kernel
theorem d_qh_visibleBinding_6 : decode qh_visibleBinding_c 6 = .ok (.iconst (-1), 1) := by decide +kernel
theorem d_qh_visibleBinding_7 : decode qh_visibleBinding_c 7 = .ok (.if_icmp .eq 40, 3) := by decide +kernel
theorem d_qh_visibleBinding_10 : decode qh_visibleBinding_c 10 = .ok (.iload 4, 2) := by decide +kernel
theorem d_qh_visibleBinding_12 : decode qh_visibleBinding_c 12 = .ok (.sipush 4100, 3) := by decide +kernel
theorem d_qh_visibleBinding_15 : decode qh_visibleBinding_c 15 = .ok (.if_icmp .ge 32, 3) := by decide +kernel
theorem d_qh_visibleBinding_18 : decode qh_visibleBinding_c 18 = .ok (.aload_n 0, 1) := by decide +kernel
theorem d_qh_visibleBinding_19 : decode qh_visibleBinding_c 19 = .ok (.iload_n 3, 1) := by decide +kernel
theorem d_qh_visibleBinding_20 : decode qh_visibleBinding_c 20 = .ok (.iload_n 2, 1) := by decide +kernel
theorem d_qh_visibleBinding_21 : decode qh_visibleBinding_c 21 = .ok (.invokevirtual 81, 3) := by decide +kernel
theorem d_qh_visibleBinding_24 : decode qh_visibleBinding_c 24 = .ok (.istore 5, 2) := by decide +kernel
theorem d_qh_visibleBinding_26 : decode qh_visibleBinding_c 26 = .ok (.iload 5, 2) := by decide +kernel
theorem d_qh_visibleBinding_28 : decode qh_visibleBinding_c 28 = .ok (.iconst (-1), 1) := by decide +kernel
theorem d_qh_visibleBinding_29 : decode qh_visibleBinding_c 29 = .ok (.if_icmp .eq 6, 3) := by decide +kernel
theorem d_qh_visibleBinding_32 : decode qh_visibleBinding_c 32 = .ok (.iload 5, 2) := by decide +kernel
theorem d_qh_visibleBinding_34 : decode qh_visibleBinding_c 34 = .ok (.ireturn, 1) := by decide +kernel
theorem d_qh_visibleBinding_35 : decode qh_visibleBinding_c 35 = .ok (.aload_n 0, 1) := by decide +kernel
theorem d_qh_visibleBinding_36 : decode qh_visibleBinding_c 36 = .ok (.iload_n 3, 1) := by decide +kernel
theorem d_qh_visibleBinding_37 : decode qh_visibleBinding_c 37 = .ok (.invokevirtual 85, 3) := by decide +kernel
theorem d_qh_visibleBinding_40 : decode qh_visibleBinding_c 40 = .ok (.istore_n 3, 1) := by decide +kernel
theorem d_qh_visibleBinding_41 : decode qh_visibleBinding_c 41 = .ok (.iinc 4 1, 3) := by decide +kernel
theorem d_qh_visibleBinding_44 : decode qh_visibleBinding_c 44 = .ok (.goto (-39), 3) := by decide +kernel
theorem d_qh_visibleBinding_47 : decode qh_visibleBinding_c 47 = .ok (.iconst (-1), 1) := by decide +kernel
theorem d_qh_visibleBinding_48 : decode qh_visibleBinding_c 48 = .ok (.ireturn, 1) := by decide +kernel
theorem d_qh_boundValueOf_0 : decode qh_boundValueOf_c 0 = .ok (.aload_n 0, 1) := by decide +kernel
theorem d_qh_boundValueOf_1 : decode qh_boundValueOf_c 1 = .ok (.iload_n 1, 1) := by decide +kernel
theorem d_qh_boundValueOf_2 : decode qh_boundValueOf_c 2 = .ok (.invokevirtual 57, 3) := by decide +kernel
theorem d_qh_boundValueOf_5 : decode qh_boundValueOf_c 5 = .ok (.lreturn, 1) := by decide +kernel
theorem d_qx_pushBinding_0 : decode qx_pushBinding_c 0 = .ok (.iload_n 2, 1) := by decide +kernel
theorem d_qx_pushBinding_1 : decode qx_pushBinding_c 1 = .ok (.invokestatic 59, 3) := by decide +kernel
theorem d_qx_pushBinding_4 : decode qx_pushBinding_c 4 = .ok (.ifCond .ne 5, 3) := by decide +kernel
theorem d_qx_pushBinding_7 : decode qx_pushBinding_c 7 = .ok (.iconst (-1), 1) := by decide +kernel
theorem d_qx_pushBinding_8 : decode qx_pushBinding_c 8 = .ok (.ireturn, 1) := by decide +kernel
theorem d_qx_pushBinding_9 : decode qx_pushBinding_c 9 = .ok (.aload_n 0, 1) := by decide +kernel
theorem d_qx_pushBinding_10 : decode qx_pushBinding_c 10 = .ok (.iload_n 1, 1) := by decide +kernel
theorem d_qx_pushBinding_11 : decode qx_pushBinding_c 11 = .ok (.bipush 7, 2) := by decide +kernel
theorem d_qx_pushBinding_13 : decode qx_pushBinding_c 13 = .ok (.invokevirtual 94, 3) := by decide +kernel
theorem d_qx_pushBinding_16 : decode qx_pushBinding_c 16 = .ok (.istore_n 3, 1) := by decide +kernel
theorem d_qx_pushBinding_17 : decode qx_pushBinding_c 17 = .ok (.iload_n 3, 1) := by decide +kernel
theorem d_qx_pushBinding_18 : decode qx_pushBinding_c 18 = .ok (.ifCond .eq 5, 3) := by decide +kernel
theorem d_qx_pushBinding_21 : decode qx_pushBinding_c 21 = .ok (.iload_n 3, 1) := by decide +kernel
theorem d_qx_pushBinding_22 : decode qx_pushBinding_c 22 = .ok (.ireturn, 1) := by decide +kernel
theorem d_qx_pushBinding_23 : decode qx_pushBinding_c 23 = .ok (.aload_n 0, 1) := by decide +kernel
theorem d_qx_pushBinding_24 : decode qx_pushBinding_c 24 = .ok (.getfield 12, 3) := by decide +kernel
theorem d_qx_pushBinding_27 : decode qx_pushBinding_c 27 = .ok (.aload_n 0, 1) := by decide +kernel
theorem d_qx_pushBinding_28 : decode qx_pushBinding_c 28 = .ok (.iload_n 1, 1) := by decide +kernel
theorem d_qx_pushBinding_29 : decode qx_pushBinding_c 29 = .ok (.invokevirtual 71, 3) := by decide +kernel
theorem d_qx_pushBinding_32 : decode qx_pushBinding_c 32 = .ok (.invokestatic 88, 3) := by decide +kernel
theorem d_qx_pushBinding_35 : decode qx_pushBinding_c 35 = .ok (.iload_n 2, 1) := by decide +kernel
theorem d_qx_pushBinding_36 : decode qx_pushBinding_c 36 = .ok (.invokevirtual 98, 3) := by decide +kernel
theorem d_qx_pushBinding_39 : decode qx_pushBinding_c 39 = .ok (.istore 4, 2) := by decide +kernel
theorem d_qx_pushBinding_41 : decode qx_pushBinding_c 41 = .ok (.iload 4, 2) := by decide +kernel
theorem d_qx_pushBinding_43 : decode qx_pushBinding_c 43 = .ok (.iconst (-1), 1) := by decide +kernel
theorem d_qx_pushBinding_44 : decode qx_pushBinding_c 44 = .ok (.if_icmp .ne 6, 3) := by decide +kernel
theorem d_qx_pushBinding_47 : decode qx_pushBinding_c 47 = .ok (.bipush (-6), 2) := by decide +kernel
theorem d_qx_pushBinding_49 : decode qx_pushBinding_c 49 = .ok (.ireturn, 1) := by decide +kernel
theorem d_qx_pushBinding_50 : decode qx_pushBinding_c 50 = .ok (.aload_n 0, 1) := by decide +kernel
theorem d_qx_pushBinding_51 : decode qx_pushBinding_c 51 = .ok (.aload_n 0, 1) := by decide +kernel
theorem d_qx_pushBinding_52 : decode qx_pushBinding_c 52 = .ok (.getfield 12, 3) := by decide +kernel
theorem d_qx_pushBinding_55 : decode qx_pushBinding_c 55 = .ok (.iload 4, 2) := by decide +kernel
theorem d_qx_pushBinding_57 : decode qx_pushBinding_c 57 = .ok (.invokevirtual 101, 3) := by decide +kernel
theorem d_qx_pushBinding_60 : decode qx_pushBinding_c 60 = .ok (.invokevirtual 51, 3) := by decide +kernel
theorem d_qx_pushBinding_63 : decode qx_pushBinding_c 63 = .ok (.ireturn, 1) := by decide +kernel
theorem d_qh_add_0 : decode qh_add_c 0 = .ok (.aload_n 0, 1) := by decide +kernel
theorem d_qh_add_1 : decode qh_add_c 1 = .ok (.getfield 19, 3) := by decide +kernel
theorem d_qh_add_4 : decode qh_add_c 4 = .ok (.istore 5, 2) := by decide +kernel
theorem d_qh_add_6 : decode qh_add_c 6 = .ok (.iload 5, 2) := by decide +kernel
theorem d_qh_add_8 : decode qh_add_c 8 = .ok (.ifCond .lt 11, 3) := by decide +kernel
theorem d_qh_add_11 : decode qh_add_c 11 = .ok (.iload 5, 2) := by decide +kernel
theorem d_qh_add_13 : decode qh_add_c 13 = .ok (.sipush 4100, 3) := by decide +kernel
theorem d_qh_add_16 : decode qh_add_c 16 = .ok (.if_icmp .lt 5, 3) := by decide +kernel
theorem d_qh_add_19 : decode qh_add_c 19 = .ok (.iconst (-1), 1) := by decide +kernel
theorem d_qh_add_20 : decode qh_add_c 20 = .ok (.ireturn, 1) := by decide +kernel
theorem d_qh_add_21 : decode qh_add_c 21 = .ok (.aload_n 0, 1) := by decide +kernel
theorem d_qh_add_22 : decode qh_add_c 22 = .ok (.getfield 9, 3) := by decide +kernel
theorem d_qh_add_25 : decode qh_add_c 25 = .ok (.iload 5, 2) := by decide +kernel
theorem d_qh_add_27 : decode qh_add_c 27 = .ok (.lload_n 1, 1) := by decide +kernel
theorem d_qh_add_28 : decode qh_add_c 28 = .ok (.lastore, 1) := by decide +kernel
theorem d_qh_add_29 : decode qh_add_c 29 = .ok (.aload_n 0, 1) := by decide +kernel
theorem d_qh_add_30 : decode qh_add_c 30 = .ok (.getfield 13, 3) := by decide +kernel
theorem d_qh_add_33 : decode qh_add_c 33 = .ok (.iload 5, 2) := by decide +kernel
theorem d_qh_add_35 : decode qh_add_c 35 = .ok (.lload_n 3, 1) := by decide +kernel
theorem d_qh_add_36 : decode qh_add_c 36 = .ok (.lastore, 1) := by decide +kernel
theorem d_qh_add_37 : decode qh_add_c 37 = .ok (.aload_n 0, 1) := by decide +kernel
theorem d_qh_add_38 : decode qh_add_c 38 = .ok (.dup, 1) := by decide +kernel
theorem d_qh_add_39 : decode qh_add_c 39 = .ok (.getfield 19, 3) := by decide +kernel
theorem d_qh_add_42 : decode qh_add_c 42 = .ok (.iconst 1, 1) := by decide +kernel
theorem d_qh_add_43 : decode qh_add_c 43 = .ok (.iadd, 1) := by decide +kernel
theorem d_qh_add_44 : decode qh_add_c 44 = .ok (.putfield 19, 3) := by decide +kernel
theorem d_qh_add_47 : decode qh_add_c 47 = .ok (.iload 5, 2) := by decide +kernel
theorem d_qh_add_49 : decode qh_add_c 49 = .ok (.ireturn, 1) := by decide +kernel
theorem d_qh_addPair_0 : decode qh_addPair_c 0 = .ok (.aload_n 0, 1) := by decide +kernel
theorem d_qh_addPair_1 : decode qh_addPair_c 1 = .ok (.lload_n 1, 1) := by decide +kernel
theorem d_qh_addPair_2 : decode qh_addPair_c 2 = .ok (.lload_n 3, 1) := by decide +kernel
theorem d_qh_addPair_3 : decode qh_addPair_c 3 = .ok (.invokevirtual 49, 3) := by decide +kernel
theorem d_qh_addPair_6 : decode qh_addPair_c 6 = .ok (.ireturn, 1) := by decide +kernel
theorem d_qx_makePair_0 : decode qx_makePair_c 0 = .ok (.aload_n 0, 1) := by decide +kernel
theorem d_qx_makePair_1 : decode qx_makePair_c 1 = .ok (.getfield 31, 3) := by decide +kernel
theorem d_qx_makePair_4 : decode qx_makePair_c 4 = .ok (.iconst 2, 1) := by decide +kernel
theorem d_qx_makePair_5 : decode qx_makePair_c 5 = .ok (.if_icmp .ge 6, 3) := by decide +kernel
theorem d_qx_makePair_8 : decode qx_makePair_c 8 = .ok (.bipush (-2), 2) := by decide +kernel
theorem d_qx_makePair_10 : decode qx_makePair_c 10 = .ok (.ireturn, 1) := by decide +kernel
theorem d_qx_makePair_11 : decode qx_makePair_c 11 = .ok (.aload_n 0, 1) := by decide +kernel
theorem d_qx_makePair_12 : decode qx_makePair_c 12 = .ok (.getfield 12, 3) := by decide +kernel
theorem d_qx_makePair_15 : decode qx_makePair_c 15 = .ok (.aload_n 0, 1) := by decide +kernel
theorem d_qx_makePair_16 : decode qx_makePair_c 16 = .ok (.iconst 1, 1) := by decide +kernel
theorem d_qx_makePair_17 : decode qx_makePair_c 17 = .ok (.invokevirtual 71, 3) := by decide +kernel
theorem d_qx_makePair_20 : decode qx_makePair_c 20 = .ok (.aload_n 0, 1) := by decide +kernel
theorem d_qx_makePair_21 : decode qx_makePair_c 21 = .ok (.iconst 0, 1) := by decide +kernel
theorem d_qx_makePair_22 : decode qx_makePair_c 22 = .ok (.invokevirtual 71, 3) := by decide +kernel
theorem d_qx_makePair_25 : decode qx_makePair_c 25 = .ok (.invokevirtual 104, 3) := by decide +kernel
theorem d_qx_makePair_28 : decode qx_makePair_c 28 = .ok (.istore_n 1, 1) := by decide +kernel
theorem d_qx_makePair_29 : decode qx_makePair_c 29 = .ok (.iload_n 1, 1) := by decide +kernel
theorem d_qx_makePair_30 : decode qx_makePair_c 30 = .ok (.iconst (-1), 1) := by decide +kernel
theorem d_qx_makePair_31 : decode qx_makePair_c 31 = .ok (.if_icmp .ne 6, 3) := by decide +kernel
theorem d_qx_makePair_34 : decode qx_makePair_c 34 = .ok (.bipush (-5), 2) := by decide +kernel
theorem d_qx_makePair_36 : decode qx_makePair_c 36 = .ok (.ireturn, 1) := by decide +kernel
theorem d_qx_makePair_37 : decode qx_makePair_c 37 = .ok (.aload_n 0, 1) := by decide +kernel
theorem d_qx_makePair_38 : decode qx_makePair_c 38 = .ok (.dup, 1) := by decide +kernel
theorem d_qx_makePair_39 : decode qx_makePair_c 39 = .ok (.getfield 31, 3) := by decide +kernel
theorem d_qx_makePair_42 : decode qx_makePair_c 42 = .ok (.iconst 2, 1) := by decide +kernel
theorem d_qx_makePair_43 : decode qx_makePair_c 43 = .ok (.isub, 1) := by decide +kernel
theorem d_qx_makePair_44 : decode qx_makePair_c 44 = .ok (.putfield 31, 3) := by decide +kernel
theorem d_qx_makePair_47 : decode qx_makePair_c 47 = .ok (.aload_n 0, 1) := by decide +kernel
theorem d_qx_makePair_48 : decode qx_makePair_c 48 = .ok (.iconst 4, 1) := by decide +kernel
theorem d_qx_makePair_49 : decode qx_makePair_c 49 = .ok (.iload_n 1, 1) := by decide +kernel
theorem d_qx_makePair_50 : decode qx_makePair_c 50 = .ok (.i2l, 1) := by decide +kernel
theorem d_qx_makePair_51 : decode qx_makePair_c 51 = .ok (.invokestatic 47, 3) := by decide +kernel
theorem d_qx_makePair_54 : decode qx_makePair_c 54 = .ok (.invokevirtual 51, 3) := by decide +kernel
theorem d_qx_makePair_57 : decode qx_makePair_c 57 = .ok (.ireturn, 1) := by decide +kernel
theorem d_qx_countError_0 : decode qx_countError_c 0 = .ok (.iload_n 1, 1) := by decide +kernel
theorem d_qx_countError_1 : decode qx_countError_c 1 = .ok (.ifCond .lt 9, 3) := by decide +kernel
theorem d_qx_countError_4 : decode qx_countError_c 4 = .ok (.iload_n 1, 1) := by decide +kernel
theorem d_qx_countError_5 : decode qx_countError_c 5 = .ok (.bipush 40, 2) := by decide +kernel
theorem d_qx_countError_7 : decode qx_countError_c 7 = .ok (.if_icmp .le 5, 3) := by decide +kernel
theorem d_qx_countError_10 : decode qx_countError_c 10 = .ok (.iconst (-1), 1) := by decide +kernel
theorem d_qx_countError_11 : decode qx_countError_c 11 = .ok (.ireturn, 1) := by decide +kernel
theorem d_qx_countError_12 : decode qx_countError_c 12 = .ok (.iload_n 1, 1) := by decide +kernel
theorem d_qx_countError_13 : decode qx_countError_c 13 = .ok (.aload_n 0, 1) := by decide +kernel
theorem d_qx_countError_14 : decode qx_countError_c 14 = .ok (.getfield 31, 3) := by decide +kernel
theorem d_qx_countError_17 : decode qx_countError_c 17 = .ok (.if_icmp .le 8, 3) := by decide +kernel
theorem d_qx_countError_20 : decode qx_countError_c 20 = .ok (.bipush (-2), 2) := by decide +kernel
theorem d_qx_countError_22 : decode qx_countError_c 22 = .ok (.goto 4, 3) := by decide +kernel
theorem d_qx_countError_25 : decode qx_countError_c 25 = .ok (.iconst 0, 1) := by decide +kernel
theorem d_qx_countError_26 : decode qx_countError_c 26 = .ok (.ireturn, 1) := by decide +kernel
theorem d_qh_hasRoomFor_0 : decode qh_hasRoomFor_c 0 = .ok (.sipush 4100, 3) := by decide +kernel
theorem d_qh_hasRoomFor_3 : decode qh_hasRoomFor_c 3 = .ok (.aload_n 0, 1) := by decide +kernel
theorem d_qh_hasRoomFor_4 : decode qh_hasRoomFor_c 4 = .ok (.getfield 19, 3) := by decide +kernel
theorem d_qh_hasRoomFor_7 : decode qh_hasRoomFor_c 7 = .ok (.isub, 1) := by decide +kernel
theorem d_qh_hasRoomFor_8 : decode qh_hasRoomFor_c 8 = .ok (.iload_n 1, 1) := by decide +kernel
theorem d_qh_hasRoomFor_9 : decode qh_hasRoomFor_c 9 = .ok (.if_icmp .lt 7, 3) := by decide +kernel
theorem d_qh_hasRoomFor_12 : decode qh_hasRoomFor_c 12 = .ok (.iconst 1, 1) := by decide +kernel
theorem d_qh_hasRoomFor_13 : decode qh_hasRoomFor_c 13 = .ok (.goto 4, 3) := by decide +kernel
theorem d_qh_hasRoomFor_16 : decode qh_hasRoomFor_c 16 = .ok (.iconst 0, 1) := by decide +kernel
theorem d_qh_hasRoomFor_17 : decode qh_hasRoomFor_c 17 = .ok (.ireturn, 1) := by decide +kernel
theorem d_qx_makeList_0 : decode qx_makeList_c 0 = .ok (.aload_n 0, 1) := by decide +kernel
theorem d_qx_makeList_1 : decode qx_makeList_c 1 = .ok (.iload_n 1, 1) := by decide +kernel
theorem d_qx_makeList_2 : decode qx_makeList_c 2 = .ok (.invokevirtual 108, 3) := by decide +kernel
theorem d_qx_makeList_5 : decode qx_makeList_c 5 = .ok (.istore_n 2, 1) := by decide +kernel
theorem d_qx_makeList_6 : decode qx_makeList_c 6 = .ok (.iload_n 2, 1) := by decide +kernel
theorem d_qx_makeList_7 : decode qx_makeList_c 7 = .ok (.ifCond .eq 5, 3) := by decide +kernel
theorem d_qx_makeList_10 : decode qx_makeList_c 10 = .ok (.iload_n 2, 1) := by decide +kernel
theorem d_qx_makeList_11 : decode qx_makeList_c 11 = .ok (.ireturn, 1) := by decide +kernel
theorem d_qx_makeList_12 : decode qx_makeList_c 12 = .ok (.aload_n 0, 1) := by decide +kernel
theorem d_qx_makeList_13 : decode qx_makeList_c 13 = .ok (.getfield 12, 3) := by decide +kernel
theorem d_qx_makeList_16 : decode qx_makeList_c 16 = .ok (.iload_n 1, 1) := by decide +kernel
theorem d_qx_makeList_17 : decode qx_makeList_c 17 = .ok (.invokevirtual 111, 3) := by decide +kernel
theorem d_qx_makeList_20 : decode qx_makeList_c 20 = .ok (.ifCond .ne 6, 3) := by decide +kernel
theorem d_qx_makeList_23 : decode qx_makeList_c 23 = .ok (.bipush (-5), 2) := by decide +kernel
theorem d_qx_makeList_25 : decode qx_makeList_c 25 = .ok (.ireturn, 1) := by decide +kernel
theorem d_qx_makeList_26 : decode qx_makeList_c 26 = .ok (.ldc2_w 65, 3) := by decide +kernel
theorem d_qx_makeList_29 : decode qx_makeList_c 29 = .ok (.lstore_n 3, 1) := by decide +kernel
theorem d_qx_makeList_30 : decode qx_makeList_c 30 = .ok (.iconst 0, 1) := by decide +kernel
theorem d_qx_makeList_31 : decode qx_makeList_c 31 = .ok (.istore 5, 2) := by decide +kernel
theorem d_qx_makeList_33 : decode qx_makeList_c 33 = .ok (.iload 5, 2) := by decide +kernel
theorem d_qx_makeList_35 : decode qx_makeList_c 35 = .ok (.iload_n 1, 1) := by decide +kernel
theorem d_qx_makeList_36 : decode qx_makeList_c 36 = .ok (.if_icmp .ge 29, 3) := by decide +kernel
theorem d_qx_makeList_39 : decode qx_makeList_c 39 = .ok (.iconst 4, 1) := by decide +kernel
theorem d_qx_makeList_40 : decode qx_makeList_c 40 = .ok (.aload_n 0, 1) := by decide +kernel
theorem d_qx_makeList_41 : decode qx_makeList_c 41 = .ok (.getfield 12, 3) := by decide +kernel
theorem d_qx_makeList_44 : decode qx_makeList_c 44 = .ok (.aload_n 0, 1) := by decide +kernel
theorem d_qx_makeList_45 : decode qx_makeList_c 45 = .ok (.iload 5, 2) := by decide +kernel
theorem d_qx_makeList_47 : decode qx_makeList_c 47 = .ok (.invokevirtual 71, 3) := by decide +kernel
theorem d_qx_makeList_50 : decode qx_makeList_c 50 = .ok (.lload_n 3, 1) := by decide +kernel
theorem d_qx_makeList_51 : decode qx_makeList_c 51 = .ok (.invokevirtual 104, 3) := by decide +kernel
theorem d_qx_makeList_54 : decode qx_makeList_c 54 = .ok (.i2l, 1) := by decide +kernel
theorem d_qx_makeList_55 : decode qx_makeList_c 55 = .ok (.invokestatic 47, 3) := by decide +kernel
theorem d_qx_makeList_58 : decode qx_makeList_c 58 = .ok (.lstore_n 3, 1) := by decide +kernel
theorem d_qx_makeList_59 : decode qx_makeList_c 59 = .ok (.iinc 5 1, 3) := by decide +kernel
theorem d_qx_makeList_62 : decode qx_makeList_c 62 = .ok (.goto (-29), 3) := by decide +kernel
theorem d_qx_makeList_65 : decode qx_makeList_c 65 = .ok (.aload_n 0, 1) := by decide +kernel
theorem d_qx_makeList_66 : decode qx_makeList_c 66 = .ok (.dup, 1) := by decide +kernel
theorem d_qx_makeList_67 : decode qx_makeList_c 67 = .ok (.getfield 31, 3) := by decide +kernel
theorem d_qx_makeList_70 : decode qx_makeList_c 70 = .ok (.iload_n 1, 1) := by decide +kernel
theorem d_qx_makeList_71 : decode qx_makeList_c 71 = .ok (.isub, 1) := by decide +kernel
theorem d_qx_makeList_72 : decode qx_makeList_c 72 = .ok (.putfield 31, 3) := by decide +kernel
theorem d_qx_makeList_75 : decode qx_makeList_c 75 = .ok (.aload_n 0, 1) := by decide +kernel
theorem d_qx_makeList_76 : decode qx_makeList_c 76 = .ok (.lload_n 3, 1) := by decide +kernel
theorem d_qx_makeList_77 : decode qx_makeList_c 77 = .ok (.invokevirtual 51, 3) := by decide +kernel
theorem d_qx_makeList_80 : decode qx_makeList_c 80 = .ok (.ireturn, 1) := by decide +kernel
theorem d_qx_drop_0 : decode qx_drop_c 0 = .ok (.aload_n 0, 1) := by decide +kernel
theorem d_qx_drop_1 : decode qx_drop_c 1 = .ok (.iload_n 1, 1) := by decide +kernel
theorem d_qx_drop_2 : decode qx_drop_c 2 = .ok (.invokevirtual 108, 3) := by decide +kernel
theorem d_qx_drop_5 : decode qx_drop_c 5 = .ok (.istore_n 2, 1) := by decide +kernel
theorem d_qx_drop_6 : decode qx_drop_c 6 = .ok (.iload_n 2, 1) := by decide +kernel
theorem d_qx_drop_7 : decode qx_drop_c 7 = .ok (.ifCond .eq 5, 3) := by decide +kernel
theorem d_qx_drop_10 : decode qx_drop_c 10 = .ok (.iload_n 2, 1) := by decide +kernel
theorem d_qx_drop_11 : decode qx_drop_c 11 = .ok (.ireturn, 1) := by decide +kernel
theorem d_qx_drop_12 : decode qx_drop_c 12 = .ok (.aload_n 0, 1) := by decide +kernel
theorem d_qx_drop_13 : decode qx_drop_c 13 = .ok (.dup, 1) := by decide +kernel
theorem d_qx_drop_14 : decode qx_drop_c 14 = .ok (.getfield 31, 3) := by decide +kernel
theorem d_qx_drop_17 : decode qx_drop_c 17 = .ok (.iload_n 1, 1) := by decide +kernel
theorem d_qx_drop_18 : decode qx_drop_c 18 = .ok (.isub, 1) := by decide +kernel
theorem d_qx_drop_19 : decode qx_drop_c 19 = .ok (.putfield 31, 3) := by decide +kernel
theorem d_qx_drop_22 : decode qx_drop_c 22 = .ok (.aload_n 0, 1) := by decide +kernel
theorem d_qx_drop_23 : decode qx_drop_c 23 = .ok (.getfield 31, 3) := by decide +kernel
theorem d_qx_drop_26 : decode qx_drop_c 26 = .ok (.ireturn, 1) := by decide +kernel
theorem d_qh_objectCount_0 : decode qh_objectCount_c 0 = .ok (.aload_n 0, 1) := by decide +kernel
theorem d_qh_objectCount_1 : decode qh_objectCount_c 1 = .ok (.getfield 19, 3) := by decide +kernel
theorem d_qh_objectCount_4 : decode qh_objectCount_c 4 = .ok (.bipush 100, 2) := by decide +kernel
theorem d_qh_objectCount_6 : decode qh_objectCount_c 6 = .ok (.isub, 1) := by decide +kernel
theorem d_qh_objectCount_7 : decode qh_objectCount_c 7 = .ok (.ireturn, 1) := by decide +kernel
theorem d_qx_reset_0 : decode qx_reset_c 0 = .ok (.aload_n 0, 1) := by decide +kernel
theorem d_qx_reset_1 : decode qx_reset_c 1 = .ok (.getfield 12, 3) := by decide +kernel
theorem d_qx_reset_4 : decode qx_reset_c 4 = .ok (.invokevirtual 114, 3) := by decide +kernel
theorem d_qx_reset_7 : decode qx_reset_c 7 = .ok (.istore_n 1, 1) := by decide +kernel
theorem d_qx_reset_8 : decode qx_reset_c 8 = .ok (.aload_n 0, 1) := by decide +kernel
theorem d_qx_reset_9 : decode qx_reset_c 9 = .ok (.getfield 12, 3) := by decide +kernel
theorem d_qx_reset_12 : decode qx_reset_c 12 = .ok (.invokevirtual 118, 3) := by decide +kernel
theorem d_qx_reset_15 : decode qx_reset_c 15 = .ok (.aload_n 0, 1) := by decide +kernel
theorem d_qx_reset_16 : decode qx_reset_c 16 = .ok (.getfield 23, 3) := by decide +kernel
theorem d_qx_reset_19 : decode qx_reset_c 19 = .ok (.invokevirtual 121, 3) := by decide +kernel
theorem d_qx_reset_22 : decode qx_reset_c 22 = .ok (.aload_n 0, 1) := by decide +kernel
theorem d_qx_reset_23 : decode qx_reset_c 23 = .ok (.iconst 0, 1) := by decide +kernel
theorem d_qx_reset_24 : decode qx_reset_c 24 = .ok (.putfield 31, 3) := by decide +kernel
theorem d_qx_reset_27 : decode qx_reset_c 27 = .ok (.aload_n 0, 1) := by decide +kernel
theorem d_qx_reset_28 : decode qx_reset_c 28 = .ok (.iconst 1, 1) := by decide +kernel
theorem d_qx_reset_29 : decode qx_reset_c 29 = .ok (.putfield 35, 3) := by decide +kernel
theorem d_qx_reset_32 : decode qx_reset_c 32 = .ok (.aload_n 0, 1) := by decide +kernel
theorem d_qx_reset_33 : decode qx_reset_c 33 = .ok (.sipush 1000, 3) := by decide +kernel
theorem d_qx_reset_36 : decode qx_reset_c 36 = .ok (.putfield 38, 3) := by decide +kernel
theorem d_qx_reset_39 : decode qx_reset_c 39 = .ok (.iload_n 1, 1) := by decide +kernel
theorem d_qx_reset_40 : decode qx_reset_c 40 = .ok (.ireturn, 1) := by decide +kernel
theorem d_qx_size_0 : decode qx_size_c 0 = .ok (.aload_n 0, 1) := by decide +kernel
theorem d_qx_size_1 : decode qx_size_c 1 = .ok (.getfield 31, 3) := by decide +kernel
theorem d_qx_size_4 : decode qx_size_c 4 = .ok (.ireturn, 1) := by decide +kernel
theorem d_qx_kind_0 : decode qx_kind_c 0 = .ok (.aload_n 0, 1) := by decide +kernel
theorem d_qx_kind_1 : decode qx_kind_c 1 = .ok (.iload_n 1, 1) := by decide +kernel
theorem d_qx_kind_2 : decode qx_kind_c 2 = .ok (.invokevirtual 67, 3) := by decide +kernel
theorem d_qx_kind_5 : decode qx_kind_c 5 = .ok (.istore_n 2, 1) := by decide +kernel
theorem d_qx_kind_6 : decode qx_kind_c 6 = .ok (.iload_n 2, 1) := by decide +kernel
theorem d_qx_kind_7 : decode qx_kind_c 7 = .ok (.ifCond .eq 7, 3) := by decide +kernel
theorem d_qx_kind_10 : decode qx_kind_c 10 = .ok (.iload_n 2, 1) := by decide +kernel
theorem d_qx_kind_11 : decode qx_kind_c 11 = .ok (.goto 11, 3) := by decide +kernel
theorem d_qx_kind_14 : decode qx_kind_c 14 = .ok (.aload_n 0, 1) := by decide +kernel
theorem d_qx_kind_15 : decode qx_kind_c 15 = .ok (.iload_n 1, 1) := by decide +kernel
theorem d_qx_kind_16 : decode qx_kind_c 16 = .ok (.invokevirtual 71, 3) := by decide +kernel
theorem d_qx_kind_19 : decode qx_kind_c 19 = .ok (.invokestatic 75, 3) := by decide +kernel
theorem d_qx_kind_22 : decode qx_kind_c 22 = .ok (.ireturn, 1) := by decide +kernel
theorem d_qw_contentOf_0 : decode qw_contentOf_c 0 = .ok (.lload_n 0, 1) := by decide +kernel
theorem d_qw_contentOf_1 : decode qw_contentOf_c 1 = .ok (.iconst 4, 1) := by decide +kernel
theorem d_qw_contentOf_2 : decode qw_contentOf_c 2 = .ok (.lshr, 1) := by decide +kernel
theorem d_qw_contentOf_3 : decode qw_contentOf_c 3 = .ok (.lreturn, 1) := by decide +kernel
theorem d_qx_value_0 : decode qx_value_c 0 = .ok (.aload_n 0, 1) := by decide +kernel
theorem d_qx_value_1 : decode qx_value_c 1 = .ok (.iload_n 1, 1) := by decide +kernel
theorem d_qx_value_2 : decode qx_value_c 2 = .ok (.invokevirtual 67, 3) := by decide +kernel
theorem d_qx_value_5 : decode qx_value_c 5 = .ok (.ifCond .eq 7, 3) := by decide +kernel
theorem d_qx_value_8 : decode qx_value_c 8 = .ok (.ldc2_w 124, 3) := by decide +kernel
theorem d_qx_value_11 : decode qx_value_c 11 = .ok (.lreturn, 1) := by decide +kernel
theorem d_qx_value_12 : decode qx_value_c 12 = .ok (.aload_n 0, 1) := by decide +kernel
theorem d_qx_value_13 : decode qx_value_c 13 = .ok (.iload_n 1, 1) := by decide +kernel
theorem d_qx_value_14 : decode qx_value_c 14 = .ok (.invokevirtual 71, 3) := by decide +kernel
theorem d_qx_value_17 : decode qx_value_c 17 = .ok (.lstore_n 2, 1) := by decide +kernel
theorem d_qx_value_18 : decode qx_value_c 18 = .ok (.lload_n 2, 1) := by decide +kernel
theorem d_qx_value_19 : decode qx_value_c 19 = .ok (.invokestatic 75, 3) := by decide +kernel
theorem d_qx_value_22 : decode qx_value_c 22 = .ok (.istore 4, 2) := by decide +kernel
theorem d_qx_value_24 : decode qx_value_c 24 = .ok (.iload 4, 2) := by decide +kernel
theorem d_qx_value_26 : decode qx_value_c 26 = .ok (.ifCond .eq 15, 3) := by decide +kernel
theorem d_qx_value_29 : decode qx_value_c 29 = .ok (.iload 4, 2) := by decide +kernel
theorem d_qx_value_31 : decode qx_value_c 31 = .ok (.iconst 1, 1) := by decide +kernel
theorem d_qx_value_32 : decode qx_value_c 32 = .ok (.if_icmp .eq 9, 3) := by decide +kernel
theorem d_qx_value_35 : decode qx_value_c 35 = .ok (.iload 4, 2) := by decide +kernel
theorem d_qx_value_37 : decode qx_value_c 37 = .ok (.iconst 2, 1) := by decide +kernel
theorem d_qx_value_38 : decode qx_value_c 38 = .ok (.if_icmp .ne 7, 3) := by decide +kernel
theorem d_qx_value_41 : decode qx_value_c 41 = .ok (.iconst 1, 1) := by decide +kernel
theorem d_qx_value_42 : decode qx_value_c 42 = .ok (.goto 4, 3) := by decide +kernel
theorem d_qx_value_45 : decode qx_value_c 45 = .ok (.iconst 0, 1) := by decide +kernel
theorem d_qx_value_46 : decode qx_value_c 46 = .ok (.istore 5, 2) := by decide +kernel
theorem d_qx_value_48 : decode qx_value_c 48 = .ok (.iload 5, 2) := by decide +kernel
theorem d_qx_value_50 : decode qx_value_c 50 = .ok (.ifCond .eq 10, 3) := by decide +kernel
theorem d_qx_value_53 : decode qx_value_c 53 = .ok (.lload_n 2, 1) := by decide +kernel
theorem d_qx_value_54 : decode qx_value_c 54 = .ok (.invokestatic 126, 3) := by decide +kernel
theorem d_qx_value_57 : decode qx_value_c 57 = .ok (.goto 6, 3) := by decide +kernel
theorem d_qx_value_60 : decode qx_value_c 60 = .ok (.ldc2_w 124, 3) := by decide +kernel
theorem d_qx_value_63 : decode qx_value_c 63 = .ok (.lreturn, 1) := by decide +kernel
theorem d_qx_areSame_0 : decode qx_areSame_c 0 = .ok (.iload_n 1, 1) := by decide +kernel
theorem d_qx_areSame_1 : decode qx_areSame_c 1 = .ok (.ifCond .lt 7, 3) := by decide +kernel
theorem d_qx_areSame_4 : decode qx_areSame_c 4 = .ok (.iload_n 2, 1) := by decide +kernel
theorem d_qx_areSame_5 : decode qx_areSame_c 5 = .ok (.ifCond .ge 5, 3) := by decide +kernel
theorem d_qx_areSame_8 : decode qx_areSame_c 8 = .ok (.iconst (-1), 1) := by decide +kernel
theorem d_qx_areSame_9 : decode qx_areSame_c 9 = .ok (.ireturn, 1) := by decide +kernel
theorem d_qx_areSame_10 : decode qx_areSame_c 10 = .ok (.iload_n 1, 1) := by decide +kernel
theorem d_qx_areSame_11 : decode qx_areSame_c 11 = .ok (.aload_n 0, 1) := by decide +kernel
theorem d_qx_areSame_12 : decode qx_areSame_c 12 = .ok (.getfield 31, 3) := by decide +kernel
theorem d_qx_areSame_15 : decode qx_areSame_c 15 = .ok (.if_icmp .ge 11, 3) := by decide +kernel
theorem d_qx_areSame_18 : decode qx_areSame_c 18 = .ok (.iload_n 2, 1) := by decide +kernel
theorem d_qx_areSame_19 : decode qx_areSame_c 19 = .ok (.aload_n 0, 1) := by decide +kernel
theorem d_qx_areSame_20 : decode qx_areSame_c 20 = .ok (.getfield 31, 3) := by decide +kernel
theorem d_qx_areSame_23 : decode qx_areSame_c 23 = .ok (.if_icmp .lt 6, 3) := by decide +kernel
theorem d_qx_areSame_26 : decode qx_areSame_c 26 = .ok (.bipush (-2), 2) := by decide +kernel
theorem d_qx_areSame_28 : decode qx_areSame_c 28 = .ok (.ireturn, 1) := by decide +kernel
theorem d_qx_areSame_29 : decode qx_areSame_c 29 = .ok (.aload_n 0, 1) := by decide +kernel
theorem d_qx_areSame_30 : decode qx_areSame_c 30 = .ok (.iload_n 1, 1) := by decide +kernel
theorem d_qx_areSame_31 : decode qx_areSame_c 31 = .ok (.invokevirtual 71, 3) := by decide +kernel
theorem d_qx_areSame_34 : decode qx_areSame_c 34 = .ok (.aload_n 0, 1) := by decide +kernel
theorem d_qx_areSame_35 : decode qx_areSame_c 35 = .ok (.iload_n 2, 1) := by decide +kernel
theorem d_qx_areSame_36 : decode qx_areSame_c 36 = .ok (.invokevirtual 71, 3) := by decide +kernel
theorem d_qx_areSame_39 : decode qx_areSame_c 39 = .ok (.lcmp, 1) := by decide +kernel
theorem d_qx_areSame_40 : decode qx_areSame_c 40 = .ok (.ifCond .ne 7, 3) := by decide +kernel
theorem d_qx_areSame_43 : decode qx_areSame_c 43 = .ok (.iconst 1, 1) := by decide +kernel
theorem d_qx_areSame_44 : decode qx_areSame_c 44 = .ok (.goto 4, 3) := by decide +kernel
theorem d_qx_areSame_47 : decode qx_areSame_c 47 = .ok (.iconst 0, 1) := by decide +kernel
theorem d_qx_areSame_48 : decode qx_areSame_c 48 = .ok (.ireturn, 1) := by decide +kernel
theorem d_qh_lengthOf_0 : decode qh_lengthOf_c 0 = .ok (.lload_n 1, 1) := by decide +kernel
theorem d_qh_lengthOf_1 : decode qh_lengthOf_c 1 = .ok (.lstore_n 3, 1) := by decide +kernel
theorem d_qh_lengthOf_2 : decode qh_lengthOf_c 2 = .ok (.iconst 0, 1) := by decide +kernel
theorem d_qh_lengthOf_3 : decode qh_lengthOf_c 3 = .ok (.istore 5, 2) := by decide +kernel
theorem d_qh_lengthOf_5 : decode qh_lengthOf_c 5 = .ok (.iload 5, 2) := by decide +kernel
theorem d_qh_lengthOf_7 : decode qh_lengthOf_c 7 = .ok (.sipush 4100, 3) := by decide +kernel
theorem d_qh_lengthOf_10 : decode qh_lengthOf_c 10 = .ok (.if_icmp .gt 36, 3) := by decide +kernel
theorem d_qh_lengthOf_13 : decode qh_lengthOf_c 13 = .ok (.lload_n 3, 1) := by decide +kernel
theorem d_qh_lengthOf_14 : decode qh_lengthOf_c 14 = .ok (.ldc2_w 47, 3) := by decide +kernel
theorem d_qh_lengthOf_17 : decode qh_lengthOf_c 17 = .ok (.lcmp, 1) := by decide +kernel
theorem d_qh_lengthOf_18 : decode qh_lengthOf_c 18 = .ok (.ifCond .ne 6, 3) := by decide +kernel
theorem d_qh_lengthOf_21 : decode qh_lengthOf_c 21 = .ok (.iload 5, 2) := by decide +kernel
theorem d_qh_lengthOf_23 : decode qh_lengthOf_c 23 = .ok (.ireturn, 1) := by decide +kernel
theorem d_qh_lengthOf_24 : decode qh_lengthOf_c 24 = .ok (.lload_n 3, 1) := by decide +kernel
theorem d_qh_lengthOf_25 : decode qh_lengthOf_c 25 = .ok (.invokestatic 64, 3) := by decide +kernel
theorem d_qh_lengthOf_28 : decode qh_lengthOf_c 28 = .ok (.iconst 4, 1) := by decide +kernel
theorem d_qh_lengthOf_29 : decode qh_lengthOf_c 29 = .ok (.if_icmp .eq 5, 3) := by decide +kernel
theorem d_qh_lengthOf_32 : decode qh_lengthOf_c 32 = .ok (.iconst (-1), 1) := by decide +kernel
theorem d_qh_lengthOf_33 : decode qh_lengthOf_c 33 = .ok (.ireturn, 1) := by decide +kernel
theorem d_qh_lengthOf_34 : decode qh_lengthOf_c 34 = .ok (.aload_n 0, 1) := by decide +kernel
theorem d_qh_lengthOf_35 : decode qh_lengthOf_c 35 = .ok (.lload_n 3, 1) := by decide +kernel
theorem d_qh_lengthOf_36 : decode qh_lengthOf_c 36 = .ok (.invokevirtual 67, 3) := by decide +kernel
theorem d_qh_lengthOf_39 : decode qh_lengthOf_c 39 = .ok (.lstore_n 3, 1) := by decide +kernel
theorem d_qh_lengthOf_40 : decode qh_lengthOf_c 40 = .ok (.iinc 5 1, 3) := by decide +kernel
theorem d_qh_lengthOf_43 : decode qh_lengthOf_c 43 = .ok (.goto (-38), 3) := by decide +kernel
theorem d_qh_lengthOf_46 : decode qh_lengthOf_c 46 = .ok (.iconst (-1), 1) := by decide +kernel
theorem d_qh_lengthOf_47 : decode qh_lengthOf_c 47 = .ok (.ireturn, 1) := by decide +kernel
theorem d_qx_length_0 : decode qx_length_c 0 = .ok (.aload_n 0, 1) := by decide +kernel
theorem d_qx_length_1 : decode qx_length_c 1 = .ok (.iload_n 1, 1) := by decide +kernel
theorem d_qx_length_2 : decode qx_length_c 2 = .ok (.invokevirtual 67, 3) := by decide +kernel
theorem d_qx_length_5 : decode qx_length_c 5 = .ok (.istore_n 2, 1) := by decide +kernel
theorem d_qx_length_6 : decode qx_length_c 6 = .ok (.iload_n 2, 1) := by decide +kernel
theorem d_qx_length_7 : decode qx_length_c 7 = .ok (.ifCond .eq 5, 3) := by decide +kernel
theorem d_qx_length_10 : decode qx_length_c 10 = .ok (.iload_n 2, 1) := by decide +kernel
theorem d_qx_length_11 : decode qx_length_c 11 = .ok (.ireturn, 1) := by decide +kernel
theorem d_qx_length_12 : decode qx_length_c 12 = .ok (.aload_n 0, 1) := by decide +kernel
theorem d_qx_length_13 : decode qx_length_c 13 = .ok (.getfield 12, 3) := by decide +kernel
theorem d_qx_length_16 : decode qx_length_c 16 = .ok (.aload_n 0, 1) := by decide +kernel
theorem d_qx_length_17 : decode qx_length_c 17 = .ok (.iload_n 1, 1) := by decide +kernel
theorem d_qx_length_18 : decode qx_length_c 18 = .ok (.invokevirtual 71, 3) := by decide +kernel
theorem d_qx_length_21 : decode qx_length_c 21 = .ok (.invokevirtual 129, 3) := by decide +kernel
theorem d_qx_length_24 : decode qx_length_c 24 = .ok (.istore_n 3, 1) := by decide +kernel
theorem d_qx_length_25 : decode qx_length_c 25 = .ok (.iload_n 3, 1) := by decide +kernel
theorem d_qx_length_26 : decode qx_length_c 26 = .ok (.iconst (-1), 1) := by decide +kernel
theorem d_qx_length_27 : decode qx_length_c 27 = .ok (.if_icmp .ne 8, 3) := by decide +kernel
theorem d_qx_length_30 : decode qx_length_c 30 = .ok (.bipush (-4), 2) := by decide +kernel
theorem d_qx_length_32 : decode qx_length_c 32 = .ok (.goto 4, 3) := by decide +kernel
theorem d_qx_length_35 : decode qx_length_c 35 = .ok (.iload_n 3, 1) := by decide +kernel
theorem d_qx_length_36 : decode qx_length_c 36 = .ok (.ireturn, 1) := by decide +kernel
theorem d_qh_countBindings_0 : decode qh_countBindings_c 0 = .ok (.iconst 0, 1) := by decide +kernel
theorem d_qh_countBindings_1 : decode qh_countBindings_c 1 = .ok (.istore_n 2, 1) := by decide +kernel
theorem d_qh_countBindings_2 : decode qh_countBindings_c 2 = .ok (.aload_n 0, 1) := by decide +kernel
theorem d_qh_countBindings_3 : decode qh_countBindings_c 3 = .ok (.iload_n 1, 1) := by decide +kernel
theorem d_qh_countBindings_4 : decode qh_countBindings_c 4 = .ok (.invokevirtual 39, 3) := by decide +kernel
theorem d_qh_countBindings_7 : decode qh_countBindings_c 7 = .ok (.istore_n 3, 1) := by decide +kernel
theorem d_qh_countBindings_8 : decode qh_countBindings_c 8 = .ok (.iload_n 3, 1) := by decide +kernel
theorem d_qh_countBindings_9 : decode qh_countBindings_c 9 = .ok (.iconst (-1), 1) := by decide +kernel
theorem d_qh_countBindings_10 : decode qh_countBindings_c 10 = .ok (.if_icmp .eq 25, 3) := by decide +kernel
theorem d_qh_countBindings_13 : decode qh_countBindings_c 13 = .ok (.iload_n 2, 1) := by decide +kernel
theorem d_qh_countBindings_14 : decode qh_countBindings_c 14 = .ok (.sipush 4100, 3) := by decide +kernel
theorem d_qh_countBindings_17 : decode qh_countBindings_c 17 = .ok (.if_icmp .ge 18, 3) := by decide +kernel
theorem d_qh_countBindings_20 : decode qh_countBindings_c 20 = .ok (.iinc 2 1, 3) := by decide +kernel
theorem d_qh_countBindings_23 : decode qh_countBindings_c 23 = .ok (.aload_n 0, 1) := by decide +kernel
theorem d_qh_countBindings_24 : decode qh_countBindings_c 24 = .ok (.iload_n 3, 1) := by decide +kernel
theorem d_qh_countBindings_25 : decode qh_countBindings_c 25 = .ok (.invokevirtual 61, 3) := by decide +kernel
theorem d_qh_countBindings_28 : decode qh_countBindings_c 28 = .ok (.invokestatic 75, 3) := by decide +kernel
theorem d_qh_countBindings_31 : decode qh_countBindings_c 31 = .ok (.istore_n 3, 1) := by decide +kernel
theorem d_qh_countBindings_32 : decode qh_countBindings_c 32 = .ok (.goto (-24), 3) := by decide +kernel
theorem d_qh_countBindings_35 : decode qh_countBindings_c 35 = .ok (.iload_n 2, 1) := by decide +kernel
theorem d_qh_countBindings_36 : decode qh_countBindings_c 36 = .ok (.ireturn, 1) := by decide +kernel
theorem d_qx_bindingCount_0 : decode qx_bindingCount_c 0 = .ok (.aload_n 0, 1) := by decide +kernel
theorem d_qx_bindingCount_1 : decode qx_bindingCount_c 1 = .ok (.iload_n 1, 1) := by decide +kernel
theorem d_qx_bindingCount_2 : decode qx_bindingCount_c 2 = .ok (.bipush 7, 2) := by decide +kernel
theorem d_qx_bindingCount_4 : decode qx_bindingCount_c 4 = .ok (.invokevirtual 94, 3) := by decide +kernel
theorem d_qx_bindingCount_7 : decode qx_bindingCount_c 7 = .ok (.istore_n 2, 1) := by decide +kernel
theorem d_qx_bindingCount_8 : decode qx_bindingCount_c 8 = .ok (.iload_n 2, 1) := by decide +kernel
theorem d_qx_bindingCount_9 : decode qx_bindingCount_c 9 = .ok (.ifCond .eq 7, 3) := by decide +kernel
theorem d_qx_bindingCount_12 : decode qx_bindingCount_c 12 = .ok (.iload_n 2, 1) := by decide +kernel
theorem d_qx_bindingCount_13 : decode qx_bindingCount_c 13 = .ok (.goto 18, 3) := by decide +kernel
theorem d_qx_bindingCount_16 : decode qx_bindingCount_c 16 = .ok (.aload_n 0, 1) := by decide +kernel
theorem d_qx_bindingCount_17 : decode qx_bindingCount_c 17 = .ok (.getfield 12, 3) := by decide +kernel
theorem d_qx_bindingCount_20 : decode qx_bindingCount_c 20 = .ok (.aload_n 0, 1) := by decide +kernel
theorem d_qx_bindingCount_21 : decode qx_bindingCount_c 21 = .ok (.iload_n 1, 1) := by decide +kernel
theorem d_qx_bindingCount_22 : decode qx_bindingCount_c 22 = .ok (.invokevirtual 71, 3) := by decide +kernel
theorem d_qx_bindingCount_25 : decode qx_bindingCount_c 25 = .ok (.invokestatic 88, 3) := by decide +kernel
theorem d_qx_bindingCount_28 : decode qx_bindingCount_c 28 = .ok (.invokevirtual 132, 3) := by decide +kernel
theorem d_qx_bindingCount_31 : decode qx_bindingCount_c 31 = .ok (.ireturn, 1) := by decide +kernel
theorem d_qn_evaluateInTail_0 : decode qn_evaluateInTail_c 0 = .ok (.aload_n 0, 1) := by decide +kernel
theorem d_qn_evaluateInTail_1 : decode qn_evaluateInTail_c 1 = .ok (.lload_n 1, 1) := by decide +kernel
theorem d_qn_evaluateInTail_2 : decode qn_evaluateInTail_c 2 = .ok (.putfield 52, 3) := by decide +kernel
theorem d_qn_evaluateInTail_5 : decode qn_evaluateInTail_c 5 = .ok (.aload_n 0, 1) := by decide +kernel
theorem d_qn_evaluateInTail_6 : decode qn_evaluateInTail_c 6 = .ok (.iconst 0, 1) := by decide +kernel
theorem d_qn_evaluateInTail_7 : decode qn_evaluateInTail_c 7 = .ok (.putfield 45, 3) := by decide +kernel
theorem d_qn_evaluateInTail_10 : decode qn_evaluateInTail_c 10 = .ok (.return_, 1) := by decide +kernel
theorem d_qn_fail_0 : decode qn_fail_c 0 = .ok (.aload_n 0, 1) := by decide +kernel
theorem d_qn_fail_1 : decode qn_fail_c 1 = .ok (.iload_n 1, 1) := by decide +kernel
theorem d_qn_fail_2 : decode qn_fail_c 2 = .ok (.putfield 70, 3) := by decide +kernel
theorem d_qn_fail_5 : decode qn_fail_c 5 = .ok (.aload_n 0, 1) := by decide +kernel
theorem d_qn_fail_6 : decode qn_fail_c 6 = .ok (.iconst 4, 1) := by decide +kernel
theorem d_qn_fail_7 : decode qn_fail_c 7 = .ok (.putfield 45, 3) := by decide +kernel
theorem d_qn_fail_10 : decode qn_fail_c 10 = .ok (.return_, 1) := by decide +kernel
theorem d_qf_put_0 : decode qf_put_c 0 = .ok (.aload_n 0, 1) := by decide +kernel
theorem d_qf_put_1 : decode qf_put_c 1 = .ok (.getfield 26, 3) := by decide +kernel
theorem d_qf_put_4 : decode qf_put_c 4 = .ok (.ifCond .lt 13, 3) := by decide +kernel
theorem d_qf_put_7 : decode qf_put_c 7 = .ok (.aload_n 0, 1) := by decide +kernel
theorem d_qf_put_8 : decode qf_put_c 8 = .ok (.getfield 26, 3) := by decide +kernel
theorem d_qf_put_11 : decode qf_put_c 11 = .ok (.sipush 300, 3) := by decide +kernel
theorem d_qf_put_14 : decode qf_put_c 14 = .ok (.if_icmp .lt 5, 3) := by decide +kernel
theorem d_qf_put_17 : decode qf_put_c 17 = .ok (.iconst 0, 1) := by decide +kernel
theorem d_qf_put_18 : decode qf_put_c 18 = .ok (.ireturn, 1) := by decide +kernel
theorem d_qf_put_19 : decode qf_put_c 19 = .ok (.aload_n 0, 1) := by decide +kernel
theorem d_qf_put_20 : decode qf_put_c 20 = .ok (.getfield 9, 3) := by decide +kernel
theorem d_qf_put_23 : decode qf_put_c 23 = .ok (.aload_n 0, 1) := by decide +kernel
theorem d_qf_put_24 : decode qf_put_c 24 = .ok (.getfield 26, 3) := by decide +kernel
theorem d_qf_put_27 : decode qf_put_c 27 = .ok (.iload_n 1, 1) := by decide +kernel
theorem d_qf_put_28 : decode qf_put_c 28 = .ok (.iastore, 1) := by decide +kernel
theorem d_qf_put_29 : decode qf_put_c 29 = .ok (.aload_n 0, 1) := by decide +kernel
theorem d_qf_put_30 : decode qf_put_c 30 = .ok (.getfield 13, 3) := by decide +kernel
theorem d_qf_put_33 : decode qf_put_c 33 = .ok (.aload_n 0, 1) := by decide +kernel
theorem d_qf_put_34 : decode qf_put_c 34 = .ok (.getfield 26, 3) := by decide +kernel
theorem d_qf_put_37 : decode qf_put_c 37 = .ok (.iload_n 2, 1) := by decide +kernel
theorem d_qf_put_38 : decode qf_put_c 38 = .ok (.iastore, 1) := by decide +kernel
theorem d_qf_put_39 : decode qf_put_c 39 = .ok (.aload_n 0, 1) := by decide +kernel
theorem d_qf_put_40 : decode qf_put_c 40 = .ok (.getfield 16, 3) := by decide +kernel
theorem d_qf_put_43 : decode qf_put_c 43 = .ok (.aload_n 0, 1) := by decide +kernel
theorem d_qf_put_44 : decode qf_put_c 44 = .ok (.getfield 26, 3) := by decide +kernel
theorem d_qf_put_47 : decode qf_put_c 47 = .ok (.lload_n 3, 1) := by decide +kernel
theorem d_qf_put_48 : decode qf_put_c 48 = .ok (.lastore, 1) := by decide +kernel
theorem d_qf_put_49 : decode qf_put_c 49 = .ok (.aload_n 0, 1) := by decide +kernel
theorem d_qf_put_50 : decode qf_put_c 50 = .ok (.getfield 20, 3) := by decide +kernel
theorem d_qf_put_53 : decode qf_put_c 53 = .ok (.aload_n 0, 1) := by decide +kernel
theorem d_qf_put_54 : decode qf_put_c 54 = .ok (.getfield 26, 3) := by decide +kernel
theorem d_qf_put_57 : decode qf_put_c 57 = .ok (.lload 5, 2) := by decide +kernel
theorem d_qf_put_59 : decode qf_put_c 59 = .ok (.lastore, 1) := by decide +kernel
theorem d_qf_put_60 : decode qf_put_c 60 = .ok (.aload_n 0, 1) := by decide +kernel
theorem d_qf_put_61 : decode qf_put_c 61 = .ok (.getfield 23, 3) := by decide +kernel
theorem d_qf_put_64 : decode qf_put_c 64 = .ok (.aload_n 0, 1) := by decide +kernel
theorem d_qf_put_65 : decode qf_put_c 65 = .ok (.getfield 26, 3) := by decide +kernel
theorem d_qf_put_68 : decode qf_put_c 68 = .ok (.iload 7, 2) := by decide +kernel
theorem d_qf_put_70 : decode qf_put_c 70 = .ok (.iastore, 1) := by decide +kernel
theorem d_qf_put_71 : decode qf_put_c 71 = .ok (.aload_n 0, 1) := by decide +kernel
theorem d_qf_put_72 : decode qf_put_c 72 = .ok (.dup, 1) := by decide +kernel
theorem d_qf_put_73 : decode qf_put_c 73 = .ok (.getfield 26, 3) := by decide +kernel
theorem d_qf_put_76 : decode qf_put_c 76 = .ok (.iconst 1, 1) := by decide +kernel
theorem d_qf_put_77 : decode qf_put_c 77 = .ok (.iadd, 1) := by decide +kernel
theorem d_qf_put_78 : decode qf_put_c 78 = .ok (.putfield 26, 3) := by decide +kernel
theorem d_qf_put_81 : decode qf_put_c 81 = .ok (.aload_n 0, 1) := by decide +kernel
theorem d_qf_put_82 : decode qf_put_c 82 = .ok (.getfield 26, 3) := by decide +kernel
theorem d_qf_put_85 : decode qf_put_c 85 = .ok (.aload_n 0, 1) := by decide +kernel
theorem d_qf_put_86 : decode qf_put_c 86 = .ok (.getfield 30, 3) := by decide +kernel
theorem d_qf_put_89 : decode qf_put_c 89 = .ok (.if_icmp .le 11, 3) := by decide +kernel
theorem d_qf_put_92 : decode qf_put_c 92 = .ok (.aload_n 0, 1) := by decide +kernel
theorem d_qf_put_93 : decode qf_put_c 93 = .ok (.aload_n 0, 1) := by decide +kernel
theorem d_qf_put_94 : decode qf_put_c 94 = .ok (.getfield 26, 3) := by decide +kernel
theorem d_qf_put_97 : decode qf_put_c 97 = .ok (.putfield 30, 3) := by decide +kernel
theorem d_qf_put_100 : decode qf_put_c 100 = .ok (.iconst 1, 1) := by decide +kernel
theorem d_qf_put_101 : decode qf_put_c 101 = .ok (.ireturn, 1) := by decide +kernel
theorem d_qn_evaluateWithFrame_0 : decode qn_evaluateWithFrame_c 0 = .ok (.aload_n 0, 1) := by decide +kernel
theorem d_qn_evaluateWithFrame_1 : decode qn_evaluateWithFrame_c 1 = .ok (.getfield 27, 3) := by decide +kernel
theorem d_qn_evaluateWithFrame_4 : decode qn_evaluateWithFrame_c 4 = .ok (.iload_n 3, 1) := by decide +kernel
theorem d_qn_evaluateWithFrame_5 : decode qn_evaluateWithFrame_c 5 = .ok (.aload_n 0, 1) := by decide +kernel
theorem d_qn_evaluateWithFrame_6 : decode qn_evaluateWithFrame_c 6 = .ok (.getfield 61, 3) := by decide +kernel
theorem d_qn_evaluateWithFrame_9 : decode qn_evaluateWithFrame_c 9 = .ok (.lload 4, 2) := by decide +kernel
theorem d_qn_evaluateWithFrame_11 : decode qn_evaluateWithFrame_c 11 = .ok (.lload 6, 2) := by decide +kernel
theorem d_qn_evaluateWithFrame_13 : decode qn_evaluateWithFrame_c 13 = .ok (.iload 8, 2) := by decide +kernel
theorem d_qn_evaluateWithFrame_15 : decode qn_evaluateWithFrame_c 15 = .ok (.invokevirtual 113, 3) := by decide +kernel
theorem d_qn_evaluateWithFrame_18 : decode qn_evaluateWithFrame_c 18 = .ok (.ifCond .eq 11, 3) := by decide +kernel
theorem d_qn_evaluateWithFrame_21 : decode qn_evaluateWithFrame_c 21 = .ok (.aload_n 0, 1) := by decide +kernel
theorem d_qn_evaluateWithFrame_22 : decode qn_evaluateWithFrame_c 22 = .ok (.lload_n 1, 1) := by decide +kernel
theorem d_qn_evaluateWithFrame_23 : decode qn_evaluateWithFrame_c 23 = .ok (.invokevirtual 77, 3) := by decide +kernel
theorem d_qn_evaluateWithFrame_26 : decode qn_evaluateWithFrame_c 26 = .ok (.goto 9, 3) := by decide +kernel
theorem d_qn_evaluateWithFrame_29 : decode qn_evaluateWithFrame_c 29 = .ok (.aload_n 0, 1) := by decide +kernel
theorem d_qn_evaluateWithFrame_30 : decode qn_evaluateWithFrame_c 30 = .ok (.bipush (-11), 2) := by decide +kernel
theorem d_qn_evaluateWithFrame_32 : decode qn_evaluateWithFrame_c 32 = .ok (.invokevirtual 99, 3) := by decide +kernel
theorem d_qn_evaluateWithFrame_35 : decode qn_evaluateWithFrame_c 35 = .ok (.return_, 1) := by decide +kernel
theorem d_qn_giveBack_0 : decode qn_giveBack_c 0 = .ok (.aload_n 0, 1) := by decide +kernel
theorem d_qn_giveBack_1 : decode qn_giveBack_c 1 = .ok (.lload_n 1, 1) := by decide +kernel
theorem d_qn_giveBack_2 : decode qn_giveBack_c 2 = .ok (.putfield 52, 3) := by decide +kernel
theorem d_qn_giveBack_5 : decode qn_giveBack_c 5 = .ok (.aload_n 0, 1) := by decide +kernel
theorem d_qn_giveBack_6 : decode qn_giveBack_c 6 = .ok (.iconst 3, 1) := by decide +kernel
theorem d_qn_giveBack_7 : decode qn_giveBack_c 7 = .ok (.putfield 45, 3) := by decide +kernel
theorem d_qn_giveBack_10 : decode qn_giveBack_c 10 = .ok (.return_, 1) := by decide +kernel
theorem d_qn_lookUp_0 : decode qn_lookUp_c 0 = .ok (.aload_n 0, 1) := by decide +kernel
theorem d_qn_lookUp_1 : decode qn_lookUp_c 1 = .ok (.getfield 9, 3) := by decide +kernel
theorem d_qn_lookUp_4 : decode qn_lookUp_c 4 = .ok (.aload_n 0, 1) := by decide +kernel
theorem d_qn_lookUp_5 : decode qn_lookUp_c 5 = .ok (.getfield 61, 3) := by decide +kernel
theorem d_qn_lookUp_8 : decode qn_lookUp_c 8 = .ok (.iload_n 1, 1) := by decide +kernel
theorem d_qn_lookUp_9 : decode qn_lookUp_c 9 = .ok (.invokevirtual 134, 3) := by decide +kernel
theorem d_qn_lookUp_12 : decode qn_lookUp_c 12 = .ok (.istore_n 2, 1) := by decide +kernel
theorem d_qn_lookUp_13 : decode qn_lookUp_c 13 = .ok (.iload_n 2, 1) := by decide +kernel
theorem d_qn_lookUp_14 : decode qn_lookUp_c 14 = .ok (.iconst (-1), 1) := by decide +kernel
theorem d_qn_lookUp_15 : decode qn_lookUp_c 15 = .ok (.if_icmp .ne 12, 3) := by decide +kernel
theorem d_qn_lookUp_18 : decode qn_lookUp_c 18 = .ok (.aload_n 0, 1) := by decide +kernel
theorem d_qn_lookUp_19 : decode qn_lookUp_c 19 = .ok (.bipush (-6), 2) := by decide +kernel
theorem d_qn_lookUp_21 : decode qn_lookUp_c 21 = .ok (.invokevirtual 99, 3) := by decide +kernel
theorem d_qn_lookUp_24 : decode qn_lookUp_c 24 = .ok (.goto 15, 3) := by decide +kernel
theorem d_qn_lookUp_27 : decode qn_lookUp_c 27 = .ok (.aload_n 0, 1) := by decide +kernel
theorem d_qn_lookUp_28 : decode qn_lookUp_c 28 = .ok (.aload_n 0, 1) := by decide +kernel
theorem d_qn_lookUp_29 : decode qn_lookUp_c 29 = .ok (.getfield 9, 3) := by decide +kernel
theorem d_qn_lookUp_32 : decode qn_lookUp_c 32 = .ok (.iload_n 2, 1) := by decide +kernel
theorem d_qn_lookUp_33 : decode qn_lookUp_c 33 = .ok (.invokevirtual 138, 3) := by decide +kernel
theorem d_qn_lookUp_36 : decode qn_lookUp_c 36 = .ok (.invokevirtual 106, 3) := by decide +kernel
theorem d_qn_lookUp_39 : decode qn_lookUp_c 39 = .ok (.return_, 1) := by decide +kernel
theorem d_qn_evaluateCurrent_0 : decode qn_evaluateCurrent_c 0 = .ok (.aload_n 0, 1) := by decide +kernel
theorem d_qn_evaluateCurrent_1 : decode qn_evaluateCurrent_c 1 = .ok (.getfield 64, 3) := by decide +kernel
theorem d_qn_evaluateCurrent_4 : decode qn_evaluateCurrent_c 4 = .ok (.aload_n 0, 1) := by decide +kernel
theorem d_qn_evaluateCurrent_5 : decode qn_evaluateCurrent_c 5 = .ok (.getfield 67, 3) := by decide +kernel
theorem d_qn_evaluateCurrent_8 : decode qn_evaluateCurrent_c 8 = .ok (.if_icmp .lt 10, 3) := by decide +kernel
theorem d_qn_evaluateCurrent_11 : decode qn_evaluateCurrent_c 11 = .ok (.aload_n 0, 1) := by decide +kernel
theorem d_qn_evaluateCurrent_12 : decode qn_evaluateCurrent_c 12 = .ok (.bipush (-10), 2) := by decide +kernel
theorem d_qn_evaluateCurrent_14 : decode qn_evaluateCurrent_c 14 = .ok (.invokevirtual 99, 3) := by decide +kernel
theorem d_qn_evaluateCurrent_17 : decode qn_evaluateCurrent_c 17 = .ok (.return_, 1) := by decide +kernel
theorem d_qn_evaluateCurrent_18 : decode qn_evaluateCurrent_c 18 = .ok (.aload_n 0, 1) := by decide +kernel
theorem d_qn_evaluateCurrent_19 : decode qn_evaluateCurrent_c 19 = .ok (.dup, 1) := by decide +kernel
theorem d_qn_evaluateCurrent_20 : decode qn_evaluateCurrent_c 20 = .ok (.getfield 64, 3) := by decide +kernel
theorem d_qn_evaluateCurrent_23 : decode qn_evaluateCurrent_c 23 = .ok (.iconst 1, 1) := by decide +kernel
theorem d_qn_evaluateCurrent_24 : decode qn_evaluateCurrent_c 24 = .ok (.iadd, 1) := by decide +kernel
theorem d_qn_evaluateCurrent_25 : decode qn_evaluateCurrent_c 25 = .ok (.putfield 64, 3) := by decide +kernel
theorem d_qn_evaluateCurrent_28 : decode qn_evaluateCurrent_c 28 = .ok (.aload_n 0, 1) := by decide +kernel
theorem d_qn_evaluateCurrent_29 : decode qn_evaluateCurrent_c 29 = .ok (.getfield 52, 3) := by decide +kernel
theorem d_qn_evaluateCurrent_32 : decode qn_evaluateCurrent_c 32 = .ok (.invokestatic 117, 3) := by decide +kernel
theorem d_qn_evaluateCurrent_35 : decode qn_evaluateCurrent_c 35 = .ok (.istore_n 1, 1) := by decide +kernel
theorem d_qn_evaluateCurrent_36 : decode qn_evaluateCurrent_c 36 = .ok (.iload_n 1, 1) := by decide +kernel
theorem d_qn_evaluateCurrent_37 : decode qn_evaluateCurrent_c 37 = .ok (.iconst 4, 1) := by decide +kernel
theorem d_qn_evaluateCurrent_38 : decode qn_evaluateCurrent_c 38 = .ok (.if_icmp .ne 37, 3) := by decide +kernel
theorem d_qn_evaluateCurrent_41 : decode qn_evaluateCurrent_c 41 = .ok (.aload_n 0, 1) := by decide +kernel
theorem d_qn_evaluateCurrent_42 : decode qn_evaluateCurrent_c 42 = .ok (.aload_n 0, 1) := by decide +kernel
theorem d_qn_evaluateCurrent_43 : decode qn_evaluateCurrent_c 43 = .ok (.getfield 9, 3) := by decide +kernel
theorem d_qn_evaluateCurrent_46 : decode qn_evaluateCurrent_c 46 = .ok (.aload_n 0, 1) := by decide +kernel
theorem d_qn_evaluateCurrent_47 : decode qn_evaluateCurrent_c 47 = .ok (.getfield 52, 3) := by decide +kernel
theorem d_qn_evaluateCurrent_50 : decode qn_evaluateCurrent_c 50 = .ok (.invokevirtual 120, 3) := by decide +kernel
theorem d_qn_evaluateCurrent_53 : decode qn_evaluateCurrent_c 53 = .ok (.iconst 0, 1) := by decide +kernel
theorem d_qn_evaluateCurrent_54 : decode qn_evaluateCurrent_c 54 = .ok (.aload_n 0, 1) := by decide +kernel
theorem d_qn_evaluateCurrent_55 : decode qn_evaluateCurrent_c 55 = .ok (.getfield 9, 3) := by decide +kernel
theorem d_qn_evaluateCurrent_58 : decode qn_evaluateCurrent_c 58 = .ok (.aload_n 0, 1) := by decide +kernel
theorem d_qn_evaluateCurrent_59 : decode qn_evaluateCurrent_c 59 = .ok (.getfield 52, 3) := by decide +kernel
theorem d_qn_evaluateCurrent_62 : decode qn_evaluateCurrent_c 62 = .ok (.invokevirtual 124, 3) := by decide +kernel
theorem d_qn_evaluateCurrent_65 : decode qn_evaluateCurrent_c 65 = .ok (.ldc2_w 50, 3) := by decide +kernel
theorem d_qn_evaluateCurrent_68 : decode qn_evaluateCurrent_c 68 = .ok (.iconst 0, 1) := by decide +kernel
theorem d_qn_evaluateCurrent_69 : decode qn_evaluateCurrent_c 69 = .ok (.invokevirtual 127, 3) := by decide +kernel
theorem d_qn_evaluateCurrent_72 : decode qn_evaluateCurrent_c 72 = .ok (.goto 30, 3) := by decide +kernel
theorem d_qn_evaluateCurrent_75 : decode qn_evaluateCurrent_c 75 = .ok (.iload_n 1, 1) := by decide +kernel
theorem d_qn_evaluateCurrent_76 : decode qn_evaluateCurrent_c 76 = .ok (.iconst 2, 1) := by decide +kernel
theorem d_qn_evaluateCurrent_77 : decode qn_evaluateCurrent_c 77 = .ok (.if_icmp .ne 17, 3) := by decide +kernel
theorem d_qn_evaluateCurrent_80 : decode qn_evaluateCurrent_c 80 = .ok (.aload_n 0, 1) := by decide +kernel
theorem d_qn_evaluateCurrent_81 : decode qn_evaluateCurrent_c 81 = .ok (.aload_n 0, 1) := by decide +kernel
theorem d_qn_evaluateCurrent_82 : decode qn_evaluateCurrent_c 82 = .ok (.getfield 52, 3) := by decide +kernel
theorem d_qn_evaluateCurrent_85 : decode qn_evaluateCurrent_c 85 = .ok (.invokestatic 88, 3) := by decide +kernel
theorem d_qn_evaluateCurrent_88 : decode qn_evaluateCurrent_c 88 = .ok (.invokevirtual 131, 3) := by decide +kernel
theorem d_qn_evaluateCurrent_91 : decode qn_evaluateCurrent_c 91 = .ok (.goto 11, 3) := by decide +kernel
theorem d_qn_evaluateCurrent_94 : decode qn_evaluateCurrent_c 94 = .ok (.aload_n 0, 1) := by decide +kernel
theorem d_qn_evaluateCurrent_95 : decode qn_evaluateCurrent_c 95 = .ok (.aload_n 0, 1) := by decide +kernel
theorem d_qn_evaluateCurrent_96 : decode qn_evaluateCurrent_c 96 = .ok (.getfield 52, 3) := by decide +kernel
theorem d_qn_evaluateCurrent_99 : decode qn_evaluateCurrent_c 99 = .ok (.invokevirtual 106, 3) := by decide +kernel
theorem d_qn_evaluateCurrent_102 : decode qn_evaluateCurrent_c 102 = .ok (.return_, 1) := by decide +kernel
theorem d_qn_combine_0 : decode qn_combine_c 0 = .ok (.aload_n 0, 1) := by decide +kernel
theorem d_qn_combine_1 : decode qn_combine_c 1 = .ok (.lload_n 1, 1) := by decide +kernel
theorem d_qn_combine_2 : decode qn_combine_c 2 = .ok (.putfield 52, 3) := by decide +kernel
theorem d_qn_combine_5 : decode qn_combine_c 5 = .ok (.aload_n 0, 1) := by decide +kernel
theorem d_qn_combine_6 : decode qn_combine_c 6 = .ok (.lload_n 3, 1) := by decide +kernel
theorem d_qn_combine_7 : decode qn_combine_c 7 = .ok (.putfield 56, 3) := by decide +kernel
theorem d_qn_combine_10 : decode qn_combine_c 10 = .ok (.aload_n 0, 1) := by decide +kernel
theorem d_qn_combine_11 : decode qn_combine_c 11 = .ok (.iconst 1, 1) := by decide +kernel
theorem d_qn_combine_12 : decode qn_combine_c 12 = .ok (.putfield 45, 3) := by decide +kernel
theorem d_qn_combine_15 : decode qn_combine_c 15 = .ok (.return_, 1) := by decide +kernel
theorem d_qn_combineWithArguments_0 : decode qn_combineWithArguments_c 0 = .ok (.ldc2_w 50, 3) := by decide +kernel
theorem d_qn_combineWithArguments_3 : decode qn_combineWithArguments_c 3 = .ok (.lstore 4, 2) := by decide +kernel
theorem d_qn_combineWithArguments_5 : decode qn_combineWithArguments_c 5 = .ok (.iconst 0, 1) := by decide +kernel
theorem d_qn_combineWithArguments_6 : decode qn_combineWithArguments_c 6 = .ok (.istore 6, 2) := by decide +kernel
theorem d_qn_combineWithArguments_8 : decode qn_combineWithArguments_c 8 = .ok (.iload 6, 2) := by decide +kernel
theorem d_qn_combineWithArguments_10 : decode qn_combineWithArguments_c 10 = .ok (.iload_n 3, 1) := by decide +kernel
theorem d_qn_combineWithArguments_11 : decode qn_combineWithArguments_c 11 = .ok (.if_icmp .ge 70, 3) := by decide +kernel
theorem d_qn_combineWithArguments_14 : decode qn_combineWithArguments_c 14 = .ok (.aload_n 0, 1) := by decide +kernel
theorem d_qn_combineWithArguments_15 : decode qn_combineWithArguments_c 15 = .ok (.getfield 41, 3) := by decide +kernel
theorem d_qn_combineWithArguments_18 : decode qn_combineWithArguments_c 18 = .ok (.ifCond .le 63, 3) := by decide +kernel
theorem d_qn_combineWithArguments_21 : decode qn_combineWithArguments_c 21 = .ok (.aload_n 0, 1) := by decide +kernel
theorem d_qn_combineWithArguments_22 : decode qn_combineWithArguments_c 22 = .ok (.getfield 9, 3) := by decide +kernel
theorem d_qn_combineWithArguments_25 : decode qn_combineWithArguments_c 25 = .ok (.aload_n 0, 1) := by decide +kernel
theorem d_qn_combineWithArguments_26 : decode qn_combineWithArguments_c 26 = .ok (.getfield 31, 3) := by decide +kernel
theorem d_qn_combineWithArguments_29 : decode qn_combineWithArguments_c 29 = .ok (.aload_n 0, 1) := by decide +kernel
theorem d_qn_combineWithArguments_30 : decode qn_combineWithArguments_c 30 = .ok (.getfield 41, 3) := by decide +kernel
theorem d_qn_combineWithArguments_33 : decode qn_combineWithArguments_c 33 = .ok (.iconst 1, 1) := by decide +kernel
theorem d_qn_combineWithArguments_34 : decode qn_combineWithArguments_c 34 = .ok (.isub, 1) := by decide +kernel
theorem d_qn_combineWithArguments_35 : decode qn_combineWithArguments_c 35 = .ok (.laload, 1) := by decide +kernel
theorem d_qn_combineWithArguments_36 : decode qn_combineWithArguments_c 36 = .ok (.lload 4, 2) := by decide +kernel
theorem d_qn_combineWithArguments_38 : decode qn_combineWithArguments_c 38 = .ok (.invokevirtual 208, 3) := by decide +kernel
theorem d_qn_combineWithArguments_41 : decode qn_combineWithArguments_c 41 = .ok (.istore 7, 2) := by decide +kernel
theorem d_qn_combineWithArguments_43 : decode qn_combineWithArguments_c 43 = .ok (.iload 7, 2) := by decide +kernel
theorem d_qn_combineWithArguments_45 : decode qn_combineWithArguments_c 45 = .ok (.iconst (-1), 1) := by decide +kernel
theorem d_qn_combineWithArguments_46 : decode qn_combineWithArguments_c 46 = .ok (.if_icmp .ne 10, 3) := by decide +kernel
theorem d_qn_combineWithArguments_49 : decode qn_combineWithArguments_c 49 = .ok (.aload_n 0, 1) := by decide +kernel
theorem d_qn_combineWithArguments_50 : decode qn_combineWithArguments_c 50 = .ok (.bipush (-5), 2) := by decide +kernel
theorem d_qn_combineWithArguments_52 : decode qn_combineWithArguments_c 52 = .ok (.invokevirtual 99, 3) := by decide +kernel
theorem d_qn_combineWithArguments_55 : decode qn_combineWithArguments_c 55 = .ok (.return_, 1) := by decide +kernel
theorem d_qn_combineWithArguments_56 : decode qn_combineWithArguments_c 56 = .ok (.aload_n 0, 1) := by decide +kernel
theorem d_qn_combineWithArguments_57 : decode qn_combineWithArguments_c 57 = .ok (.dup, 1) := by decide +kernel
theorem d_qn_combineWithArguments_58 : decode qn_combineWithArguments_c 58 = .ok (.getfield 41, 3) := by decide +kernel
theorem d_qn_combineWithArguments_61 : decode qn_combineWithArguments_c 61 = .ok (.iconst 1, 1) := by decide +kernel
theorem d_qn_combineWithArguments_62 : decode qn_combineWithArguments_c 62 = .ok (.isub, 1) := by decide +kernel
theorem d_qn_combineWithArguments_63 : decode qn_combineWithArguments_c 63 = .ok (.putfield 41, 3) := by decide +kernel
theorem d_qn_combineWithArguments_66 : decode qn_combineWithArguments_c 66 = .ok (.iconst 4, 1) := by decide +kernel
theorem d_qn_combineWithArguments_67 : decode qn_combineWithArguments_c 67 = .ok (.iload 7, 2) := by decide +kernel
theorem d_qn_combineWithArguments_69 : decode qn_combineWithArguments_c 69 = .ok (.i2l, 1) := by decide +kernel
theorem d_qn_combineWithArguments_70 : decode qn_combineWithArguments_c 70 = .ok (.invokestatic 102, 3) := by decide +kernel
theorem d_qn_combineWithArguments_73 : decode qn_combineWithArguments_c 73 = .ok (.lstore 4, 2) := by decide +kernel
theorem d_qn_combineWithArguments_75 : decode qn_combineWithArguments_c 75 = .ok (.iinc 6 1, 3) := by decide +kernel
theorem d_qn_combineWithArguments_78 : decode qn_combineWithArguments_c 78 = .ok (.goto (-70), 3) := by decide +kernel
theorem d_qn_combineWithArguments_81 : decode qn_combineWithArguments_c 81 = .ok (.aload_n 0, 1) := by decide +kernel
theorem d_qn_combineWithArguments_82 : decode qn_combineWithArguments_c 82 = .ok (.lload_n 1, 1) := by decide +kernel
theorem d_qn_combineWithArguments_83 : decode qn_combineWithArguments_c 83 = .ok (.lload 4, 2) := by decide +kernel
theorem d_qn_combineWithArguments_85 : decode qn_combineWithArguments_c 85 = .ok (.invokevirtual 168, 3) := by decide +kernel
theorem d_qn_combineWithArguments_88 : decode qn_combineWithArguments_c 88 = .ok (.return_, 1) := by decide +kernel
theorem d_qn_evaluateArguments_0 : decode qn_evaluateArguments_c 0 = .ok (.lload_n 1, 1) := by decide +kernel
theorem d_qn_evaluateArguments_1 : decode qn_evaluateArguments_c 1 = .ok (.ldc2_w 50, 3) := by decide +kernel
theorem d_qn_evaluateArguments_4 : decode qn_evaluateArguments_c 4 = .ok (.lcmp, 1) := by decide +kernel
theorem d_qn_evaluateArguments_5 : decode qn_evaluateArguments_c 5 = .ok (.ifCond .ne 13, 3) := by decide +kernel
theorem d_qn_evaluateArguments_8 : decode qn_evaluateArguments_c 8 = .ok (.aload_n 0, 1) := by decide +kernel
theorem d_qn_evaluateArguments_9 : decode qn_evaluateArguments_c 9 = .ok (.lload_n 3, 1) := by decide +kernel
theorem d_qn_evaluateArguments_10 : decode qn_evaluateArguments_c 10 = .ok (.iload 5, 2) := by decide +kernel
theorem d_qn_evaluateArguments_12 : decode qn_evaluateArguments_c 12 = .ok (.invokevirtual 204, 3) := by decide +kernel
theorem d_qn_evaluateArguments_15 : decode qn_evaluateArguments_c 15 = .ok (.goto 27, 3) := by decide +kernel
theorem d_qn_evaluateArguments_18 : decode qn_evaluateArguments_c 18 = .ok (.aload_n 0, 1) := by decide +kernel
theorem d_qn_evaluateArguments_19 : decode qn_evaluateArguments_c 19 = .ok (.aload_n 0, 1) := by decide +kernel
theorem d_qn_evaluateArguments_20 : decode qn_evaluateArguments_c 20 = .ok (.getfield 9, 3) := by decide +kernel
theorem d_qn_evaluateArguments_23 : decode qn_evaluateArguments_c 23 = .ok (.lload_n 1, 1) := by decide +kernel
theorem d_qn_evaluateArguments_24 : decode qn_evaluateArguments_c 24 = .ok (.invokevirtual 120, 3) := by decide +kernel
theorem d_qn_evaluateArguments_27 : decode qn_evaluateArguments_c 27 = .ok (.iconst 1, 1) := by decide +kernel
theorem d_qn_evaluateArguments_28 : decode qn_evaluateArguments_c 28 = .ok (.aload_n 0, 1) := by decide +kernel
theorem d_qn_evaluateArguments_29 : decode qn_evaluateArguments_c 29 = .ok (.getfield 9, 3) := by decide +kernel
theorem d_qn_evaluateArguments_32 : decode qn_evaluateArguments_c 32 = .ok (.lload_n 1, 1) := by decide +kernel
theorem d_qn_evaluateArguments_33 : decode qn_evaluateArguments_c 33 = .ok (.invokevirtual 124, 3) := by decide +kernel
theorem d_qn_evaluateArguments_36 : decode qn_evaluateArguments_c 36 = .ok (.lload_n 3, 1) := by decide +kernel
theorem d_qn_evaluateArguments_37 : decode qn_evaluateArguments_c 37 = .ok (.iload 5, 2) := by decide +kernel
theorem d_qn_evaluateArguments_39 : decode qn_evaluateArguments_c 39 = .ok (.invokevirtual 127, 3) := by decide +kernel
theorem d_qn_evaluateArguments_42 : decode qn_evaluateArguments_c 42 = .ok (.return_, 1) := by decide +kernel
theorem d_qn_combineApplicative_0 : decode qn_combineApplicative_c 0 = .ok (.aload_n 0, 1) := by decide +kernel
theorem d_qn_combineApplicative_1 : decode qn_combineApplicative_c 1 = .ok (.getfield 9, 3) := by decide +kernel
theorem d_qn_combineApplicative_4 : decode qn_combineApplicative_c 4 = .ok (.aload_n 0, 1) := by decide +kernel
theorem d_qn_combineApplicative_5 : decode qn_combineApplicative_c 5 = .ok (.getfield 56, 3) := by decide +kernel
theorem d_qn_combineApplicative_8 : decode qn_combineApplicative_c 8 = .ok (.invokevirtual 195, 3) := by decide +kernel
theorem d_qn_combineApplicative_11 : decode qn_combineApplicative_c 11 = .ok (.iconst (-1), 1) := by decide +kernel
theorem d_qn_combineApplicative_12 : decode qn_combineApplicative_c 12 = .ok (.if_icmp .ne 12, 3) := by decide +kernel
theorem d_qn_combineApplicative_15 : decode qn_combineApplicative_c 15 = .ok (.aload_n 0, 1) := by decide +kernel
theorem d_qn_combineApplicative_16 : decode qn_combineApplicative_c 16 = .ok (.bipush (-8), 2) := by decide +kernel
theorem d_qn_combineApplicative_18 : decode qn_combineApplicative_c 18 = .ok (.invokevirtual 99, 3) := by decide +kernel
theorem d_qn_combineApplicative_21 : decode qn_combineApplicative_c 21 = .ok (.goto 23, 3) := by decide +kernel
theorem d_qn_combineApplicative_24 : decode qn_combineApplicative_c 24 = .ok (.aload_n 0, 1) := by decide +kernel
theorem d_qn_combineApplicative_25 : decode qn_combineApplicative_c 25 = .ok (.aload_n 0, 1) := by decide +kernel
theorem d_qn_combineApplicative_26 : decode qn_combineApplicative_c 26 = .ok (.getfield 56, 3) := by decide +kernel
theorem d_qn_combineApplicative_29 : decode qn_combineApplicative_c 29 = .ok (.aload_n 0, 1) := by decide +kernel
theorem d_qn_combineApplicative_30 : decode qn_combineApplicative_c 30 = .ok (.getfield 9, 3) := by decide +kernel
theorem d_qn_combineApplicative_33 : decode qn_combineApplicative_c 33 = .ok (.aload_n 0, 1) := by decide +kernel
theorem d_qn_combineApplicative_34 : decode qn_combineApplicative_c 34 = .ok (.getfield 52, 3) := by decide +kernel
theorem d_qn_combineApplicative_37 : decode qn_combineApplicative_c 37 = .ok (.invokevirtual 198, 3) := by decide +kernel
theorem d_qn_combineApplicative_40 : decode qn_combineApplicative_c 40 = .ok (.iconst 0, 1) := by decide +kernel
theorem d_qn_combineApplicative_41 : decode qn_combineApplicative_c 41 = .ok (.invokevirtual 201, 3) := by decide +kernel
theorem d_qn_combineApplicative_44 : decode qn_combineApplicative_c 44 = .ok (.return_, 1) := by decide +kernel
theorem d_qh_isPrimitive_0 : decode qh_isPrimitive_c 0 = .ok (.iload_n 0, 1) := by decide +kernel
theorem d_qh_isPrimitive_1 : decode qh_isPrimitive_c 1 = .ok (.bipush 100, 2) := by decide +kernel
theorem d_qh_isPrimitive_3 : decode qh_isPrimitive_c 3 = .ok (.if_icmp .ge 7, 3) := by decide +kernel
theorem d_qh_isPrimitive_6 : decode qh_isPrimitive_c 6 = .ok (.iconst 1, 1) := by decide +kernel
theorem d_qh_isPrimitive_7 : decode qh_isPrimitive_c 7 = .ok (.goto 4, 3) := by decide +kernel
theorem d_qh_isPrimitive_10 : decode qh_isPrimitive_c 10 = .ok (.iconst 0, 1) := by decide +kernel
theorem d_qh_isPrimitive_11 : decode qh_isPrimitive_c 11 = .ok (.ireturn, 1) := by decide +kernel
theorem d_qh_parametersOf_0 : decode qh_parametersOf_c 0 = .ok (.aload_n 0, 1) := by decide +kernel
theorem d_qh_parametersOf_1 : decode qh_parametersOf_c 1 = .ok (.iload_n 1, 1) := by decide +kernel
theorem d_qh_parametersOf_2 : decode qh_parametersOf_c 2 = .ok (.invokevirtual 61, 3) := by decide +kernel
theorem d_qh_parametersOf_5 : decode qh_parametersOf_c 5 = .ok (.bipush 20, 2) := by decide +kernel
theorem d_qh_parametersOf_7 : decode qh_parametersOf_c 7 = .ok (.lshr, 1) := by decide +kernel
theorem d_qh_parametersOf_8 : decode qh_parametersOf_c 8 = .ok (.lreturn, 1) := by decide +kernel
theorem d_qt_putOff_0 : decode qt_putOff_c 0 = .ok (.aload_n 0, 1) := by decide +kernel
theorem d_qt_putOff_1 : decode qt_putOff_c 1 = .ok (.getfield 29, 3) := by decide +kernel
theorem d_qt_putOff_4 : decode qt_putOff_c 4 = .ok (.ifCond .lt 42, 3) := by decide +kernel
theorem d_qt_putOff_7 : decode qt_putOff_c 7 = .ok (.aload_n 0, 1) := by decide +kernel
theorem d_qt_putOff_8 : decode qt_putOff_c 8 = .ok (.getfield 29, 3) := by decide +kernel
theorem d_qt_putOff_11 : decode qt_putOff_c 11 = .ok (.bipush 100, 2) := by decide +kernel
theorem d_qt_putOff_13 : decode qt_putOff_c 13 = .ok (.if_icmp .gt 33, 3) := by decide +kernel
theorem d_qt_putOff_16 : decode qt_putOff_c 16 = .ok (.aload_n 0, 1) := by decide +kernel
theorem d_qt_putOff_17 : decode qt_putOff_c 17 = .ok (.getfield 13, 3) := by decide +kernel
theorem d_qt_putOff_20 : decode qt_putOff_c 20 = .ok (.aload_n 0, 1) := by decide +kernel
theorem d_qt_putOff_21 : decode qt_putOff_c 21 = .ok (.getfield 29, 3) := by decide +kernel
theorem d_qt_putOff_24 : decode qt_putOff_c 24 = .ok (.lload_n 1, 1) := by decide +kernel
theorem d_qt_putOff_25 : decode qt_putOff_c 25 = .ok (.lastore, 1) := by decide +kernel
theorem d_qt_putOff_26 : decode qt_putOff_c 26 = .ok (.aload_n 0, 1) := by decide +kernel
theorem d_qt_putOff_27 : decode qt_putOff_c 27 = .ok (.getfield 17, 3) := by decide +kernel
theorem d_qt_putOff_30 : decode qt_putOff_c 30 = .ok (.aload_n 0, 1) := by decide +kernel
theorem d_qt_putOff_31 : decode qt_putOff_c 31 = .ok (.getfield 29, 3) := by decide +kernel
theorem d_qt_putOff_34 : decode qt_putOff_c 34 = .ok (.lload_n 3, 1) := by decide +kernel
theorem d_qt_putOff_35 : decode qt_putOff_c 35 = .ok (.lastore, 1) := by decide +kernel
theorem d_qt_putOff_36 : decode qt_putOff_c 36 = .ok (.aload_n 0, 1) := by decide +kernel
theorem d_qt_putOff_37 : decode qt_putOff_c 37 = .ok (.dup, 1) := by decide +kernel
theorem d_qt_putOff_38 : decode qt_putOff_c 38 = .ok (.getfield 29, 3) := by decide +kernel
theorem d_qt_putOff_41 : decode qt_putOff_c 41 = .ok (.iconst 1, 1) := by decide +kernel
theorem d_qt_putOff_42 : decode qt_putOff_c 42 = .ok (.iadd, 1) := by decide +kernel
theorem d_qt_putOff_43 : decode qt_putOff_c 43 = .ok (.putfield 29, 3) := by decide +kernel
theorem d_qt_putOff_46 : decode qt_putOff_c 46 = .ok (.return_, 1) := by decide +kernel
theorem d_qt_start_0 : decode qt_start_c 0 = .ok (.aload_n 0, 1) := by decide +kernel
theorem d_qt_start_1 : decode qt_start_c 1 = .ok (.iconst 0, 1) := by decide +kernel
theorem d_qt_start_2 : decode qt_start_c 2 = .ok (.putfield 33, 3) := by decide +kernel
theorem d_qt_start_5 : decode qt_start_c 5 = .ok (.aload_n 0, 1) := by decide +kernel
theorem d_qt_start_6 : decode qt_start_c 6 = .ok (.iconst 0, 1) := by decide +kernel
theorem d_qt_start_7 : decode qt_start_c 7 = .ok (.putfield 29, 3) := by decide +kernel
theorem d_qt_start_10 : decode qt_start_c 10 = .ok (.aload_n 0, 1) := by decide +kernel
theorem d_qt_start_11 : decode qt_start_c 11 = .ok (.lload_n 1, 1) := by decide +kernel
theorem d_qt_start_12 : decode qt_start_c 12 = .ok (.lload_n 3, 1) := by decide +kernel
theorem d_qt_start_13 : decode qt_start_c 13 = .ok (.invokevirtual 56, 3) := by decide +kernel
theorem d_qt_start_16 : decode qt_start_c 16 = .ok (.return_, 1) := by decide +kernel
theorem d_qt_takeTree_0 : decode qt_takeTree_c 0 = .ok (.aload_n 0, 1) := by decide +kernel
theorem d_qt_takeTree_1 : decode qt_takeTree_c 1 = .ok (.dup, 1) := by decide +kernel
theorem d_qt_takeTree_2 : decode qt_takeTree_c 2 = .ok (.getfield 29, 3) := by decide +kernel
theorem d_qt_takeTree_5 : decode qt_takeTree_c 5 = .ok (.iconst 1, 1) := by decide +kernel
theorem d_qt_takeTree_6 : decode qt_takeTree_c 6 = .ok (.isub, 1) := by decide +kernel
theorem d_qt_takeTree_7 : decode qt_takeTree_c 7 = .ok (.putfield 29, 3) := by decide +kernel
theorem d_qt_takeTree_10 : decode qt_takeTree_c 10 = .ok (.aload_n 0, 1) := by decide +kernel
theorem d_qt_takeTree_11 : decode qt_takeTree_c 11 = .ok (.getfield 29, 3) := by decide +kernel
theorem d_qt_takeTree_14 : decode qt_takeTree_c 14 = .ok (.ifCond .lt 24, 3) := by decide +kernel
theorem d_qt_takeTree_17 : decode qt_takeTree_c 17 = .ok (.aload_n 0, 1) := by decide +kernel
theorem d_qt_takeTree_18 : decode qt_takeTree_c 18 = .ok (.getfield 29, 3) := by decide +kernel
theorem d_qt_takeTree_21 : decode qt_takeTree_c 21 = .ok (.bipush 100, 2) := by decide +kernel
theorem d_qt_takeTree_23 : decode qt_takeTree_c 23 = .ok (.if_icmp .gt 15, 3) := by decide +kernel
theorem d_qt_takeTree_26 : decode qt_takeTree_c 26 = .ok (.aload_n 0, 1) := by decide +kernel
theorem d_qt_takeTree_27 : decode qt_takeTree_c 27 = .ok (.getfield 13, 3) := by decide +kernel
theorem d_qt_takeTree_30 : decode qt_takeTree_c 30 = .ok (.aload_n 0, 1) := by decide +kernel
theorem d_qt_takeTree_31 : decode qt_takeTree_c 31 = .ok (.getfield 29, 3) := by decide +kernel
theorem d_qt_takeTree_34 : decode qt_takeTree_c 34 = .ok (.laload, 1) := by decide +kernel
theorem d_qt_takeTree_35 : decode qt_takeTree_c 35 = .ok (.goto 6, 3) := by decide +kernel
theorem d_qt_takeTree_38 : decode qt_takeTree_c 38 = .ok (.ldc2_w 36, 3) := by decide +kernel
theorem d_qt_takeTree_41 : decode qt_takeTree_c 41 = .ok (.lreturn, 1) := by decide +kernel
theorem d_qt_takenPart_0 : decode qt_takenPart_c 0 = .ok (.aload_n 0, 1) := by decide +kernel
theorem d_qt_takenPart_1 : decode qt_takenPart_c 1 = .ok (.getfield 29, 3) := by decide +kernel
theorem d_qt_takenPart_4 : decode qt_takenPart_c 4 = .ok (.ifCond .lt 24, 3) := by decide +kernel
theorem d_qt_takenPart_7 : decode qt_takenPart_c 7 = .ok (.aload_n 0, 1) := by decide +kernel
theorem d_qt_takenPart_8 : decode qt_takenPart_c 8 = .ok (.getfield 29, 3) := by decide +kernel
theorem d_qt_takenPart_11 : decode qt_takenPart_c 11 = .ok (.bipush 100, 2) := by decide +kernel
theorem d_qt_takenPart_13 : decode qt_takenPart_c 13 = .ok (.if_icmp .gt 15, 3) := by decide +kernel
theorem d_qt_takenPart_16 : decode qt_takenPart_c 16 = .ok (.aload_n 0, 1) := by decide +kernel
theorem d_qt_takenPart_17 : decode qt_takenPart_c 17 = .ok (.getfield 17, 3) := by decide +kernel
theorem d_qt_takenPart_20 : decode qt_takenPart_c 20 = .ok (.aload_n 0, 1) := by decide +kernel
theorem d_qt_takenPart_21 : decode qt_takenPart_c 21 = .ok (.getfield 29, 3) := by decide +kernel
theorem d_qt_takenPart_24 : decode qt_takenPart_c 24 = .ok (.laload, 1) := by decide +kernel
theorem d_qt_takenPart_25 : decode qt_takenPart_c 25 = .ok (.goto 6, 3) := by decide +kernel
theorem d_qt_takenPart_28 : decode qt_takenPart_c 28 = .ok (.ldc2_w 36, 3) := by decide +kernel
theorem d_qt_takenPart_31 : decode qt_takenPart_c 31 = .ok (.lreturn, 1) := by decide +kernel
theorem d_qt_find_0 : decode qt_find_c 0 = .ok (.aload_n 0, 1) := by decide +kernel
theorem d_qt_find_1 : decode qt_find_c 1 = .ok (.getfield 33, 3) := by decide +kernel
theorem d_qt_find_4 : decode qt_find_c 4 = .ok (.ifCond .lt 42, 3) := by decide +kernel
theorem d_qt_find_7 : decode qt_find_c 7 = .ok (.aload_n 0, 1) := by decide +kernel
theorem d_qt_find_8 : decode qt_find_c 8 = .ok (.getfield 33, 3) := by decide +kernel
theorem d_qt_find_11 : decode qt_find_c 11 = .ok (.bipush 100, 2) := by decide +kernel
theorem d_qt_find_13 : decode qt_find_c 13 = .ok (.if_icmp .ge 33, 3) := by decide +kernel
theorem d_qt_find_16 : decode qt_find_c 16 = .ok (.aload_n 0, 1) := by decide +kernel
theorem d_qt_find_17 : decode qt_find_c 17 = .ok (.getfield 22, 3) := by decide +kernel
theorem d_qt_find_20 : decode qt_find_c 20 = .ok (.aload_n 0, 1) := by decide +kernel
theorem d_qt_find_21 : decode qt_find_c 21 = .ok (.getfield 33, 3) := by decide +kernel
theorem d_qt_find_24 : decode qt_find_c 24 = .ok (.iload_n 1, 1) := by decide +kernel
theorem d_qt_find_25 : decode qt_find_c 25 = .ok (.iastore, 1) := by decide +kernel
theorem d_qt_find_26 : decode qt_find_c 26 = .ok (.aload_n 0, 1) := by decide +kernel
theorem d_qt_find_27 : decode qt_find_c 27 = .ok (.getfield 26, 3) := by decide +kernel
theorem d_qt_find_30 : decode qt_find_c 30 = .ok (.aload_n 0, 1) := by decide +kernel
theorem d_qt_find_31 : decode qt_find_c 31 = .ok (.getfield 33, 3) := by decide +kernel
theorem d_qt_find_34 : decode qt_find_c 34 = .ok (.lload_n 2, 1) := by decide +kernel
theorem d_qt_find_35 : decode qt_find_c 35 = .ok (.lastore, 1) := by decide +kernel
theorem d_qt_find_36 : decode qt_find_c 36 = .ok (.aload_n 0, 1) := by decide +kernel
theorem d_qt_find_37 : decode qt_find_c 37 = .ok (.dup, 1) := by decide +kernel
theorem d_qt_find_38 : decode qt_find_c 38 = .ok (.getfield 33, 3) := by decide +kernel
theorem d_qt_find_41 : decode qt_find_c 41 = .ok (.iconst 1, 1) := by decide +kernel
theorem d_qt_find_42 : decode qt_find_c 42 = .ok (.iadd, 1) := by decide +kernel
theorem d_qt_find_43 : decode qt_find_c 43 = .ok (.putfield 33, 3) := by decide +kernel
theorem d_qt_find_46 : decode qt_find_c 46 = .ok (.return_, 1) := by decide +kernel
theorem d_qt_matches_0 : decode qt_matches_c 0 = .ok (.aload_n 0, 1) := by decide +kernel
theorem d_qt_matches_1 : decode qt_matches_c 1 = .ok (.lload_n 1, 1) := by decide +kernel
theorem d_qt_matches_2 : decode qt_matches_c 2 = .ok (.lload_n 3, 1) := by decide +kernel
theorem d_qt_matches_3 : decode qt_matches_c 3 = .ok (.invokevirtual 38, 3) := by decide +kernel
theorem d_qt_matches_6 : decode qt_matches_c 6 = .ok (.iconst 0, 1) := by decide +kernel
theorem d_qt_matches_7 : decode qt_matches_c 7 = .ok (.istore 5, 2) := by decide +kernel
theorem d_qt_matches_9 : decode qt_matches_c 9 = .ok (.iload 5, 2) := by decide +kernel
theorem d_qt_matches_11 : decode qt_matches_c 11 = .ok (.sipush 201, 3) := by decide +kernel
theorem d_qt_matches_14 : decode qt_matches_c 14 = .ok (.if_icmp .ge 143, 3) := by decide +kernel
theorem d_qt_matches_17 : decode qt_matches_c 17 = .ok (.aload_n 0, 1) := by decide +kernel
theorem d_qt_matches_18 : decode qt_matches_c 18 = .ok (.getfield 29, 3) := by decide +kernel
theorem d_qt_matches_21 : decode qt_matches_c 21 = .ok (.ifCond .le 136, 3) := by decide +kernel
theorem d_qt_matches_24 : decode qt_matches_c 24 = .ok (.aload_n 0, 1) := by decide +kernel
theorem d_qt_matches_25 : decode qt_matches_c 25 = .ok (.invokevirtual 42, 3) := by decide +kernel
theorem d_qt_matches_28 : decode qt_matches_c 28 = .ok (.lstore 6, 2) := by decide +kernel
theorem d_qt_matches_30 : decode qt_matches_c 30 = .ok (.aload_n 0, 1) := by decide +kernel
theorem d_qt_matches_31 : decode qt_matches_c 31 = .ok (.invokevirtual 73, 3) := by decide +kernel
theorem d_qt_matches_34 : decode qt_matches_c 34 = .ok (.lstore 8, 2) := by decide +kernel
theorem d_qt_matches_36 : decode qt_matches_c 36 = .ok (.lload 6, 2) := by decide +kernel
theorem d_qt_matches_38 : decode qt_matches_c 38 = .ok (.invokestatic 46, 3) := by decide +kernel
theorem d_qt_matches_41 : decode qt_matches_c 41 = .ok (.tableswitch 110 2 4 #[85, 99, 27], 27) := by decide +kernel
theorem d_qt_matches_68 : decode qt_matches_c 68 = .ok (.lload 8, 2) := by decide +kernel
theorem d_qt_matches_70 : decode qt_matches_c 70 = .ok (.invokestatic 46, 3) := by decide +kernel
theorem d_qt_matches_73 : decode qt_matches_c 73 = .ok (.iconst 4, 1) := by decide +kernel
theorem d_qt_matches_74 : decode qt_matches_c 74 = .ok (.if_icmp .eq 5, 3) := by decide +kernel
theorem d_qt_matches_77 : decode qt_matches_c 77 = .ok (.iconst 0, 1) := by decide +kernel
theorem d_qt_matches_78 : decode qt_matches_c 78 = .ok (.ireturn, 1) := by decide +kernel
theorem d_qt_matches_79 : decode qt_matches_c 79 = .ok (.aload_n 0, 1) := by decide +kernel
theorem d_qt_matches_80 : decode qt_matches_c 80 = .ok (.aload_n 0, 1) := by decide +kernel
theorem d_qt_matches_81 : decode qt_matches_c 81 = .ok (.getfield 9, 3) := by decide +kernel
theorem d_qt_matches_84 : decode qt_matches_c 84 = .ok (.lload 6, 2) := by decide +kernel
theorem d_qt_matches_86 : decode qt_matches_c 86 = .ok (.invokevirtual 50, 3) := by decide +kernel
theorem d_qt_matches_89 : decode qt_matches_c 89 = .ok (.aload_n 0, 1) := by decide +kernel
theorem d_qt_matches_90 : decode qt_matches_c 90 = .ok (.getfield 9, 3) := by decide +kernel
theorem d_qt_matches_93 : decode qt_matches_c 93 = .ok (.lload 8, 2) := by decide +kernel
theorem d_qt_matches_95 : decode qt_matches_c 95 = .ok (.invokevirtual 50, 3) := by decide +kernel
theorem d_qt_matches_98 : decode qt_matches_c 98 = .ok (.invokevirtual 56, 3) := by decide +kernel
theorem d_qt_matches_101 : decode qt_matches_c 101 = .ok (.aload_n 0, 1) := by decide +kernel
theorem d_qt_matches_102 : decode qt_matches_c 102 = .ok (.aload_n 0, 1) := by decide +kernel
theorem d_qt_matches_103 : decode qt_matches_c 103 = .ok (.getfield 9, 3) := by decide +kernel
theorem d_qt_matches_106 : decode qt_matches_c 106 = .ok (.lload 6, 2) := by decide +kernel
theorem d_qt_matches_108 : decode qt_matches_c 108 = .ok (.invokevirtual 59, 3) := by decide +kernel
theorem d_qt_matches_111 : decode qt_matches_c 111 = .ok (.aload_n 0, 1) := by decide +kernel
theorem d_qt_matches_112 : decode qt_matches_c 112 = .ok (.getfield 9, 3) := by decide +kernel
theorem d_qt_matches_115 : decode qt_matches_c 115 = .ok (.lload 8, 2) := by decide +kernel
theorem d_qt_matches_117 : decode qt_matches_c 117 = .ok (.invokevirtual 59, 3) := by decide +kernel
theorem d_qt_matches_120 : decode qt_matches_c 120 = .ok (.invokevirtual 56, 3) := by decide +kernel
theorem d_qt_matches_123 : decode qt_matches_c 123 = .ok (.goto 28, 3) := by decide +kernel
theorem d_qt_matches_126 : decode qt_matches_c 126 = .ok (.aload_n 0, 1) := by decide +kernel
theorem d_qt_matches_127 : decode qt_matches_c 127 = .ok (.lload 6, 2) := by decide +kernel
theorem d_qt_matches_129 : decode qt_matches_c 129 = .ok (.invokestatic 62, 3) := by decide +kernel
theorem d_qt_matches_132 : decode qt_matches_c 132 = .ok (.lload 8, 2) := by decide +kernel
theorem d_qt_matches_134 : decode qt_matches_c 134 = .ok (.invokevirtual 69, 3) := by decide +kernel
theorem d_qt_matches_137 : decode qt_matches_c 137 = .ok (.goto 14, 3) := by decide +kernel
theorem d_qt_matches_140 : decode qt_matches_c 140 = .ok (.lload 8, 2) := by decide +kernel
theorem d_qt_matches_142 : decode qt_matches_c 142 = .ok (.ldc2_w 36, 3) := by decide +kernel
theorem d_qt_matches_145 : decode qt_matches_c 145 = .ok (.lcmp, 1) := by decide +kernel
theorem d_qt_matches_146 : decode qt_matches_c 146 = .ok (.ifCond .eq 5, 3) := by decide +kernel
theorem d_qt_matches_149 : decode qt_matches_c 149 = .ok (.iconst 0, 1) := by decide +kernel
theorem d_qt_matches_150 : decode qt_matches_c 150 = .ok (.ireturn, 1) := by decide +kernel
theorem d_qt_matches_151 : decode qt_matches_c 151 = .ok (.iinc 5 1, 3) := by decide +kernel
theorem d_qt_matches_154 : decode qt_matches_c 154 = .ok (.goto (-145), 3) := by decide +kernel
theorem d_qt_matches_157 : decode qt_matches_c 157 = .ok (.aload_n 0, 1) := by decide +kernel
theorem d_qt_matches_158 : decode qt_matches_c 158 = .ok (.getfield 29, 3) := by decide +kernel
theorem d_qt_matches_161 : decode qt_matches_c 161 = .ok (.ifCond .ne 7, 3) := by decide +kernel
theorem d_qt_matches_164 : decode qt_matches_c 164 = .ok (.iconst 1, 1) := by decide +kernel
theorem d_qt_matches_165 : decode qt_matches_c 165 = .ok (.goto 4, 3) := by decide +kernel
theorem d_qt_matches_168 : decode qt_matches_c 168 = .ok (.iconst 0, 1) := by decide +kernel
theorem d_qt_matches_169 : decode qt_matches_c 169 = .ok (.ireturn, 1) := by decide +kernel
theorem d_qh_scopeOf_0 : decode qh_scopeOf_c 0 = .ok (.aload_n 0, 1) := by decide +kernel
theorem d_qh_scopeOf_1 : decode qh_scopeOf_c 1 = .ok (.iload_n 1, 1) := by decide +kernel
theorem d_qh_scopeOf_2 : decode qh_scopeOf_c 2 = .ok (.invokevirtual 61, 3) := by decide +kernel
theorem d_qh_scopeOf_5 : decode qh_scopeOf_c 5 = .ok (.ldc2_w 73, 3) := by decide +kernel
theorem d_qh_scopeOf_8 : decode qh_scopeOf_c 8 = .ok (.land, 1) := by decide +kernel
theorem d_qh_scopeOf_9 : decode qh_scopeOf_c 9 = .ok (.l2i, 1) := by decide +kernel
theorem d_qh_scopeOf_10 : decode qh_scopeOf_c 10 = .ok (.ireturn, 1) := by decide +kernel
theorem d_qh_addEnvironment_0 : decode qh_addEnvironment_c 0 = .ok (.aload_n 0, 1) := by decide +kernel
theorem d_qh_addEnvironment_1 : decode qh_addEnvironment_c 1 = .ok (.iload_n 1, 1) := by decide +kernel
theorem d_qh_addEnvironment_2 : decode qh_addEnvironment_c 2 = .ok (.i2l, 1) := by decide +kernel
theorem d_qh_addEnvironment_3 : decode qh_addEnvironment_c 3 = .ok (.ldc2_w 23, 3) := by decide +kernel
theorem d_qh_addEnvironment_6 : decode qh_addEnvironment_c 6 = .ok (.invokevirtual 49, 3) := by decide +kernel
theorem d_qh_addEnvironment_9 : decode qh_addEnvironment_c 9 = .ok (.ireturn, 1) := by decide +kernel
theorem d_qh_addBinding_0 : decode qh_addBinding_c 0 = .ok (.aload_n 0, 1) := by decide +kernel
theorem d_qh_addBinding_1 : decode qh_addBinding_c 1 = .ok (.lload_n 3, 1) := by decide +kernel
theorem d_qh_addBinding_2 : decode qh_addBinding_c 2 = .ok (.iload_n 2, 1) := by decide +kernel
theorem d_qh_addBinding_3 : decode qh_addBinding_c 3 = .ok (.aload_n 0, 1) := by decide +kernel
theorem d_qh_addBinding_4 : decode qh_addBinding_c 4 = .ok (.iload_n 1, 1) := by decide +kernel
theorem d_qh_addBinding_5 : decode qh_addBinding_c 5 = .ok (.invokevirtual 39, 3) := by decide +kernel
theorem d_qh_addBinding_8 : decode qh_addBinding_c 8 = .ok (.invokestatic 43, 3) := by decide +kernel
theorem d_qh_addBinding_11 : decode qh_addBinding_c 11 = .ok (.invokevirtual 49, 3) := by decide +kernel
theorem d_qh_addBinding_14 : decode qh_addBinding_c 14 = .ok (.istore 5, 2) := by decide +kernel
theorem d_qh_addBinding_16 : decode qh_addBinding_c 16 = .ok (.iload 5, 2) := by decide +kernel
theorem d_qh_addBinding_18 : decode qh_addBinding_c 18 = .ok (.iconst (-1), 1) := by decide +kernel
theorem d_qh_addBinding_19 : decode qh_addBinding_c 19 = .ok (.if_icmp .ne 5, 3) := by decide +kernel
theorem d_qh_addBinding_22 : decode qh_addBinding_c 22 = .ok (.iconst 0, 1) := by decide +kernel
theorem d_qh_addBinding_23 : decode qh_addBinding_c 23 = .ok (.ireturn, 1) := by decide +kernel
theorem d_qh_addBinding_24 : decode qh_addBinding_c 24 = .ok (.aload_n 0, 1) := by decide +kernel
theorem d_qh_addBinding_25 : decode qh_addBinding_c 25 = .ok (.iload_n 1, 1) := by decide +kernel
theorem d_qh_addBinding_26 : decode qh_addBinding_c 26 = .ok (.aload_n 0, 1) := by decide +kernel
theorem d_qh_addBinding_27 : decode qh_addBinding_c 27 = .ok (.iload_n 1, 1) := by decide +kernel
theorem d_qh_addBinding_28 : decode qh_addBinding_c 28 = .ok (.invokevirtual 57, 3) := by decide +kernel
theorem d_qh_addBinding_31 : decode qh_addBinding_c 31 = .ok (.iload 5, 2) := by decide +kernel
theorem d_qh_addBinding_33 : decode qh_addBinding_c 33 = .ok (.i2l, 1) := by decide +kernel
theorem d_qh_addBinding_34 : decode qh_addBinding_c 34 = .ok (.invokevirtual 25, 3) := by decide +kernel
theorem d_qh_addBinding_37 : decode qh_addBinding_c 37 = .ok (.iconst 1, 1) := by decide +kernel
theorem d_qh_addBinding_38 : decode qh_addBinding_c 38 = .ok (.ireturn, 1) := by decide +kernel
theorem d_qt_bindFound_0 : decode qt_bindFound_c 0 = .ok (.iconst 0, 1) := by decide +kernel
theorem d_qt_bindFound_1 : decode qt_bindFound_c 1 = .ok (.istore_n 2, 1) := by decide +kernel
theorem d_qt_bindFound_2 : decode qt_bindFound_c 2 = .ok (.iload_n 2, 1) := by decide +kernel
theorem d_qt_bindFound_3 : decode qt_bindFound_c 3 = .ok (.aload_n 0, 1) := by decide +kernel
theorem d_qt_bindFound_4 : decode qt_bindFound_c 4 = .ok (.getfield 33, 3) := by decide +kernel
theorem d_qt_bindFound_7 : decode qt_bindFound_c 7 = .ok (.if_icmp .ge 40, 3) := by decide +kernel
theorem d_qt_bindFound_10 : decode qt_bindFound_c 10 = .ok (.iload_n 2, 1) := by decide +kernel
theorem d_qt_bindFound_11 : decode qt_bindFound_c 11 = .ok (.bipush 100, 2) := by decide +kernel
theorem d_qt_bindFound_13 : decode qt_bindFound_c 13 = .ok (.if_icmp .ge 34, 3) := by decide +kernel
theorem d_qt_bindFound_16 : decode qt_bindFound_c 16 = .ok (.aload_n 0, 1) := by decide +kernel
theorem d_qt_bindFound_17 : decode qt_bindFound_c 17 = .ok (.getfield 9, 3) := by decide +kernel
theorem d_qt_bindFound_20 : decode qt_bindFound_c 20 = .ok (.iload_n 1, 1) := by decide +kernel
theorem d_qt_bindFound_21 : decode qt_bindFound_c 21 = .ok (.aload_n 0, 1) := by decide +kernel
theorem d_qt_bindFound_22 : decode qt_bindFound_c 22 = .ok (.getfield 22, 3) := by decide +kernel
theorem d_qt_bindFound_25 : decode qt_bindFound_c 25 = .ok (.iload_n 2, 1) := by decide +kernel
theorem d_qt_bindFound_26 : decode qt_bindFound_c 26 = .ok (.iaload, 1) := by decide +kernel
theorem d_qt_bindFound_27 : decode qt_bindFound_c 27 = .ok (.aload_n 0, 1) := by decide +kernel
theorem d_qt_bindFound_28 : decode qt_bindFound_c 28 = .ok (.getfield 26, 3) := by decide +kernel
theorem d_qt_bindFound_31 : decode qt_bindFound_c 31 = .ok (.iload_n 2, 1) := by decide +kernel
theorem d_qt_bindFound_32 : decode qt_bindFound_c 32 = .ok (.laload, 1) := by decide +kernel
theorem d_qt_bindFound_33 : decode qt_bindFound_c 33 = .ok (.invokevirtual 76, 3) := by decide +kernel
theorem d_qt_bindFound_36 : decode qt_bindFound_c 36 = .ok (.ifCond .ne 5, 3) := by decide +kernel
theorem d_qt_bindFound_39 : decode qt_bindFound_c 39 = .ok (.iconst 0, 1) := by decide +kernel
theorem d_qt_bindFound_40 : decode qt_bindFound_c 40 = .ok (.ireturn, 1) := by decide +kernel
theorem d_qt_bindFound_41 : decode qt_bindFound_c 41 = .ok (.iinc 2 1, 3) := by decide +kernel
theorem d_qt_bindFound_44 : decode qt_bindFound_c 44 = .ok (.goto (-42), 3) := by decide +kernel
theorem d_qt_bindFound_47 : decode qt_bindFound_c 47 = .ok (.iconst 1, 1) := by decide +kernel
theorem d_qt_bindFound_48 : decode qt_bindFound_c 48 = .ok (.ireturn, 1) := by decide +kernel
theorem d_qh_environmentSymbolOf_0 : decode qh_environmentSymbolOf_c 0 = .ok (.aload_n 0, 1) := by decide +kernel
theorem d_qh_environmentSymbolOf_1 : decode qh_environmentSymbolOf_c 1 = .ok (.iload_n 1, 1) := by decide +kernel
theorem d_qh_environmentSymbolOf_2 : decode qh_environmentSymbolOf_c 2 = .ok (.invokevirtual 61, 3) := by decide +kernel
theorem d_qh_environmentSymbolOf_5 : decode qh_environmentSymbolOf_c 5 = .ok (.bipush 13, 2) := by decide +kernel
theorem d_qh_environmentSymbolOf_7 : decode qh_environmentSymbolOf_c 7 = .ok (.lshr, 1) := by decide +kernel
theorem d_qh_environmentSymbolOf_8 : decode qh_environmentSymbolOf_c 8 = .ok (.ldc2_w 71, 3) := by decide +kernel
theorem d_qh_environmentSymbolOf_11 : decode qh_environmentSymbolOf_c 11 = .ok (.land, 1) := by decide +kernel
theorem d_qh_environmentSymbolOf_12 : decode qh_environmentSymbolOf_c 12 = .ok (.l2i, 1) := by decide +kernel
theorem d_qh_environmentSymbolOf_13 : decode qh_environmentSymbolOf_c 13 = .ok (.ireturn, 1) := by decide +kernel
theorem d_qn_bindCaller_0 : decode qn_bindCaller_c 0 = .ok (.iload_n 2, 1) := by decide +kernel
theorem d_qn_bindCaller_1 : decode qn_bindCaller_c 1 = .ok (.bipush 127, 2) := by decide +kernel
theorem d_qn_bindCaller_3 : decode qn_bindCaller_c 3 = .ok (.if_icmp .eq 25, 3) := by decide +kernel
theorem d_qn_bindCaller_6 : decode qn_bindCaller_c 6 = .ok (.aload_n 0, 1) := by decide +kernel
theorem d_qn_bindCaller_7 : decode qn_bindCaller_c 7 = .ok (.getfield 9, 3) := by decide +kernel
theorem d_qn_bindCaller_10 : decode qn_bindCaller_c 10 = .ok (.iload_n 1, 1) := by decide +kernel
theorem d_qn_bindCaller_11 : decode qn_bindCaller_c 11 = .ok (.iload_n 2, 1) := by decide +kernel
theorem d_qn_bindCaller_12 : decode qn_bindCaller_c 12 = .ok (.bipush 7, 2) := by decide +kernel
theorem d_qn_bindCaller_14 : decode qn_bindCaller_c 14 = .ok (.aload_n 0, 1) := by decide +kernel
theorem d_qn_bindCaller_15 : decode qn_bindCaller_c 15 = .ok (.getfield 61, 3) := by decide +kernel
theorem d_qn_bindCaller_18 : decode qn_bindCaller_c 18 = .ok (.i2l, 1) := by decide +kernel
theorem d_qn_bindCaller_19 : decode qn_bindCaller_c 19 = .ok (.invokestatic 102, 3) := by decide +kernel
theorem d_qn_bindCaller_22 : decode qn_bindCaller_c 22 = .ok (.invokevirtual 239, 3) := by decide +kernel
theorem d_qn_bindCaller_25 : decode qn_bindCaller_c 25 = .ok (.ifCond .eq 7, 3) := by decide +kernel
theorem d_qn_bindCaller_28 : decode qn_bindCaller_c 28 = .ok (.iconst 1, 1) := by decide +kernel
theorem d_qn_bindCaller_29 : decode qn_bindCaller_c 29 = .ok (.goto 4, 3) := by decide +kernel
theorem d_qn_bindCaller_32 : decode qn_bindCaller_c 32 = .ok (.iconst 0, 1) := by decide +kernel
theorem d_qn_bindCaller_33 : decode qn_bindCaller_c 33 = .ok (.ireturn, 1) := by decide +kernel
theorem d_qh_bodyOf_0 : decode qh_bodyOf_c 0 = .ok (.aload_n 0, 1) := by decide +kernel
theorem d_qh_bodyOf_1 : decode qh_bodyOf_c 1 = .ok (.iload_n 1, 1) := by decide +kernel
theorem d_qh_bodyOf_2 : decode qh_bodyOf_c 2 = .ok (.invokevirtual 57, 3) := by decide +kernel
theorem d_qh_bodyOf_5 : decode qh_bodyOf_c 5 = .ok (.lreturn, 1) := by decide +kernel
theorem d_qn_combineCompound_0 : decode qn_combineCompound_c 0 = .ok (.aload_n 0, 1) := by decide +kernel
theorem d_qn_combineCompound_1 : decode qn_combineCompound_c 1 = .ok (.getfield 20, 3) := by decide +kernel
theorem d_qn_combineCompound_4 : decode qn_combineCompound_c 4 = .ok (.aload_n 0, 1) := by decide +kernel
theorem d_qn_combineCompound_5 : decode qn_combineCompound_c 5 = .ok (.getfield 9, 3) := by decide +kernel
theorem d_qn_combineCompound_8 : decode qn_combineCompound_c 8 = .ok (.iload_n 1, 1) := by decide +kernel
theorem d_qn_combineCompound_9 : decode qn_combineCompound_c 9 = .ok (.invokevirtual 212, 3) := by decide +kernel
theorem d_qn_combineCompound_12 : decode qn_combineCompound_c 12 = .ok (.aload_n 0, 1) := by decide +kernel
theorem d_qn_combineCompound_13 : decode qn_combineCompound_c 13 = .ok (.getfield 56, 3) := by decide +kernel
theorem d_qn_combineCompound_16 : decode qn_combineCompound_c 16 = .ok (.invokevirtual 215, 3) := by decide +kernel
theorem d_qn_combineCompound_19 : decode qn_combineCompound_c 19 = .ok (.ifCond .ne 10, 3) := by decide +kernel
theorem d_qn_combineCompound_22 : decode qn_combineCompound_c 22 = .ok (.aload_n 0, 1) := by decide +kernel
theorem d_qn_combineCompound_23 : decode qn_combineCompound_c 23 = .ok (.bipush (-8), 2) := by decide +kernel
theorem d_qn_combineCompound_25 : decode qn_combineCompound_c 25 = .ok (.invokevirtual 99, 3) := by decide +kernel
theorem d_qn_combineCompound_28 : decode qn_combineCompound_c 28 = .ok (.return_, 1) := by decide +kernel
theorem d_qn_combineCompound_29 : decode qn_combineCompound_c 29 = .ok (.aload_n 0, 1) := by decide +kernel
theorem d_qn_combineCompound_30 : decode qn_combineCompound_c 30 = .ok (.getfield 9, 3) := by decide +kernel
theorem d_qn_combineCompound_33 : decode qn_combineCompound_c 33 = .ok (.aload_n 0, 1) := by decide +kernel
theorem d_qn_combineCompound_34 : decode qn_combineCompound_c 34 = .ok (.getfield 9, 3) := by decide +kernel
theorem d_qn_combineCompound_37 : decode qn_combineCompound_c 37 = .ok (.iload_n 1, 1) := by decide +kernel
theorem d_qn_combineCompound_38 : decode qn_combineCompound_c 38 = .ok (.invokevirtual 219, 3) := by decide +kernel
theorem d_qn_combineCompound_41 : decode qn_combineCompound_c 41 = .ok (.invokevirtual 223, 3) := by decide +kernel
theorem d_qn_combineCompound_44 : decode qn_combineCompound_c 44 = .ok (.istore_n 2, 1) := by decide +kernel
theorem d_qn_combineCompound_45 : decode qn_combineCompound_c 45 = .ok (.iload_n 2, 1) := by decide +kernel
theorem d_qn_combineCompound_46 : decode qn_combineCompound_c 46 = .ok (.iconst (-1), 1) := by decide +kernel
theorem d_qn_combineCompound_47 : decode qn_combineCompound_c 47 = .ok (.if_icmp .eq 30, 3) := by decide +kernel
theorem d_qn_combineCompound_50 : decode qn_combineCompound_c 50 = .ok (.aload_n 0, 1) := by decide +kernel
theorem d_qn_combineCompound_51 : decode qn_combineCompound_c 51 = .ok (.getfield 20, 3) := by decide +kernel
theorem d_qn_combineCompound_54 : decode qn_combineCompound_c 54 = .ok (.iload_n 2, 1) := by decide +kernel
theorem d_qn_combineCompound_55 : decode qn_combineCompound_c 55 = .ok (.invokevirtual 226, 3) := by decide +kernel
theorem d_qn_combineCompound_58 : decode qn_combineCompound_c 58 = .ok (.ifCond .eq 19, 3) := by decide +kernel
theorem d_qn_combineCompound_61 : decode qn_combineCompound_c 61 = .ok (.aload_n 0, 1) := by decide +kernel
theorem d_qn_combineCompound_62 : decode qn_combineCompound_c 62 = .ok (.iload_n 2, 1) := by decide +kernel
theorem d_qn_combineCompound_63 : decode qn_combineCompound_c 63 = .ok (.aload_n 0, 1) := by decide +kernel
theorem d_qn_combineCompound_64 : decode qn_combineCompound_c 64 = .ok (.getfield 9, 3) := by decide +kernel
theorem d_qn_combineCompound_67 : decode qn_combineCompound_c 67 = .ok (.iload_n 1, 1) := by decide +kernel
theorem d_qn_combineCompound_68 : decode qn_combineCompound_c 68 = .ok (.invokevirtual 229, 3) := by decide +kernel
theorem d_qn_combineCompound_71 : decode qn_combineCompound_c 71 = .ok (.invokevirtual 232, 3) := by decide +kernel
theorem d_qn_combineCompound_74 : decode qn_combineCompound_c 74 = .ok (.ifCond .ne 10, 3) := by decide +kernel
theorem d_qn_combineCompound_77 : decode qn_combineCompound_c 77 = .ok (.aload_n 0, 1) := by decide +kernel
theorem d_qn_combineCompound_78 : decode qn_combineCompound_c 78 = .ok (.bipush (-5), 2) := by decide +kernel
theorem d_qn_combineCompound_80 : decode qn_combineCompound_c 80 = .ok (.invokevirtual 99, 3) := by decide +kernel
theorem d_qn_combineCompound_83 : decode qn_combineCompound_c 83 = .ok (.return_, 1) := by decide +kernel
theorem d_qn_combineCompound_84 : decode qn_combineCompound_c 84 = .ok (.aload_n 0, 1) := by decide +kernel
theorem d_qn_combineCompound_85 : decode qn_combineCompound_c 85 = .ok (.iload_n 2, 1) := by decide +kernel
theorem d_qn_combineCompound_86 : decode qn_combineCompound_c 86 = .ok (.putfield 61, 3) := by decide +kernel
theorem d_qn_combineCompound_89 : decode qn_combineCompound_c 89 = .ok (.aload_n 0, 1) := by decide +kernel
theorem d_qn_combineCompound_90 : decode qn_combineCompound_c 90 = .ok (.aload_n 0, 1) := by decide +kernel
theorem d_qn_combineCompound_91 : decode qn_combineCompound_c 91 = .ok (.getfield 9, 3) := by decide +kernel
theorem d_qn_combineCompound_94 : decode qn_combineCompound_c 94 = .ok (.iload_n 1, 1) := by decide +kernel
theorem d_qn_combineCompound_95 : decode qn_combineCompound_c 95 = .ok (.invokevirtual 236, 3) := by decide +kernel
theorem d_qn_combineCompound_98 : decode qn_combineCompound_c 98 = .ok (.invokevirtual 77, 3) := by decide +kernel
theorem d_qn_combineCompound_101 : decode qn_combineCompound_c 101 = .ok (.return_, 1) := by decide +kernel
theorem d_qn_combineCurrent_0 : decode qn_combineCurrent_c 0 = .ok (.aload_n 0, 1) := by decide +kernel
theorem d_qn_combineCurrent_1 : decode qn_combineCurrent_c 1 = .ok (.getfield 52, 3) := by decide +kernel
theorem d_qn_combineCurrent_4 : decode qn_combineCurrent_c 4 = .ok (.invokestatic 117, 3) := by decide +kernel
theorem d_qn_combineCurrent_7 : decode qn_combineCurrent_c 7 = .ok (.istore_n 1, 1) := by decide +kernel
theorem d_qn_combineCurrent_8 : decode qn_combineCurrent_c 8 = .ok (.iload_n 1, 1) := by decide +kernel
theorem d_qn_combineCurrent_9 : decode qn_combineCurrent_c 9 = .ok (.bipush 6, 2) := by decide +kernel
theorem d_qn_combineCurrent_11 : decode qn_combineCurrent_c 11 = .ok (.if_icmp .ne 10, 3) := by decide +kernel
theorem d_qn_combineCurrent_14 : decode qn_combineCurrent_c 14 = .ok (.aload_n 0, 1) := by decide +kernel
theorem d_qn_combineCurrent_15 : decode qn_combineCurrent_c 15 = .ok (.invokevirtual 142, 3) := by decide +kernel
theorem d_qn_combineCurrent_18 : decode qn_combineCurrent_c 18 = .ok (.goto 49, 3) := by decide +kernel
theorem d_qn_combineCurrent_21 : decode qn_combineCurrent_c 21 = .ok (.iload_n 1, 1) := by decide +kernel
theorem d_qn_combineCurrent_22 : decode qn_combineCurrent_c 22 = .ok (.iconst 5, 1) := by decide +kernel
theorem d_qn_combineCurrent_23 : decode qn_combineCurrent_c 23 = .ok (.if_icmp .eq 12, 3) := by decide +kernel
theorem d_qn_combineCurrent_26 : decode qn_combineCurrent_c 26 = .ok (.aload_n 0, 1) := by decide +kernel
theorem d_qn_combineCurrent_27 : decode qn_combineCurrent_c 27 = .ok (.bipush (-7), 2) := by decide +kernel
theorem d_qn_combineCurrent_29 : decode qn_combineCurrent_c 29 = .ok (.invokevirtual 99, 3) := by decide +kernel
theorem d_qn_combineCurrent_32 : decode qn_combineCurrent_c 32 = .ok (.goto 35, 3) := by decide +kernel
theorem d_qn_combineCurrent_35 : decode qn_combineCurrent_c 35 = .ok (.aload_n 0, 1) := by decide +kernel
theorem d_qn_combineCurrent_36 : decode qn_combineCurrent_c 36 = .ok (.getfield 52, 3) := by decide +kernel
theorem d_qn_combineCurrent_39 : decode qn_combineCurrent_c 39 = .ok (.invokestatic 88, 3) := by decide +kernel
theorem d_qn_combineCurrent_42 : decode qn_combineCurrent_c 42 = .ok (.invokestatic 145, 3) := by decide +kernel
theorem d_qn_combineCurrent_45 : decode qn_combineCurrent_c 45 = .ok (.ifCond .eq 11, 3) := by decide +kernel
theorem d_qn_combineCurrent_48 : decode qn_combineCurrent_c 48 = .ok (.aload_n 0, 1) := by decide +kernel
theorem d_qn_combineCurrent_49 : decode qn_combineCurrent_c 49 = .ok (.iconst 2, 1) := by decide +kernel
theorem d_qn_combineCurrent_50 : decode qn_combineCurrent_c 50 = .ok (.putfield 45, 3) := by decide +kernel
theorem d_qn_combineCurrent_53 : decode qn_combineCurrent_c 53 = .ok (.goto 14, 3) := by decide +kernel
theorem d_qn_combineCurrent_56 : decode qn_combineCurrent_c 56 = .ok (.aload_n 0, 1) := by decide +kernel
theorem d_qn_combineCurrent_57 : decode qn_combineCurrent_c 57 = .ok (.aload_n 0, 1) := by decide +kernel
theorem d_qn_combineCurrent_58 : decode qn_combineCurrent_c 58 = .ok (.getfield 52, 3) := by decide +kernel
theorem d_qn_combineCurrent_61 : decode qn_combineCurrent_c 61 = .ok (.invokestatic 88, 3) := by decide +kernel
theorem d_qn_combineCurrent_64 : decode qn_combineCurrent_c 64 = .ok (.invokevirtual 149, 3) := by decide +kernel
theorem d_qn_combineCurrent_67 : decode qn_combineCurrent_c 67 = .ok (.return_, 1) := by decide +kernel
theorem d_qn_hasDueCount_0 : decode qn_hasDueCount_c 0 = .ok (.iload_n 1, 1) := by decide +kernel
theorem d_qn_hasDueCount_1 : decode qn_hasDueCount_c 1 = .ok (.ifCond .lt 16, 3) := by decide +kernel
theorem d_qn_hasDueCount_4 : decode qn_hasDueCount_c 4 = .ok (.iload_n 1, 1) := by decide +kernel
theorem d_qn_hasDueCount_5 : decode qn_hasDueCount_c 5 = .ok (.getstatic 259, 3) := by decide +kernel
theorem d_qn_hasDueCount_8 : decode qn_hasDueCount_c 8 = .ok (.arraylength, 1) := by decide +kernel
theorem d_qn_hasDueCount_9 : decode qn_hasDueCount_c 9 = .ok (.if_icmp .ge 8, 3) := by decide +kernel
theorem d_qn_hasDueCount_12 : decode qn_hasDueCount_c 12 = .ok (.iload_n 2, 1) := by decide +kernel
theorem d_qn_hasDueCount_13 : decode qn_hasDueCount_c 13 = .ok (.iconst (-1), 1) := by decide +kernel
theorem d_qn_hasDueCount_14 : decode qn_hasDueCount_c 14 = .ok (.if_icmp .ne 5, 3) := by decide +kernel
theorem d_qn_hasDueCount_17 : decode qn_hasDueCount_c 17 = .ok (.iconst 0, 1) := by decide +kernel
theorem d_qn_hasDueCount_18 : decode qn_hasDueCount_c 18 = .ok (.ireturn, 1) := by decide +kernel
theorem d_qn_hasDueCount_19 : decode qn_hasDueCount_c 19 = .ok (.getstatic 259, 3) := by decide +kernel
theorem d_qn_hasDueCount_22 : decode qn_hasDueCount_c 22 = .ok (.iload_n 1, 1) := by decide +kernel
theorem d_qn_hasDueCount_23 : decode qn_hasDueCount_c 23 = .ok (.iaload, 1) := by decide +kernel
theorem d_qn_hasDueCount_24 : decode qn_hasDueCount_c 24 = .ok (.iload_n 2, 1) := by decide +kernel
theorem d_qn_hasDueCount_25 : decode qn_hasDueCount_c 25 = .ok (.if_icmp .eq 12, 3) := by decide +kernel
theorem d_qn_hasDueCount_28 : decode qn_hasDueCount_c 28 = .ok (.getstatic 259, 3) := by decide +kernel
theorem d_qn_hasDueCount_31 : decode qn_hasDueCount_c 31 = .ok (.iload_n 1, 1) := by decide +kernel
theorem d_qn_hasDueCount_32 : decode qn_hasDueCount_c 32 = .ok (.iaload, 1) := by decide +kernel
theorem d_qn_hasDueCount_33 : decode qn_hasDueCount_c 33 = .ok (.iconst (-1), 1) := by decide +kernel
theorem d_qn_hasDueCount_34 : decode qn_hasDueCount_c 34 = .ok (.if_icmp .ne 7, 3) := by decide +kernel
theorem d_qn_hasDueCount_37 : decode qn_hasDueCount_c 37 = .ok (.iconst 1, 1) := by decide +kernel
theorem d_qn_hasDueCount_38 : decode qn_hasDueCount_c 38 = .ok (.goto 4, 3) := by decide +kernel
theorem d_qn_hasDueCount_41 : decode qn_hasDueCount_c 41 = .ok (.iconst 0, 1) := by decide +kernel
theorem d_qn_hasDueCount_42 : decode qn_hasDueCount_c 42 = .ok (.ireturn, 1) := by decide +kernel
theorem d_qh_elementOf_0 : decode qh_elementOf_c 0 = .ok (.lload_n 1, 1) := by decide +kernel
theorem d_qh_elementOf_1 : decode qh_elementOf_c 1 = .ok (.lstore 4, 2) := by decide +kernel
theorem d_qh_elementOf_3 : decode qh_elementOf_c 3 = .ok (.iconst 0, 1) := by decide +kernel
theorem d_qh_elementOf_4 : decode qh_elementOf_c 4 = .ok (.istore 6, 2) := by decide +kernel
theorem d_qh_elementOf_6 : decode qh_elementOf_c 6 = .ok (.iload 6, 2) := by decide +kernel
theorem d_qh_elementOf_8 : decode qh_elementOf_c 8 = .ok (.iload_n 3, 1) := by decide +kernel
theorem d_qh_elementOf_9 : decode qh_elementOf_c 9 = .ok (.if_icmp .ge 20, 3) := by decide +kernel
theorem d_qh_elementOf_12 : decode qh_elementOf_c 12 = .ok (.aload_n 0, 1) := by decide +kernel
theorem d_qh_elementOf_13 : decode qh_elementOf_c 13 = .ok (.lload 4, 2) := by decide +kernel
theorem d_qh_elementOf_15 : decode qh_elementOf_c 15 = .ok (.invokestatic 53, 3) := by decide +kernel
theorem d_qh_elementOf_18 : decode qh_elementOf_c 18 = .ok (.invokevirtual 61, 3) := by decide +kernel
theorem d_qh_elementOf_21 : decode qh_elementOf_c 21 = .ok (.lstore 4, 2) := by decide +kernel
theorem d_qh_elementOf_23 : decode qh_elementOf_c 23 = .ok (.iinc 6 1, 3) := by decide +kernel
theorem d_qh_elementOf_26 : decode qh_elementOf_c 26 = .ok (.goto (-20), 3) := by decide +kernel
theorem d_qh_elementOf_29 : decode qh_elementOf_c 29 = .ok (.aload_n 0, 1) := by decide +kernel
theorem d_qh_elementOf_30 : decode qh_elementOf_c 30 = .ok (.lload 4, 2) := by decide +kernel
theorem d_qh_elementOf_32 : decode qh_elementOf_c 32 = .ok (.invokestatic 53, 3) := by decide +kernel
theorem d_qh_elementOf_35 : decode qh_elementOf_c 35 = .ok (.invokevirtual 57, 3) := by decide +kernel
theorem d_qh_elementOf_38 : decode qh_elementOf_c 38 = .ok (.lreturn, 1) := by decide +kernel
theorem d_qn_operand_0 : decode qn_operand_c 0 = .ok (.aload_n 0, 1) := by decide +kernel
theorem d_qn_operand_1 : decode qn_operand_c 1 = .ok (.getfield 9, 3) := by decide +kernel
theorem d_qn_operand_4 : decode qn_operand_c 4 = .ok (.aload_n 0, 1) := by decide +kernel
theorem d_qn_operand_5 : decode qn_operand_c 5 = .ok (.getfield 56, 3) := by decide +kernel
theorem d_qn_operand_8 : decode qn_operand_c 8 = .ok (.iload_n 1, 1) := by decide +kernel
theorem d_qn_operand_9 : decode qn_operand_c 9 = .ok (.invokevirtual 286, 3) := by decide +kernel
theorem d_qn_operand_12 : decode qn_operand_c 12 = .ok (.lreturn, 1) := by decide +kernel
theorem d_qt_hasFound_0 : decode qt_hasFound_c 0 = .ok (.iconst 0, 1) := by decide +kernel
theorem d_qt_hasFound_1 : decode qt_hasFound_c 1 = .ok (.istore_n 2, 1) := by decide +kernel
theorem d_qt_hasFound_2 : decode qt_hasFound_c 2 = .ok (.iload_n 2, 1) := by decide +kernel
theorem d_qt_hasFound_3 : decode qt_hasFound_c 3 = .ok (.aload_n 0, 1) := by decide +kernel
theorem d_qt_hasFound_4 : decode qt_hasFound_c 4 = .ok (.getfield 33, 3) := by decide +kernel
theorem d_qt_hasFound_7 : decode qt_hasFound_c 7 = .ok (.if_icmp .ge 27, 3) := by decide +kernel
theorem d_qt_hasFound_10 : decode qt_hasFound_c 10 = .ok (.iload_n 2, 1) := by decide +kernel
theorem d_qt_hasFound_11 : decode qt_hasFound_c 11 = .ok (.bipush 100, 2) := by decide +kernel
theorem d_qt_hasFound_13 : decode qt_hasFound_c 13 = .ok (.if_icmp .ge 21, 3) := by decide +kernel
theorem d_qt_hasFound_16 : decode qt_hasFound_c 16 = .ok (.aload_n 0, 1) := by decide +kernel
theorem d_qt_hasFound_17 : decode qt_hasFound_c 17 = .ok (.getfield 22, 3) := by decide +kernel
theorem d_qt_hasFound_20 : decode qt_hasFound_c 20 = .ok (.iload_n 2, 1) := by decide +kernel
theorem d_qt_hasFound_21 : decode qt_hasFound_c 21 = .ok (.iaload, 1) := by decide +kernel
theorem d_qt_hasFound_22 : decode qt_hasFound_c 22 = .ok (.iload_n 1, 1) := by decide +kernel
theorem d_qt_hasFound_23 : decode qt_hasFound_c 23 = .ok (.if_icmp .ne 5, 3) := by decide +kernel
theorem d_qt_hasFound_26 : decode qt_hasFound_c 26 = .ok (.iconst 1, 1) := by decide +kernel
theorem d_qt_hasFound_27 : decode qt_hasFound_c 27 = .ok (.ireturn, 1) := by decide +kernel
theorem d_qt_hasFound_28 : decode qt_hasFound_c 28 = .ok (.iinc 2 1, 3) := by decide +kernel
theorem d_qt_hasFound_31 : decode qt_hasFound_c 31 = .ok (.goto (-29), 3) := by decide +kernel
theorem d_qt_hasFound_34 : decode qt_hasFound_c 34 = .ok (.iconst 0, 1) := by decide +kernel
theorem d_qt_hasFound_35 : decode qt_hasFound_c 35 = .ok (.ireturn, 1) := by decide +kernel
theorem d_qt_isParameterTree_0 : decode qt_isParameterTree_c 0 = .ok (.aload_n 0, 1) := by decide +kernel
theorem d_qt_isParameterTree_1 : decode qt_isParameterTree_c 1 = .ok (.lload_n 1, 1) := by decide +kernel
theorem d_qt_isParameterTree_2 : decode qt_isParameterTree_c 2 = .ok (.ldc2_w 36, 3) := by decide +kernel
theorem d_qt_isParameterTree_5 : decode qt_isParameterTree_c 5 = .ok (.invokevirtual 38, 3) := by decide +kernel
theorem d_qt_isParameterTree_8 : decode qt_isParameterTree_c 8 = .ok (.iconst 0, 1) := by decide +kernel
theorem d_qt_isParameterTree_9 : decode qt_isParameterTree_c 9 = .ok (.istore_n 3, 1) := by decide +kernel
theorem d_qt_isParameterTree_10 : decode qt_isParameterTree_c 10 = .ok (.iconst 0, 1) := by decide +kernel
theorem d_qt_isParameterTree_11 : decode qt_isParameterTree_c 11 = .ok (.istore 4, 2) := by decide +kernel
theorem d_qt_isParameterTree_13 : decode qt_isParameterTree_c 13 = .ok (.iload 4, 2) := by decide +kernel
theorem d_qt_isParameterTree_15 : decode qt_isParameterTree_c 15 = .ok (.sipush 201, 3) := by decide +kernel
theorem d_qt_isParameterTree_18 : decode qt_isParameterTree_c 18 = .ok (.if_icmp .ge 148, 3) := by decide +kernel
theorem d_qt_isParameterTree_21 : decode qt_isParameterTree_c 21 = .ok (.aload_n 0, 1) := by decide +kernel
theorem d_qt_isParameterTree_22 : decode qt_isParameterTree_c 22 = .ok (.getfield 29, 3) := by decide +kernel
theorem d_qt_isParameterTree_25 : decode qt_isParameterTree_c 25 = .ok (.ifCond .le 141, 3) := by decide +kernel
theorem d_qt_isParameterTree_28 : decode qt_isParameterTree_c 28 = .ok (.aload_n 0, 1) := by decide +kernel
theorem d_qt_isParameterTree_29 : decode qt_isParameterTree_c 29 = .ok (.invokevirtual 42, 3) := by decide +kernel
theorem d_qt_isParameterTree_32 : decode qt_isParameterTree_c 32 = .ok (.lstore 5, 2) := by decide +kernel
theorem d_qt_isParameterTree_34 : decode qt_isParameterTree_c 34 = .ok (.lload 5, 2) := by decide +kernel
theorem d_qt_isParameterTree_36 : decode qt_isParameterTree_c 36 = .ok (.invokestatic 46, 3) := by decide +kernel
theorem d_qt_isParameterTree_39 : decode qt_isParameterTree_c 39 = .ok (.tableswitch 119 2 8 #[87, 116, 41, 119, 119, 119, 116], 41) := by decide +kernel
theorem d_qt_isParameterTree_80 : decode qt_isParameterTree_c 80 = .ok (.iinc 3 1, 3) := by decide +kernel
theorem d_qt_isParameterTree_83 : decode qt_isParameterTree_c 83 = .ok (.iload_n 3, 1) := by decide +kernel
theorem d_qt_isParameterTree_84 : decode qt_isParameterTree_c 84 = .ok (.bipush 100, 2) := by decide +kernel
theorem d_qt_isParameterTree_86 : decode qt_isParameterTree_c 86 = .ok (.if_icmp .le 5, 3) := by decide +kernel
theorem d_qt_isParameterTree_89 : decode qt_isParameterTree_c 89 = .ok (.iconst 0, 1) := by decide +kernel
theorem d_qt_isParameterTree_90 : decode qt_isParameterTree_c 90 = .ok (.ireturn, 1) := by decide +kernel
theorem d_qt_isParameterTree_91 : decode qt_isParameterTree_c 91 = .ok (.aload_n 0, 1) := by decide +kernel
theorem d_qt_isParameterTree_92 : decode qt_isParameterTree_c 92 = .ok (.aload_n 0, 1) := by decide +kernel
theorem d_qt_isParameterTree_93 : decode qt_isParameterTree_c 93 = .ok (.getfield 9, 3) := by decide +kernel
theorem d_qt_isParameterTree_96 : decode qt_isParameterTree_c 96 = .ok (.lload 5, 2) := by decide +kernel
theorem d_qt_isParameterTree_98 : decode qt_isParameterTree_c 98 = .ok (.invokevirtual 50, 3) := by decide +kernel
theorem d_qt_isParameterTree_101 : decode qt_isParameterTree_c 101 = .ok (.ldc2_w 36, 3) := by decide +kernel
theorem d_qt_isParameterTree_104 : decode qt_isParameterTree_c 104 = .ok (.invokevirtual 56, 3) := by decide +kernel
theorem d_qt_isParameterTree_107 : decode qt_isParameterTree_c 107 = .ok (.aload_n 0, 1) := by decide +kernel
theorem d_qt_isParameterTree_108 : decode qt_isParameterTree_c 108 = .ok (.aload_n 0, 1) := by decide +kernel
theorem d_qt_isParameterTree_109 : decode qt_isParameterTree_c 109 = .ok (.getfield 9, 3) := by decide +kernel
theorem d_qt_isParameterTree_112 : decode qt_isParameterTree_c 112 = .ok (.lload 5, 2) := by decide +kernel
theorem d_qt_isParameterTree_114 : decode qt_isParameterTree_c 114 = .ok (.invokevirtual 59, 3) := by decide +kernel
theorem d_qt_isParameterTree_117 : decode qt_isParameterTree_c 117 = .ok (.ldc2_w 36, 3) := by decide +kernel
theorem d_qt_isParameterTree_120 : decode qt_isParameterTree_c 120 = .ok (.invokevirtual 56, 3) := by decide +kernel
theorem d_qt_isParameterTree_123 : decode qt_isParameterTree_c 123 = .ok (.goto 37, 3) := by decide +kernel
theorem d_qt_isParameterTree_126 : decode qt_isParameterTree_c 126 = .ok (.aload_n 0, 1) := by decide +kernel
theorem d_qt_isParameterTree_127 : decode qt_isParameterTree_c 127 = .ok (.lload 5, 2) := by decide +kernel
theorem d_qt_isParameterTree_129 : decode qt_isParameterTree_c 129 = .ok (.invokestatic 62, 3) := by decide +kernel
theorem d_qt_isParameterTree_132 : decode qt_isParameterTree_c 132 = .ok (.invokevirtual 65, 3) := by decide +kernel
theorem d_qt_isParameterTree_135 : decode qt_isParameterTree_c 135 = .ok (.ifCond .eq 5, 3) := by decide +kernel
theorem d_qt_isParameterTree_138 : decode qt_isParameterTree_c 138 = .ok (.iconst 0, 1) := by decide +kernel
theorem d_qt_isParameterTree_139 : decode qt_isParameterTree_c 139 = .ok (.ireturn, 1) := by decide +kernel
theorem d_qt_isParameterTree_140 : decode qt_isParameterTree_c 140 = .ok (.aload_n 0, 1) := by decide +kernel
theorem d_qt_isParameterTree_141 : decode qt_isParameterTree_c 141 = .ok (.lload 5, 2) := by decide +kernel
theorem d_qt_isParameterTree_143 : decode qt_isParameterTree_c 143 = .ok (.invokestatic 62, 3) := by decide +kernel
theorem d_qt_isParameterTree_146 : decode qt_isParameterTree_c 146 = .ok (.ldc2_w 36, 3) := by decide +kernel
theorem d_qt_isParameterTree_149 : decode qt_isParameterTree_c 149 = .ok (.invokevirtual 69, 3) := by decide +kernel
theorem d_qt_isParameterTree_152 : decode qt_isParameterTree_c 152 = .ok (.goto 8, 3) := by decide +kernel
theorem d_qt_isParameterTree_155 : decode qt_isParameterTree_c 155 = .ok (.goto 5, 3) := by decide +kernel
theorem d_qt_isParameterTree_158 : decode qt_isParameterTree_c 158 = .ok (.iconst 0, 1) := by decide +kernel
theorem d_qt_isParameterTree_159 : decode qt_isParameterTree_c 159 = .ok (.ireturn, 1) := by decide +kernel
theorem d_qt_isParameterTree_160 : decode qt_isParameterTree_c 160 = .ok (.iinc 4 1, 3) := by decide +kernel
theorem d_qt_isParameterTree_163 : decode qt_isParameterTree_c 163 = .ok (.goto (-150), 3) := by decide +kernel
theorem d_qt_isParameterTree_166 : decode qt_isParameterTree_c 166 = .ok (.aload_n 0, 1) := by decide +kernel
theorem d_qt_isParameterTree_167 : decode qt_isParameterTree_c 167 = .ok (.getfield 29, 3) := by decide +kernel
theorem d_qt_isParameterTree_170 : decode qt_isParameterTree_c 170 = .ok (.ifCond .ne 7, 3) := by decide +kernel
theorem d_qt_isParameterTree_173 : decode qt_isParameterTree_c 173 = .ok (.iconst 1, 1) := by decide +kernel
theorem d_qt_isParameterTree_174 : decode qt_isParameterTree_c 174 = .ok (.goto 4, 3) := by decide +kernel
theorem d_qt_isParameterTree_177 : decode qt_isParameterTree_c 177 = .ok (.iconst 0, 1) := by decide +kernel
theorem d_qt_isParameterTree_178 : decode qt_isParameterTree_c 178 = .ok (.ireturn, 1) := by decide +kernel
theorem d_qn_canNameCaller_0 : decode qn_canNameCaller_c 0 = .ok (.lload_n 1, 1) := by decide +kernel
theorem d_qn_canNameCaller_1 : decode qn_canNameCaller_c 1 = .ok (.invokestatic 117, 3) := by decide +kernel
theorem d_qn_canNameCaller_4 : decode qn_canNameCaller_c 4 = .ok (.istore_n 3, 1) := by decide +kernel
theorem d_qn_canNameCaller_5 : decode qn_canNameCaller_c 5 = .ok (.lload_n 1, 1) := by decide +kernel
theorem d_qn_canNameCaller_6 : decode qn_canNameCaller_c 6 = .ok (.ldc2_w 281, 3) := by decide +kernel
theorem d_qn_canNameCaller_9 : decode qn_canNameCaller_c 9 = .ok (.lcmp, 1) := by decide +kernel
theorem d_qn_canNameCaller_10 : decode qn_canNameCaller_c 10 = .ok (.ifCond .eq 22, 3) := by decide +kernel
theorem d_qn_canNameCaller_13 : decode qn_canNameCaller_c 13 = .ok (.iload_n 3, 1) := by decide +kernel
theorem d_qn_canNameCaller_14 : decode qn_canNameCaller_c 14 = .ok (.iconst 2, 1) := by decide +kernel
theorem d_qn_canNameCaller_15 : decode qn_canNameCaller_c 15 = .ok (.if_icmp .ne 21, 3) := by decide +kernel
theorem d_qn_canNameCaller_18 : decode qn_canNameCaller_c 18 = .ok (.aload_n 0, 1) := by decide +kernel
theorem d_qn_canNameCaller_19 : decode qn_canNameCaller_c 19 = .ok (.getfield 20, 3) := by decide +kernel
theorem d_qn_canNameCaller_22 : decode qn_canNameCaller_c 22 = .ok (.lload_n 1, 1) := by decide +kernel
theorem d_qn_canNameCaller_23 : decode qn_canNameCaller_c 23 = .ok (.invokestatic 88, 3) := by decide +kernel
theorem d_qn_canNameCaller_26 : decode qn_canNameCaller_c 26 = .ok (.invokevirtual 283, 3) := by decide +kernel
theorem d_qn_canNameCaller_29 : decode qn_canNameCaller_c 29 = .ok (.ifCond .ne 7, 3) := by decide +kernel
theorem d_qn_canNameCaller_32 : decode qn_canNameCaller_c 32 = .ok (.iconst 1, 1) := by decide +kernel
theorem d_qn_canNameCaller_33 : decode qn_canNameCaller_c 33 = .ok (.goto 4, 3) := by decide +kernel
theorem d_qn_canNameCaller_36 : decode qn_canNameCaller_c 36 = .ok (.iconst 0, 1) := by decide +kernel
theorem d_qn_canNameCaller_37 : decode qn_canNameCaller_c 37 = .ok (.ireturn, 1) := by decide +kernel
theorem d_qn_isOperand_0 : decode qn_isOperand_c 0 = .ok (.aload_n 0, 1) := by decide +kernel
theorem d_qn_isOperand_1 : decode qn_isOperand_c 1 = .ok (.getfield 9, 3) := by decide +kernel
theorem d_qn_isOperand_4 : decode qn_isOperand_c 4 = .ok (.aload_n 0, 1) := by decide +kernel
theorem d_qn_isOperand_5 : decode qn_isOperand_c 5 = .ok (.getfield 56, 3) := by decide +kernel
theorem d_qn_isOperand_8 : decode qn_isOperand_c 8 = .ok (.iload_n 1, 1) := by decide +kernel
theorem d_qn_isOperand_9 : decode qn_isOperand_c 9 = .ok (.invokevirtual 286, 3) := by decide +kernel
theorem d_qn_isOperand_12 : decode qn_isOperand_c 12 = .ok (.invokestatic 117, 3) := by decide +kernel
theorem d_qn_isOperand_15 : decode qn_isOperand_c 15 = .ok (.iload_n 2, 1) := by decide +kernel
theorem d_qn_isOperand_16 : decode qn_isOperand_c 16 = .ok (.if_icmp .ne 7, 3) := by decide +kernel
theorem d_qn_isOperand_19 : decode qn_isOperand_c 19 = .ok (.iconst 1, 1) := by decide +kernel
theorem d_qn_isOperand_20 : decode qn_isOperand_c 20 = .ok (.goto 4, 3) := by decide +kernel
theorem d_qn_isOperand_23 : decode qn_isOperand_c 23 = .ok (.iconst 0, 1) := by decide +kernel
theorem d_qn_isOperand_24 : decode qn_isOperand_c 24 = .ok (.ireturn, 1) := by decide +kernel
theorem d_qn_areIntegers_0 : decode qn_areIntegers_c 0 = .ok (.aload_n 0, 1) := by decide +kernel
theorem d_qn_areIntegers_1 : decode qn_areIntegers_c 1 = .ok (.getfield 56, 3) := by decide +kernel
theorem d_qn_areIntegers_4 : decode qn_areIntegers_c 4 = .ok (.lstore_n 1, 1) := by decide +kernel
theorem d_qn_areIntegers_5 : decode qn_areIntegers_c 5 = .ok (.iconst 0, 1) := by decide +kernel
theorem d_qn_areIntegers_6 : decode qn_areIntegers_c 6 = .ok (.istore_n 3, 1) := by decide +kernel
theorem d_qn_areIntegers_7 : decode qn_areIntegers_c 7 = .ok (.lload_n 1, 1) := by decide +kernel
theorem d_qn_areIntegers_8 : decode qn_areIntegers_c 8 = .ok (.ldc2_w 50, 3) := by decide +kernel
theorem d_qn_areIntegers_11 : decode qn_areIntegers_c 11 = .ok (.lcmp, 1) := by decide +kernel
theorem d_qn_areIntegers_12 : decode qn_areIntegers_c 12 = .ok (.ifCond .eq 41, 3) := by decide +kernel
theorem d_qn_areIntegers_15 : decode qn_areIntegers_c 15 = .ok (.iload_n 3, 1) := by decide +kernel
theorem d_qn_areIntegers_16 : decode qn_areIntegers_c 16 = .ok (.sipush 4100, 3) := by decide +kernel
theorem d_qn_areIntegers_19 : decode qn_areIntegers_c 19 = .ok (.if_icmp .ge 34, 3) := by decide +kernel
theorem d_qn_areIntegers_22 : decode qn_areIntegers_c 22 = .ok (.aload_n 0, 1) := by decide +kernel
theorem d_qn_areIntegers_23 : decode qn_areIntegers_c 23 = .ok (.getfield 9, 3) := by decide +kernel
theorem d_qn_areIntegers_26 : decode qn_areIntegers_c 26 = .ok (.lload_n 1, 1) := by decide +kernel
theorem d_qn_areIntegers_27 : decode qn_areIntegers_c 27 = .ok (.invokevirtual 120, 3) := by decide +kernel
theorem d_qn_areIntegers_30 : decode qn_areIntegers_c 30 = .ok (.invokestatic 117, 3) := by decide +kernel
theorem d_qn_areIntegers_33 : decode qn_areIntegers_c 33 = .ok (.ifCond .eq 5, 3) := by decide +kernel
theorem d_qn_areIntegers_36 : decode qn_areIntegers_c 36 = .ok (.iconst 0, 1) := by decide +kernel
theorem d_qn_areIntegers_37 : decode qn_areIntegers_c 37 = .ok (.ireturn, 1) := by decide +kernel
theorem d_qn_areIntegers_38 : decode qn_areIntegers_c 38 = .ok (.aload_n 0, 1) := by decide +kernel
theorem d_qn_areIntegers_39 : decode qn_areIntegers_c 39 = .ok (.getfield 9, 3) := by decide +kernel
theorem d_qn_areIntegers_42 : decode qn_areIntegers_c 42 = .ok (.lload_n 1, 1) := by decide +kernel
theorem d_qn_areIntegers_43 : decode qn_areIntegers_c 43 = .ok (.invokevirtual 124, 3) := by decide +kernel
theorem d_qn_areIntegers_46 : decode qn_areIntegers_c 46 = .ok (.lstore_n 1, 1) := by decide +kernel
theorem d_qn_areIntegers_47 : decode qn_areIntegers_c 47 = .ok (.iinc 3 1, 3) := by decide +kernel
theorem d_qn_areIntegers_50 : decode qn_areIntegers_c 50 = .ok (.goto (-43), 3) := by decide +kernel
theorem d_qn_areIntegers_53 : decode qn_areIntegers_c 53 = .ok (.iconst 1, 1) := by decide +kernel
theorem d_qn_areIntegers_54 : decode qn_areIntegers_c 54 = .ok (.ireturn, 1) := by decide +kernel
theorem d_qw_isCombiner_0 : decode qw_isCombiner_c 0 = .ok (.lload_n 0, 1) := by decide +kernel
theorem d_qw_isCombiner_1 : decode qw_isCombiner_c 1 = .ok (.invokestatic 17, 3) := by decide +kernel
theorem d_qw_isCombiner_4 : decode qw_isCombiner_c 4 = .ok (.iconst 5, 1) := by decide +kernel
theorem d_qw_isCombiner_5 : decode qw_isCombiner_c 5 = .ok (.if_icmp .eq 12, 3) := by decide +kernel
theorem d_qw_isCombiner_8 : decode qw_isCombiner_c 8 = .ok (.lload_n 0, 1) := by decide +kernel
theorem d_qw_isCombiner_9 : decode qw_isCombiner_c 9 = .ok (.invokestatic 17, 3) := by decide +kernel
theorem d_qw_isCombiner_12 : decode qw_isCombiner_c 12 = .ok (.bipush 6, 2) := by decide +kernel
theorem d_qw_isCombiner_14 : decode qw_isCombiner_c 14 = .ok (.if_icmp .ne 7, 3) := by decide +kernel
theorem d_qw_isCombiner_17 : decode qw_isCombiner_c 17 = .ok (.iconst 1, 1) := by decide +kernel
theorem d_qw_isCombiner_18 : decode qw_isCombiner_c 18 = .ok (.goto 4, 3) := by decide +kernel
theorem d_qw_isCombiner_21 : decode qw_isCombiner_c 21 = .ok (.iconst 0, 1) := by decide +kernel
theorem d_qw_isCombiner_22 : decode qw_isCombiner_c 22 = .ok (.ireturn, 1) := by decide +kernel
theorem d_qn_haveDueKinds_0 : decode qn_haveDueKinds_c 0 = .ok (.iload_n 1, 1) := by decide +kernel
theorem d_qn_haveDueKinds_1 : decode qn_haveDueKinds_c 1 = .ok (.tableswitch 233 1 24 #[111, 144, 157, 164, 233, 233, 233, 233, 233, 171, 171, 171, 171, 233, 233, 176, 176, 233, 233, 183, 191, 200, 208, 200], 111) := by decide +kernel
theorem d_qn_haveDueKinds_112 : decode qn_haveDueKinds_c 112 = .ok (.aload_n 0, 1) := by decide +kernel
theorem d_qn_haveDueKinds_113 : decode qn_haveDueKinds_c 113 = .ok (.getfield 20, 3) := by decide +kernel
theorem d_qn_haveDueKinds_116 : decode qn_haveDueKinds_c 116 = .ok (.aload_n 0, 1) := by decide +kernel
theorem d_qn_haveDueKinds_117 : decode qn_haveDueKinds_c 117 = .ok (.iconst 0, 1) := by decide +kernel
theorem d_qn_haveDueKinds_118 : decode qn_haveDueKinds_c 118 = .ok (.invokevirtual 263, 3) := by decide +kernel
theorem d_qn_haveDueKinds_121 : decode qn_haveDueKinds_c 121 = .ok (.invokevirtual 266, 3) := by decide +kernel
theorem d_qn_haveDueKinds_124 : decode qn_haveDueKinds_c 124 = .ok (.ifCond .eq 19, 3) := by decide +kernel
theorem d_qn_haveDueKinds_127 : decode qn_haveDueKinds_c 127 = .ok (.aload_n 0, 1) := by decide +kernel
theorem d_qn_haveDueKinds_128 : decode qn_haveDueKinds_c 128 = .ok (.aload_n 0, 1) := by decide +kernel
theorem d_qn_haveDueKinds_129 : decode qn_haveDueKinds_c 129 = .ok (.iconst 1, 1) := by decide +kernel
theorem d_qn_haveDueKinds_130 : decode qn_haveDueKinds_c 130 = .ok (.invokevirtual 263, 3) := by decide +kernel
theorem d_qn_haveDueKinds_133 : decode qn_haveDueKinds_c 133 = .ok (.invokevirtual 269, 3) := by decide +kernel
theorem d_qn_haveDueKinds_136 : decode qn_haveDueKinds_c 136 = .ok (.ifCond .eq 7, 3) := by decide +kernel
theorem d_qn_haveDueKinds_139 : decode qn_haveDueKinds_c 139 = .ok (.iconst 1, 1) := by decide +kernel
theorem d_qn_haveDueKinds_140 : decode qn_haveDueKinds_c 140 = .ok (.goto 4, 3) := by decide +kernel
theorem d_qn_haveDueKinds_143 : decode qn_haveDueKinds_c 143 = .ok (.iconst 0, 1) := by decide +kernel
theorem d_qn_haveDueKinds_144 : decode qn_haveDueKinds_c 144 = .ok (.ireturn, 1) := by decide +kernel
theorem d_qn_haveDueKinds_145 : decode qn_haveDueKinds_c 145 = .ok (.aload_n 0, 1) := by decide +kernel
theorem d_qn_haveDueKinds_146 : decode qn_haveDueKinds_c 146 = .ok (.getfield 20, 3) := by decide +kernel
theorem d_qn_haveDueKinds_149 : decode qn_haveDueKinds_c 149 = .ok (.aload_n 0, 1) := by decide +kernel
theorem d_qn_haveDueKinds_150 : decode qn_haveDueKinds_c 150 = .ok (.iconst 0, 1) := by decide +kernel
theorem d_qn_haveDueKinds_151 : decode qn_haveDueKinds_c 151 = .ok (.invokevirtual 263, 3) := by decide +kernel
theorem d_qn_haveDueKinds_154 : decode qn_haveDueKinds_c 154 = .ok (.invokevirtual 266, 3) := by decide +kernel
theorem d_qn_haveDueKinds_157 : decode qn_haveDueKinds_c 157 = .ok (.ireturn, 1) := by decide +kernel
theorem d_qn_haveDueKinds_158 : decode qn_haveDueKinds_c 158 = .ok (.aload_n 0, 1) := by decide +kernel
theorem d_qn_haveDueKinds_159 : decode qn_haveDueKinds_c 159 = .ok (.iconst 0, 1) := by decide +kernel
theorem d_qn_haveDueKinds_160 : decode qn_haveDueKinds_c 160 = .ok (.iconst 2, 1) := by decide +kernel
theorem d_qn_haveDueKinds_161 : decode qn_haveDueKinds_c 161 = .ok (.invokevirtual 272, 3) := by decide +kernel
theorem d_qn_haveDueKinds_164 : decode qn_haveDueKinds_c 164 = .ok (.ireturn, 1) := by decide +kernel
theorem d_qn_haveDueKinds_165 : decode qn_haveDueKinds_c 165 = .ok (.aload_n 0, 1) := by decide +kernel
theorem d_qn_haveDueKinds_166 : decode qn_haveDueKinds_c 166 = .ok (.iconst 1, 1) := by decide +kernel
theorem d_qn_haveDueKinds_167 : decode qn_haveDueKinds_c 167 = .ok (.iconst 2, 1) := by decide +kernel
theorem d_qn_haveDueKinds_168 : decode qn_haveDueKinds_c 168 = .ok (.invokevirtual 272, 3) := by decide +kernel
theorem d_qn_haveDueKinds_171 : decode qn_haveDueKinds_c 171 = .ok (.ireturn, 1) := by decide +kernel
theorem d_qn_haveDueKinds_172 : decode qn_haveDueKinds_c 172 = .ok (.aload_n 0, 1) := by decide +kernel
theorem d_qn_haveDueKinds_173 : decode qn_haveDueKinds_c 173 = .ok (.invokevirtual 275, 3) := by decide +kernel
theorem d_qn_haveDueKinds_176 : decode qn_haveDueKinds_c 176 = .ok (.ireturn, 1) := by decide +kernel
theorem d_qn_haveDueKinds_177 : decode qn_haveDueKinds_c 177 = .ok (.aload_n 0, 1) := by decide +kernel
theorem d_qn_haveDueKinds_178 : decode qn_haveDueKinds_c 178 = .ok (.iconst 0, 1) := by decide +kernel
theorem d_qn_haveDueKinds_179 : decode qn_haveDueKinds_c 179 = .ok (.iconst 4, 1) := by decide +kernel
theorem d_qn_haveDueKinds_180 : decode qn_haveDueKinds_c 180 = .ok (.invokevirtual 272, 3) := by decide +kernel
theorem d_qn_haveDueKinds_183 : decode qn_haveDueKinds_c 183 = .ok (.ireturn, 1) := by decide +kernel
theorem d_qn_haveDueKinds_184 : decode qn_haveDueKinds_c 184 = .ok (.aload_n 0, 1) := by decide +kernel
theorem d_qn_haveDueKinds_185 : decode qn_haveDueKinds_c 185 = .ok (.iconst 1, 1) := by decide +kernel
theorem d_qn_haveDueKinds_186 : decode qn_haveDueKinds_c 186 = .ok (.bipush 7, 2) := by decide +kernel
theorem d_qn_haveDueKinds_188 : decode qn_haveDueKinds_c 188 = .ok (.invokevirtual 272, 3) := by decide +kernel
theorem d_qn_haveDueKinds_191 : decode qn_haveDueKinds_c 191 = .ok (.ireturn, 1) := by decide +kernel
theorem d_qn_haveDueKinds_192 : decode qn_haveDueKinds_c 192 = .ok (.aload_n 0, 1) := by decide +kernel
theorem d_qn_haveDueKinds_193 : decode qn_haveDueKinds_c 193 = .ok (.iconst 0, 1) := by decide +kernel
theorem d_qn_haveDueKinds_194 : decode qn_haveDueKinds_c 194 = .ok (.invokevirtual 263, 3) := by decide +kernel
theorem d_qn_haveDueKinds_197 : decode qn_haveDueKinds_c 197 = .ok (.invokestatic 278, 3) := by decide +kernel
theorem d_qn_haveDueKinds_200 : decode qn_haveDueKinds_c 200 = .ok (.ireturn, 1) := by decide +kernel
theorem d_qn_haveDueKinds_201 : decode qn_haveDueKinds_c 201 = .ok (.aload_n 0, 1) := by decide +kernel
theorem d_qn_haveDueKinds_202 : decode qn_haveDueKinds_c 202 = .ok (.iconst 0, 1) := by decide +kernel
theorem d_qn_haveDueKinds_203 : decode qn_haveDueKinds_c 203 = .ok (.bipush 6, 2) := by decide +kernel
theorem d_qn_haveDueKinds_205 : decode qn_haveDueKinds_c 205 = .ok (.invokevirtual 272, 3) := by decide +kernel
theorem d_qn_haveDueKinds_208 : decode qn_haveDueKinds_c 208 = .ok (.ireturn, 1) := by decide +kernel
theorem d_qn_haveDueKinds_209 : decode qn_haveDueKinds_c 209 = .ok (.iload_n 2, 1) := by decide +kernel
theorem d_qn_haveDueKinds_210 : decode qn_haveDueKinds_c 210 = .ok (.ifCond .eq 18, 3) := by decide +kernel
theorem d_qn_haveDueKinds_213 : decode qn_haveDueKinds_c 213 = .ok (.iload_n 2, 1) := by decide +kernel
theorem d_qn_haveDueKinds_214 : decode qn_haveDueKinds_c 214 = .ok (.iconst 1, 1) := by decide +kernel
theorem d_qn_haveDueKinds_215 : decode qn_haveDueKinds_c 215 = .ok (.if_icmp .ne 17, 3) := by decide +kernel
theorem d_qn_haveDueKinds_218 : decode qn_haveDueKinds_c 218 = .ok (.aload_n 0, 1) := by decide +kernel
theorem d_qn_haveDueKinds_219 : decode qn_haveDueKinds_c 219 = .ok (.iconst 0, 1) := by decide +kernel
theorem d_qn_haveDueKinds_220 : decode qn_haveDueKinds_c 220 = .ok (.bipush 7, 2) := by decide +kernel
theorem d_qn_haveDueKinds_222 : decode qn_haveDueKinds_c 222 = .ok (.invokevirtual 272, 3) := by decide +kernel
theorem d_qn_haveDueKinds_225 : decode qn_haveDueKinds_c 225 = .ok (.ifCond .eq 7, 3) := by decide +kernel
theorem d_qn_haveDueKinds_228 : decode qn_haveDueKinds_c 228 = .ok (.iconst 1, 1) := by decide +kernel
theorem d_qn_haveDueKinds_229 : decode qn_haveDueKinds_c 229 = .ok (.goto 4, 3) := by decide +kernel
theorem d_qn_haveDueKinds_232 : decode qn_haveDueKinds_c 232 = .ok (.iconst 0, 1) := by decide +kernel
theorem d_qn_haveDueKinds_233 : decode qn_haveDueKinds_c 233 = .ok (.ireturn, 1) := by decide +kernel
theorem d_qn_haveDueKinds_234 : decode qn_haveDueKinds_c 234 = .ok (.iconst 1, 1) := by decide +kernel
theorem d_qn_haveDueKinds_235 : decode qn_haveDueKinds_c 235 = .ok (.ireturn, 1) := by decide +kernel
theorem d_qh_addOperative_0 : decode qh_addOperative_c 0 = .ok (.lload_n 1, 1) := by decide +kernel
theorem d_qh_addOperative_1 : decode qh_addOperative_c 1 = .ok (.bipush 7, 2) := by decide +kernel
theorem d_qh_addOperative_3 : decode qh_addOperative_c 3 = .ok (.lshl, 1) := by decide +kernel
theorem d_qh_addOperative_4 : decode qh_addOperative_c 4 = .ok (.iload_n 3, 1) := by decide +kernel
theorem d_qh_addOperative_5 : decode qh_addOperative_c 5 = .ok (.i2l, 1) := by decide +kernel
theorem d_qh_addOperative_6 : decode qh_addOperative_c 6 = .ok (.lor, 1) := by decide +kernel
theorem d_qh_addOperative_7 : decode qh_addOperative_c 7 = .ok (.lstore 7, 2) := by decide +kernel
theorem d_qh_addOperative_9 : decode qh_addOperative_c 9 = .ok (.aload_n 0, 1) := by decide +kernel
theorem d_qh_addOperative_10 : decode qh_addOperative_c 10 = .ok (.lload 4, 2) := by decide +kernel
theorem d_qh_addOperative_12 : decode qh_addOperative_c 12 = .ok (.lload 7, 2) := by decide +kernel
theorem d_qh_addOperative_14 : decode qh_addOperative_c 14 = .ok (.bipush 13, 2) := by decide +kernel
theorem d_qh_addOperative_16 : decode qh_addOperative_c 16 = .ok (.lshl, 1) := by decide +kernel
theorem d_qh_addOperative_17 : decode qh_addOperative_c 17 = .ok (.iload 6, 2) := by decide +kernel
theorem d_qh_addOperative_19 : decode qh_addOperative_c 19 = .ok (.i2l, 1) := by decide +kernel
theorem d_qh_addOperative_20 : decode qh_addOperative_c 20 = .ok (.lor, 1) := by decide +kernel
theorem d_qh_addOperative_21 : decode qh_addOperative_c 21 = .ok (.invokevirtual 49, 3) := by decide +kernel
theorem d_qh_addOperative_24 : decode qh_addOperative_c 24 = .ok (.ireturn, 1) := by decide +kernel
theorem d_qn_giveBackNew_0 : decode qn_giveBackNew_c 0 = .ok (.iload_n 2, 1) := by decide +kernel
theorem d_qn_giveBackNew_1 : decode qn_giveBackNew_c 1 = .ok (.iconst (-1), 1) := by decide +kernel
theorem d_qn_giveBackNew_2 : decode qn_giveBackNew_c 2 = .ok (.if_icmp .ne 12, 3) := by decide +kernel
theorem d_qn_giveBackNew_5 : decode qn_giveBackNew_c 5 = .ok (.aload_n 0, 1) := by decide +kernel
theorem d_qn_giveBackNew_6 : decode qn_giveBackNew_c 6 = .ok (.bipush (-5), 2) := by decide +kernel
theorem d_qn_giveBackNew_8 : decode qn_giveBackNew_c 8 = .ok (.invokevirtual 99, 3) := by decide +kernel
theorem d_qn_giveBackNew_11 : decode qn_giveBackNew_c 11 = .ok (.goto 13, 3) := by decide +kernel
theorem d_qn_giveBackNew_14 : decode qn_giveBackNew_c 14 = .ok (.aload_n 0, 1) := by decide +kernel
theorem d_qn_giveBackNew_15 : decode qn_giveBackNew_c 15 = .ok (.iload_n 1, 1) := by decide +kernel
theorem d_qn_giveBackNew_16 : decode qn_giveBackNew_c 16 = .ok (.iload_n 2, 1) := by decide +kernel
theorem d_qn_giveBackNew_17 : decode qn_giveBackNew_c 17 = .ok (.i2l, 1) := by decide +kernel
theorem d_qn_giveBackNew_18 : decode qn_giveBackNew_c 18 = .ok (.invokestatic 102, 3) := by decide +kernel
theorem d_qn_giveBackNew_21 : decode qn_giveBackNew_c 21 = .ok (.invokevirtual 106, 3) := by decide +kernel
theorem d_qn_giveBackNew_24 : decode qn_giveBackNew_c 24 = .ok (.return_, 1) := by decide +kernel
theorem d_qn_makeOperative_0 : decode qn_makeOperative_c 0 = .ok (.lload_n 3, 1) := by decide +kernel
theorem d_qn_makeOperative_1 : decode qn_makeOperative_c 1 = .ok (.ldc2_w 281, 3) := by decide +kernel
theorem d_qn_makeOperative_4 : decode qn_makeOperative_c 4 = .ok (.lcmp, 1) := by decide +kernel
theorem d_qn_makeOperative_5 : decode qn_makeOperative_c 5 = .ok (.ifCond .ne 8, 3) := by decide +kernel
theorem d_qn_makeOperative_8 : decode qn_makeOperative_c 8 = .ok (.bipush 127, 2) := by decide +kernel
theorem d_qn_makeOperative_10 : decode qn_makeOperative_c 10 = .ok (.goto 7, 3) := by decide +kernel
theorem d_qn_makeOperative_13 : decode qn_makeOperative_c 13 = .ok (.lload_n 3, 1) := by decide +kernel
theorem d_qn_makeOperative_14 : decode qn_makeOperative_c 14 = .ok (.invokestatic 88, 3) := by decide +kernel
theorem d_qn_makeOperative_17 : decode qn_makeOperative_c 17 = .ok (.istore 7, 2) := by decide +kernel
theorem d_qn_makeOperative_19 : decode qn_makeOperative_c 19 = .ok (.aload_n 0, 1) := by decide +kernel
theorem d_qn_makeOperative_20 : decode qn_makeOperative_c 20 = .ok (.iconst 5, 1) := by decide +kernel
theorem d_qn_makeOperative_21 : decode qn_makeOperative_c 21 = .ok (.aload_n 0, 1) := by decide +kernel
theorem d_qn_makeOperative_22 : decode qn_makeOperative_c 22 = .ok (.getfield 9, 3) := by decide +kernel
theorem d_qn_makeOperative_25 : decode qn_makeOperative_c 25 = .ok (.lload_n 1, 1) := by decide +kernel
theorem d_qn_makeOperative_26 : decode qn_makeOperative_c 26 = .ok (.iload 7, 2) := by decide +kernel
theorem d_qn_makeOperative_28 : decode qn_makeOperative_c 28 = .ok (.lload 5, 2) := by decide +kernel
theorem d_qn_makeOperative_30 : decode qn_makeOperative_c 30 = .ok (.aload_n 0, 1) := by decide +kernel
theorem d_qn_makeOperative_31 : decode qn_makeOperative_c 31 = .ok (.getfield 61, 3) := by decide +kernel
theorem d_qn_makeOperative_34 : decode qn_makeOperative_c 34 = .ok (.invokevirtual 297, 3) := by decide +kernel
theorem d_qn_makeOperative_37 : decode qn_makeOperative_c 37 = .ok (.invokevirtual 301, 3) := by decide +kernel
theorem d_qn_makeOperative_40 : decode qn_makeOperative_c 40 = .ok (.return_, 1) := by decide +kernel
theorem d_qh_addApplicative_0 : decode qh_addApplicative_c 0 = .ok (.aload_n 0, 1) := by decide +kernel
theorem d_qh_addApplicative_1 : decode qh_addApplicative_c 1 = .ok (.lload_n 1, 1) := by decide +kernel
theorem d_qh_addApplicative_2 : decode qh_addApplicative_c 2 = .ok (.lconst 0, 1) := by decide +kernel
theorem d_qh_addApplicative_3 : decode qh_addApplicative_c 3 = .ok (.invokevirtual 49, 3) := by decide +kernel
theorem d_qh_addApplicative_6 : decode qh_addApplicative_c 6 = .ok (.ireturn, 1) := by decide +kernel
theorem d_qn_makeFunction_0 : decode qn_makeFunction_c 0 = .ok (.aload_n 0, 1) := by decide +kernel
theorem d_qn_makeFunction_1 : decode qn_makeFunction_c 1 = .ok (.getfield 9, 3) := by decide +kernel
theorem d_qn_makeFunction_4 : decode qn_makeFunction_c 4 = .ok (.lload_n 1, 1) := by decide +kernel
theorem d_qn_makeFunction_5 : decode qn_makeFunction_c 5 = .ok (.bipush 127, 2) := by decide +kernel
theorem d_qn_makeFunction_7 : decode qn_makeFunction_c 7 = .ok (.lload_n 3, 1) := by decide +kernel
theorem d_qn_makeFunction_8 : decode qn_makeFunction_c 8 = .ok (.aload_n 0, 1) := by decide +kernel
theorem d_qn_makeFunction_9 : decode qn_makeFunction_c 9 = .ok (.getfield 61, 3) := by decide +kernel
theorem d_qn_makeFunction_12 : decode qn_makeFunction_c 12 = .ok (.invokevirtual 297, 3) := by decide +kernel
theorem d_qn_makeFunction_15 : decode qn_makeFunction_c 15 = .ok (.istore 5, 2) := by decide +kernel
theorem d_qn_makeFunction_17 : decode qn_makeFunction_c 17 = .ok (.iload 5, 2) := by decide +kernel
theorem d_qn_makeFunction_19 : decode qn_makeFunction_c 19 = .ok (.iconst (-1), 1) := by decide +kernel
theorem d_qn_makeFunction_20 : decode qn_makeFunction_c 20 = .ok (.if_icmp .ne 12, 3) := by decide +kernel
theorem d_qn_makeFunction_23 : decode qn_makeFunction_c 23 = .ok (.aload_n 0, 1) := by decide +kernel
theorem d_qn_makeFunction_24 : decode qn_makeFunction_c 24 = .ok (.bipush (-5), 2) := by decide +kernel
theorem d_qn_makeFunction_26 : decode qn_makeFunction_c 26 = .ok (.invokevirtual 99, 3) := by decide +kernel
theorem d_qn_makeFunction_29 : decode qn_makeFunction_c 29 = .ok (.goto 23, 3) := by decide +kernel
theorem d_qn_makeFunction_32 : decode qn_makeFunction_c 32 = .ok (.aload_n 0, 1) := by decide +kernel
theorem d_qn_makeFunction_33 : decode qn_makeFunction_c 33 = .ok (.bipush 6, 2) := by decide +kernel
theorem d_qn_makeFunction_35 : decode qn_makeFunction_c 35 = .ok (.aload_n 0, 1) := by decide +kernel
theorem d_qn_makeFunction_36 : decode qn_makeFunction_c 36 = .ok (.getfield 9, 3) := by decide +kernel
theorem d_qn_makeFunction_39 : decode qn_makeFunction_c 39 = .ok (.iconst 5, 1) := by decide +kernel
theorem d_qn_makeFunction_40 : decode qn_makeFunction_c 40 = .ok (.iload 5, 2) := by decide +kernel
theorem d_qn_makeFunction_42 : decode qn_makeFunction_c 42 = .ok (.i2l, 1) := by decide +kernel
theorem d_qn_makeFunction_43 : decode qn_makeFunction_c 43 = .ok (.invokestatic 102, 3) := by decide +kernel
theorem d_qn_makeFunction_46 : decode qn_makeFunction_c 46 = .ok (.invokevirtual 304, 3) := by decide +kernel
theorem d_qn_makeFunction_49 : decode qn_makeFunction_c 49 = .ok (.invokevirtual 301, 3) := by decide +kernel
theorem d_qn_makeFunction_52 : decode qn_makeFunction_c 52 = .ok (.return_, 1) := by decide +kernel
theorem d_qn_evaluateSequence_0 : decode qn_evaluateSequence_c 0 = .ok (.lload_n 1, 1) := by decide +kernel
theorem d_qn_evaluateSequence_1 : decode qn_evaluateSequence_c 1 = .ok (.ldc2_w 50, 3) := by decide +kernel
theorem d_qn_evaluateSequence_4 : decode qn_evaluateSequence_c 4 = .ok (.lcmp, 1) := by decide +kernel
theorem d_qn_evaluateSequence_5 : decode qn_evaluateSequence_c 5 = .ok (.ifCond .ne 13, 3) := by decide +kernel
theorem d_qn_evaluateSequence_8 : decode qn_evaluateSequence_c 8 = .ok (.aload_n 0, 1) := by decide +kernel
theorem d_qn_evaluateSequence_9 : decode qn_evaluateSequence_c 9 = .ok (.ldc2_w 281, 3) := by decide +kernel
theorem d_qn_evaluateSequence_12 : decode qn_evaluateSequence_c 12 = .ok (.invokevirtual 106, 3) := by decide +kernel
theorem d_qn_evaluateSequence_15 : decode qn_evaluateSequence_c 15 = .ok (.goto 61, 3) := by decide +kernel
theorem d_qn_evaluateSequence_18 : decode qn_evaluateSequence_c 18 = .ok (.aload_n 0, 1) := by decide +kernel
theorem d_qn_evaluateSequence_19 : decode qn_evaluateSequence_c 19 = .ok (.getfield 9, 3) := by decide +kernel
theorem d_qn_evaluateSequence_22 : decode qn_evaluateSequence_c 22 = .ok (.lload_n 1, 1) := by decide +kernel
theorem d_qn_evaluateSequence_23 : decode qn_evaluateSequence_c 23 = .ok (.invokevirtual 124, 3) := by decide +kernel
theorem d_qn_evaluateSequence_26 : decode qn_evaluateSequence_c 26 = .ok (.ldc2_w 50, 3) := by decide +kernel
theorem d_qn_evaluateSequence_29 : decode qn_evaluateSequence_c 29 = .ok (.lcmp, 1) := by decide +kernel
theorem d_qn_evaluateSequence_30 : decode qn_evaluateSequence_c 30 = .ok (.ifCond .ne 18, 3) := by decide +kernel
theorem d_qn_evaluateSequence_33 : decode qn_evaluateSequence_c 33 = .ok (.aload_n 0, 1) := by decide +kernel
theorem d_qn_evaluateSequence_34 : decode qn_evaluateSequence_c 34 = .ok (.aload_n 0, 1) := by decide +kernel
theorem d_qn_evaluateSequence_35 : decode qn_evaluateSequence_c 35 = .ok (.getfield 9, 3) := by decide +kernel
theorem d_qn_evaluateSequence_38 : decode qn_evaluateSequence_c 38 = .ok (.lload_n 1, 1) := by decide +kernel
theorem d_qn_evaluateSequence_39 : decode qn_evaluateSequence_c 39 = .ok (.invokevirtual 120, 3) := by decide +kernel
theorem d_qn_evaluateSequence_42 : decode qn_evaluateSequence_c 42 = .ok (.invokevirtual 77, 3) := by decide +kernel
theorem d_qn_evaluateSequence_45 : decode qn_evaluateSequence_c 45 = .ok (.goto 31, 3) := by decide +kernel
theorem d_qn_evaluateSequence_48 : decode qn_evaluateSequence_c 48 = .ok (.aload_n 0, 1) := by decide +kernel
theorem d_qn_evaluateSequence_49 : decode qn_evaluateSequence_c 49 = .ok (.getfield 9, 3) := by decide +kernel
theorem d_qn_evaluateSequence_52 : decode qn_evaluateSequence_c 52 = .ok (.lload_n 1, 1) := by decide +kernel
theorem d_qn_evaluateSequence_53 : decode qn_evaluateSequence_c 53 = .ok (.invokevirtual 124, 3) := by decide +kernel
theorem d_qn_evaluateSequence_56 : decode qn_evaluateSequence_c 56 = .ok (.lstore_n 3, 1) := by decide +kernel
theorem d_qn_evaluateSequence_57 : decode qn_evaluateSequence_c 57 = .ok (.aload_n 0, 1) := by decide +kernel
theorem d_qn_evaluateSequence_58 : decode qn_evaluateSequence_c 58 = .ok (.aload_n 0, 1) := by decide +kernel
theorem d_qn_evaluateSequence_59 : decode qn_evaluateSequence_c 59 = .ok (.getfield 9, 3) := by decide +kernel
theorem d_qn_evaluateSequence_62 : decode qn_evaluateSequence_c 62 = .ok (.lload_n 1, 1) := by decide +kernel
theorem d_qn_evaluateSequence_63 : decode qn_evaluateSequence_c 63 = .ok (.invokevirtual 120, 3) := by decide +kernel
theorem d_qn_evaluateSequence_66 : decode qn_evaluateSequence_c 66 = .ok (.bipush 6, 2) := by decide +kernel
theorem d_qn_evaluateSequence_68 : decode qn_evaluateSequence_c 68 = .ok (.lload_n 3, 1) := by decide +kernel
theorem d_qn_evaluateSequence_69 : decode qn_evaluateSequence_c 69 = .ok (.ldc2_w 50, 3) := by decide +kernel
theorem d_qn_evaluateSequence_72 : decode qn_evaluateSequence_c 72 = .ok (.iconst 0, 1) := by decide +kernel
theorem d_qn_evaluateSequence_73 : decode qn_evaluateSequence_c 73 = .ok (.invokevirtual 127, 3) := by decide +kernel
theorem d_qn_evaluateSequence_76 : decode qn_evaluateSequence_c 76 = .ok (.return_, 1) := by decide +kernel
theorem d_qn_callSpecial_0 : decode qn_callSpecial_c 0 = .ok (.iload_n 1, 1) := by decide +kernel
theorem d_qn_callSpecial_1 : decode qn_callSpecial_c 1 = .ok (.tableswitch 186 0 7 #[47, 75, 97, 114, 135, 163, 174, 186], 47) := by decide +kernel
theorem d_qn_callSpecial_48 : decode qn_callSpecial_c 48 = .ok (.aload_n 0, 1) := by decide +kernel
theorem d_qn_callSpecial_49 : decode qn_callSpecial_c 49 = .ok (.aload_n 0, 1) := by decide +kernel
theorem d_qn_callSpecial_50 : decode qn_callSpecial_c 50 = .ok (.iconst 0, 1) := by decide +kernel
theorem d_qn_callSpecial_51 : decode qn_callSpecial_c 51 = .ok (.invokevirtual 263, 3) := by decide +kernel
theorem d_qn_callSpecial_54 : decode qn_callSpecial_c 54 = .ok (.iconst 2, 1) := by decide +kernel
theorem d_qn_callSpecial_55 : decode qn_callSpecial_c 55 = .ok (.aload_n 0, 1) := by decide +kernel
theorem d_qn_callSpecial_56 : decode qn_callSpecial_c 56 = .ok (.getfield 9, 3) := by decide +kernel
theorem d_qn_callSpecial_59 : decode qn_callSpecial_c 59 = .ok (.aload_n 0, 1) := by decide +kernel
theorem d_qn_callSpecial_60 : decode qn_callSpecial_c 60 = .ok (.getfield 56, 3) := by decide +kernel
theorem d_qn_callSpecial_63 : decode qn_callSpecial_c 63 = .ok (.invokevirtual 124, 3) := by decide +kernel
theorem d_qn_callSpecial_66 : decode qn_callSpecial_c 66 = .ok (.ldc2_w 50, 3) := by decide +kernel
theorem d_qn_callSpecial_69 : decode qn_callSpecial_c 69 = .ok (.iconst 0, 1) := by decide +kernel
theorem d_qn_callSpecial_70 : decode qn_callSpecial_c 70 = .ok (.invokevirtual 127, 3) := by decide +kernel
theorem d_qn_callSpecial_73 : decode qn_callSpecial_c 73 = .ok (.goto 128, 3) := by decide +kernel
theorem d_qn_callSpecial_76 : decode qn_callSpecial_c 76 = .ok (.aload_n 0, 1) := by decide +kernel
theorem d_qn_callSpecial_77 : decode qn_callSpecial_c 77 = .ok (.aload_n 0, 1) := by decide +kernel
theorem d_qn_callSpecial_78 : decode qn_callSpecial_c 78 = .ok (.iconst 0, 1) := by decide +kernel
theorem d_qn_callSpecial_79 : decode qn_callSpecial_c 79 = .ok (.invokevirtual 263, 3) := by decide +kernel
theorem d_qn_callSpecial_82 : decode qn_callSpecial_c 82 = .ok (.aload_n 0, 1) := by decide +kernel
theorem d_qn_callSpecial_83 : decode qn_callSpecial_c 83 = .ok (.iconst 1, 1) := by decide +kernel
theorem d_qn_callSpecial_84 : decode qn_callSpecial_c 84 = .ok (.invokevirtual 263, 3) := by decide +kernel
theorem d_qn_callSpecial_87 : decode qn_callSpecial_c 87 = .ok (.aload_n 0, 1) := by decide +kernel
theorem d_qn_callSpecial_88 : decode qn_callSpecial_c 88 = .ok (.iconst 2, 1) := by decide +kernel
theorem d_qn_callSpecial_89 : decode qn_callSpecial_c 89 = .ok (.invokevirtual 263, 3) := by decide +kernel
theorem d_qn_callSpecial_92 : decode qn_callSpecial_c 92 = .ok (.invokevirtual 290, 3) := by decide +kernel
theorem d_qn_callSpecial_95 : decode qn_callSpecial_c 95 = .ok (.goto 106, 3) := by decide +kernel
theorem d_qn_callSpecial_98 : decode qn_callSpecial_c 98 = .ok (.aload_n 0, 1) := by decide +kernel
theorem d_qn_callSpecial_99 : decode qn_callSpecial_c 99 = .ok (.aload_n 0, 1) := by decide +kernel
theorem d_qn_callSpecial_100 : decode qn_callSpecial_c 100 = .ok (.iconst 0, 1) := by decide +kernel
theorem d_qn_callSpecial_101 : decode qn_callSpecial_c 101 = .ok (.invokevirtual 263, 3) := by decide +kernel
theorem d_qn_callSpecial_104 : decode qn_callSpecial_c 104 = .ok (.aload_n 0, 1) := by decide +kernel
theorem d_qn_callSpecial_105 : decode qn_callSpecial_c 105 = .ok (.iconst 1, 1) := by decide +kernel
theorem d_qn_callSpecial_106 : decode qn_callSpecial_c 106 = .ok (.invokevirtual 263, 3) := by decide +kernel
theorem d_qn_callSpecial_109 : decode qn_callSpecial_c 109 = .ok (.invokevirtual 294, 3) := by decide +kernel
theorem d_qn_callSpecial_112 : decode qn_callSpecial_c 112 = .ok (.goto 89, 3) := by decide +kernel
theorem d_qn_callSpecial_115 : decode qn_callSpecial_c 115 = .ok (.aload_n 0, 1) := by decide +kernel
theorem d_qn_callSpecial_116 : decode qn_callSpecial_c 116 = .ok (.aload_n 0, 1) := by decide +kernel
theorem d_qn_callSpecial_117 : decode qn_callSpecial_c 117 = .ok (.iconst 1, 1) := by decide +kernel
theorem d_qn_callSpecial_118 : decode qn_callSpecial_c 118 = .ok (.invokevirtual 263, 3) := by decide +kernel
theorem d_qn_callSpecial_121 : decode qn_callSpecial_c 121 = .ok (.iconst 3, 1) := by decide +kernel
theorem d_qn_callSpecial_122 : decode qn_callSpecial_c 122 = .ok (.aload_n 0, 1) := by decide +kernel
theorem d_qn_callSpecial_123 : decode qn_callSpecial_c 123 = .ok (.getfield 56, 3) := by decide +kernel
theorem d_qn_callSpecial_126 : decode qn_callSpecial_c 126 = .ok (.ldc2_w 50, 3) := by decide +kernel
theorem d_qn_callSpecial_129 : decode qn_callSpecial_c 129 = .ok (.iconst 0, 1) := by decide +kernel
theorem d_qn_callSpecial_130 : decode qn_callSpecial_c 130 = .ok (.invokevirtual 127, 3) := by decide +kernel
theorem d_qn_callSpecial_133 : decode qn_callSpecial_c 133 = .ok (.goto 68, 3) := by decide +kernel
theorem d_qn_callSpecial_136 : decode qn_callSpecial_c 136 = .ok (.aload_n 0, 1) := by decide +kernel
theorem d_qn_callSpecial_137 : decode qn_callSpecial_c 137 = .ok (.aload_n 0, 1) := by decide +kernel
theorem d_qn_callSpecial_138 : decode qn_callSpecial_c 138 = .ok (.iconst 0, 1) := by decide +kernel
theorem d_qn_callSpecial_139 : decode qn_callSpecial_c 139 = .ok (.invokevirtual 263, 3) := by decide +kernel
theorem d_qn_callSpecial_142 : decode qn_callSpecial_c 142 = .ok (.iconst 4, 1) := by decide +kernel
theorem d_qn_callSpecial_143 : decode qn_callSpecial_c 143 = .ok (.aload_n 0, 1) := by decide +kernel
theorem d_qn_callSpecial_144 : decode qn_callSpecial_c 144 = .ok (.getfield 9, 3) := by decide +kernel
theorem d_qn_callSpecial_147 : decode qn_callSpecial_c 147 = .ok (.aload_n 0, 1) := by decide +kernel
theorem d_qn_callSpecial_148 : decode qn_callSpecial_c 148 = .ok (.getfield 56, 3) := by decide +kernel
theorem d_qn_callSpecial_151 : decode qn_callSpecial_c 151 = .ok (.invokevirtual 124, 3) := by decide +kernel
theorem d_qn_callSpecial_154 : decode qn_callSpecial_c 154 = .ok (.ldc2_w 50, 3) := by decide +kernel
theorem d_qn_callSpecial_157 : decode qn_callSpecial_c 157 = .ok (.iconst 0, 1) := by decide +kernel
theorem d_qn_callSpecial_158 : decode qn_callSpecial_c 158 = .ok (.invokevirtual 127, 3) := by decide +kernel
theorem d_qn_callSpecial_161 : decode qn_callSpecial_c 161 = .ok (.goto 40, 3) := by decide +kernel
theorem d_qn_callSpecial_164 : decode qn_callSpecial_c 164 = .ok (.aload_n 0, 1) := by decide +kernel
theorem d_qn_callSpecial_165 : decode qn_callSpecial_c 165 = .ok (.aload_n 0, 1) := by decide +kernel
theorem d_qn_callSpecial_166 : decode qn_callSpecial_c 166 = .ok (.getfield 56, 3) := by decide +kernel
theorem d_qn_callSpecial_169 : decode qn_callSpecial_c 169 = .ok (.invokevirtual 192, 3) := by decide +kernel
theorem d_qn_callSpecial_172 : decode qn_callSpecial_c 172 = .ok (.goto 29, 3) := by decide +kernel
theorem d_qn_callSpecial_175 : decode qn_callSpecial_c 175 = .ok (.aload_n 0, 1) := by decide +kernel
theorem d_qn_callSpecial_176 : decode qn_callSpecial_c 176 = .ok (.aload_n 0, 1) := by decide +kernel
theorem d_qn_callSpecial_177 : decode qn_callSpecial_c 177 = .ok (.iconst 0, 1) := by decide +kernel
theorem d_qn_callSpecial_178 : decode qn_callSpecial_c 178 = .ok (.invokevirtual 263, 3) := by decide +kernel
theorem d_qn_callSpecial_181 : decode qn_callSpecial_c 181 = .ok (.invokevirtual 106, 3) := by decide +kernel
theorem d_qn_callSpecial_184 : decode qn_callSpecial_c 184 = .ok (.goto 17, 3) := by decide +kernel
theorem d_qn_callSpecial_187 : decode qn_callSpecial_c 187 = .ok (.aload_n 0, 1) := by decide +kernel
theorem d_qn_callSpecial_188 : decode qn_callSpecial_c 188 = .ok (.bipush 7, 2) := by decide +kernel
theorem d_qn_callSpecial_190 : decode qn_callSpecial_c 190 = .ok (.aload_n 0, 1) := by decide +kernel
theorem d_qn_callSpecial_191 : decode qn_callSpecial_c 191 = .ok (.getfield 61, 3) := by decide +kernel
theorem d_qn_callSpecial_194 : decode qn_callSpecial_c 194 = .ok (.i2l, 1) := by decide +kernel
theorem d_qn_callSpecial_195 : decode qn_callSpecial_c 195 = .ok (.invokestatic 102, 3) := by decide +kernel
theorem d_qn_callSpecial_198 : decode qn_callSpecial_c 198 = .ok (.invokevirtual 106, 3) := by decide +kernel
theorem d_qn_callSpecial_201 : decode qn_callSpecial_c 201 = .ok (.return_, 1) := by decide +kernel
theorem d_qw_product_0 : decode qw_product_c 0 = .ok (.lload_n 0, 1) := by decide +kernel
theorem d_qw_product_1 : decode qw_product_c 1 = .ok (.lconst 0, 1) := by decide +kernel
theorem d_qw_product_2 : decode qw_product_c 2 = .ok (.lcmp, 1) := by decide +kernel
theorem d_qw_product_3 : decode qw_product_c 3 = .ok (.ifCond .eq 23, 3) := by decide +kernel
theorem d_qw_product_6 : decode qw_product_c 6 = .ok (.lload_n 2, 1) := by decide +kernel
theorem d_qw_product_7 : decode qw_product_c 7 = .ok (.invokestatic 25, 3) := by decide +kernel
theorem d_qw_product_10 : decode qw_product_c 10 = .ok (.ldc2_w 23, 3) := by decide +kernel
theorem d_qw_product_13 : decode qw_product_c 13 = .ok (.lload_n 0, 1) := by decide +kernel
theorem d_qw_product_14 : decode qw_product_c 14 = .ok (.invokestatic 25, 3) := by decide +kernel
theorem d_qw_product_17 : decode qw_product_c 17 = .ok (.ldiv, 1) := by decide +kernel
theorem d_qw_product_18 : decode qw_product_c 18 = .ok (.lcmp, 1) := by decide +kernel
theorem d_qw_product_19 : decode qw_product_c 19 = .ok (.ifCond .le 7, 3) := by decide +kernel
theorem d_qw_product_22 : decode qw_product_c 22 = .ok (.ldc2_w 31, 3) := by decide +kernel
theorem d_qw_product_25 : decode qw_product_c 25 = .ok (.lreturn, 1) := by decide +kernel
theorem d_qw_product_26 : decode qw_product_c 26 = .ok (.lload_n 0, 1) := by decide +kernel
theorem d_qw_product_27 : decode qw_product_c 27 = .ok (.lload_n 2, 1) := by decide +kernel
theorem d_qw_product_28 : decode qw_product_c 28 = .ok (.lmul, 1) := by decide +kernel
theorem d_qw_product_29 : decode qw_product_c 29 = .ok (.lreturn, 1) := by decide +kernel
theorem d_qn_giveBackInteger_0 : decode qn_giveBackInteger_c 0 = .ok (.lload_n 1, 1) := by decide +kernel
theorem d_qn_giveBackInteger_1 : decode qn_giveBackInteger_c 1 = .ok (.invokestatic 109, 3) := by decide +kernel
theorem d_qn_giveBackInteger_4 : decode qn_giveBackInteger_c 4 = .ok (.ifCond .eq 15, 3) := by decide +kernel
theorem d_qn_giveBackInteger_7 : decode qn_giveBackInteger_c 7 = .ok (.aload_n 0, 1) := by decide +kernel
theorem d_qn_giveBackInteger_8 : decode qn_giveBackInteger_c 8 = .ok (.iconst 0, 1) := by decide +kernel
theorem d_qn_giveBackInteger_9 : decode qn_giveBackInteger_c 9 = .ok (.lload_n 1, 1) := by decide +kernel
theorem d_qn_giveBackInteger_10 : decode qn_giveBackInteger_c 10 = .ok (.invokestatic 102, 3) := by decide +kernel
theorem d_qn_giveBackInteger_13 : decode qn_giveBackInteger_c 13 = .ok (.invokevirtual 106, 3) := by decide +kernel
theorem d_qn_giveBackInteger_16 : decode qn_giveBackInteger_c 16 = .ok (.goto 9, 3) := by decide +kernel
theorem d_qn_giveBackInteger_19 : decode qn_giveBackInteger_c 19 = .ok (.aload_n 0, 1) := by decide +kernel
theorem d_qn_giveBackInteger_20 : decode qn_giveBackInteger_c 20 = .ok (.bipush (-9), 2) := by decide +kernel
theorem d_qn_giveBackInteger_22 : decode qn_giveBackInteger_c 22 = .ok (.invokevirtual 99, 3) := by decide +kernel
theorem d_qn_giveBackInteger_25 : decode qn_giveBackInteger_c 25 = .ok (.return_, 1) := by decide +kernel
theorem d_qn_accumulate_0 : decode qn_accumulate_c 0 = .ok (.iload_n 1, 1) := by decide +kernel
theorem d_qn_accumulate_1 : decode qn_accumulate_c 1 = .ok (.ifCond .eq 7, 3) := by decide +kernel
theorem d_qn_accumulate_4 : decode qn_accumulate_c 4 = .ok (.lconst 1, 1) := by decide +kernel
theorem d_qn_accumulate_5 : decode qn_accumulate_c 5 = .ok (.goto 4, 3) := by decide +kernel
theorem d_qn_accumulate_8 : decode qn_accumulate_c 8 = .ok (.lconst 0, 1) := by decide +kernel
theorem d_qn_accumulate_9 : decode qn_accumulate_c 9 = .ok (.lstore_n 2, 1) := by decide +kernel
theorem d_qn_accumulate_10 : decode qn_accumulate_c 10 = .ok (.aload_n 0, 1) := by decide +kernel
theorem d_qn_accumulate_11 : decode qn_accumulate_c 11 = .ok (.getfield 56, 3) := by decide +kernel
theorem d_qn_accumulate_14 : decode qn_accumulate_c 14 = .ok (.lstore 4, 2) := by decide +kernel
theorem d_qn_accumulate_16 : decode qn_accumulate_c 16 = .ok (.iconst 0, 1) := by decide +kernel
theorem d_qn_accumulate_17 : decode qn_accumulate_c 17 = .ok (.istore 6, 2) := by decide +kernel
theorem d_qn_accumulate_19 : decode qn_accumulate_c 19 = .ok (.lload 4, 2) := by decide +kernel
theorem d_qn_accumulate_21 : decode qn_accumulate_c 21 = .ok (.ldc2_w 50, 3) := by decide +kernel
theorem d_qn_accumulate_24 : decode qn_accumulate_c 24 = .ok (.lcmp, 1) := by decide +kernel
theorem d_qn_accumulate_25 : decode qn_accumulate_c 25 = .ok (.ifCond .eq 74, 3) := by decide +kernel
theorem d_qn_accumulate_28 : decode qn_accumulate_c 28 = .ok (.iload 6, 2) := by decide +kernel
theorem d_qn_accumulate_30 : decode qn_accumulate_c 30 = .ok (.sipush 4100, 3) := by decide +kernel
theorem d_qn_accumulate_33 : decode qn_accumulate_c 33 = .ok (.if_icmp .ge 66, 3) := by decide +kernel
theorem d_qn_accumulate_36 : decode qn_accumulate_c 36 = .ok (.aload_n 0, 1) := by decide +kernel
theorem d_qn_accumulate_37 : decode qn_accumulate_c 37 = .ok (.getfield 9, 3) := by decide +kernel
theorem d_qn_accumulate_40 : decode qn_accumulate_c 40 = .ok (.lload 4, 2) := by decide +kernel
theorem d_qn_accumulate_42 : decode qn_accumulate_c 42 = .ok (.invokevirtual 120, 3) := by decide +kernel
theorem d_qn_accumulate_45 : decode qn_accumulate_c 45 = .ok (.invokestatic 307, 3) := by decide +kernel
theorem d_qn_accumulate_48 : decode qn_accumulate_c 48 = .ok (.lstore 7, 2) := by decide +kernel
theorem d_qn_accumulate_50 : decode qn_accumulate_c 50 = .ok (.iload_n 1, 1) := by decide +kernel
theorem d_qn_accumulate_51 : decode qn_accumulate_c 51 = .ok (.ifCond .eq 12, 3) := by decide +kernel
theorem d_qn_accumulate_54 : decode qn_accumulate_c 54 = .ok (.lload_n 2, 1) := by decide +kernel
theorem d_qn_accumulate_55 : decode qn_accumulate_c 55 = .ok (.lload 7, 2) := by decide +kernel
theorem d_qn_accumulate_57 : decode qn_accumulate_c 57 = .ok (.invokestatic 324, 3) := by decide +kernel
theorem d_qn_accumulate_60 : decode qn_accumulate_c 60 = .ok (.goto 7, 3) := by decide +kernel
theorem d_qn_accumulate_63 : decode qn_accumulate_c 63 = .ok (.lload_n 2, 1) := by decide +kernel
theorem d_qn_accumulate_64 : decode qn_accumulate_c 64 = .ok (.lload 7, 2) := by decide +kernel
theorem d_qn_accumulate_66 : decode qn_accumulate_c 66 = .ok (.ladd, 1) := by decide +kernel
theorem d_qn_accumulate_67 : decode qn_accumulate_c 67 = .ok (.lstore_n 2, 1) := by decide +kernel
theorem d_qn_accumulate_68 : decode qn_accumulate_c 68 = .ok (.lload_n 2, 1) := by decide +kernel
theorem d_qn_accumulate_69 : decode qn_accumulate_c 69 = .ok (.invokestatic 109, 3) := by decide +kernel
theorem d_qn_accumulate_72 : decode qn_accumulate_c 72 = .ok (.ifCond .ne 10, 3) := by decide +kernel
theorem d_qn_accumulate_75 : decode qn_accumulate_c 75 = .ok (.aload_n 0, 1) := by decide +kernel
theorem d_qn_accumulate_76 : decode qn_accumulate_c 76 = .ok (.bipush (-9), 2) := by decide +kernel
theorem d_qn_accumulate_78 : decode qn_accumulate_c 78 = .ok (.invokevirtual 99, 3) := by decide +kernel
theorem d_qn_accumulate_81 : decode qn_accumulate_c 81 = .ok (.return_, 1) := by decide +kernel
theorem d_qn_accumulate_82 : decode qn_accumulate_c 82 = .ok (.aload_n 0, 1) := by decide +kernel
theorem d_qn_accumulate_83 : decode qn_accumulate_c 83 = .ok (.getfield 9, 3) := by decide +kernel
theorem d_qn_accumulate_86 : decode qn_accumulate_c 86 = .ok (.lload 4, 2) := by decide +kernel
theorem d_qn_accumulate_88 : decode qn_accumulate_c 88 = .ok (.invokevirtual 124, 3) := by decide +kernel
theorem d_qn_accumulate_91 : decode qn_accumulate_c 91 = .ok (.lstore 4, 2) := by decide +kernel
theorem d_qn_accumulate_93 : decode qn_accumulate_c 93 = .ok (.iinc 6 1, 3) := by decide +kernel
theorem d_qn_accumulate_96 : decode qn_accumulate_c 96 = .ok (.goto (-77), 3) := by decide +kernel
theorem d_qn_accumulate_99 : decode qn_accumulate_c 99 = .ok (.aload_n 0, 1) := by decide +kernel
theorem d_qn_accumulate_100 : decode qn_accumulate_c 100 = .ok (.lload_n 2, 1) := by decide +kernel
theorem d_qn_accumulate_101 : decode qn_accumulate_c 101 = .ok (.invokevirtual 317, 3) := by decide +kernel
theorem d_qn_accumulate_104 : decode qn_accumulate_c 104 = .ok (.return_, 1) := by decide +kernel
theorem d_qn_callDataFunction_0 : decode qn_callDataFunction_c 0 = .ok (.iload_n 1, 1) := by decide +kernel
theorem d_qn_callDataFunction_1 : decode qn_callDataFunction_c 1 = .ok (.tableswitch 251 10 19 #[55, 55, 73, 97, 132, 161, 186, 205, 224, 251], 55) := by decide +kernel
theorem d_qn_callDataFunction_56 : decode qn_callDataFunction_c 56 = .ok (.aload_n 0, 1) := by decide +kernel
theorem d_qn_callDataFunction_57 : decode qn_callDataFunction_c 57 = .ok (.iload_n 1, 1) := by decide +kernel
theorem d_qn_callDataFunction_58 : decode qn_callDataFunction_c 58 = .ok (.bipush 11, 2) := by decide +kernel
theorem d_qn_callDataFunction_60 : decode qn_callDataFunction_c 60 = .ok (.if_icmp .ne 7, 3) := by decide +kernel
theorem d_qn_callDataFunction_63 : decode qn_callDataFunction_c 63 = .ok (.iconst 1, 1) := by decide +kernel
theorem d_qn_callDataFunction_64 : decode qn_callDataFunction_c 64 = .ok (.goto 4, 3) := by decide +kernel
theorem d_qn_callDataFunction_67 : decode qn_callDataFunction_c 67 = .ok (.iconst 0, 1) := by decide +kernel
theorem d_qn_callDataFunction_68 : decode qn_callDataFunction_c 68 = .ok (.invokevirtual 313, 3) := by decide +kernel
theorem d_qn_callDataFunction_71 : decode qn_callDataFunction_c 71 = .ok (.goto 194, 3) := by decide +kernel
theorem d_qn_callDataFunction_74 : decode qn_callDataFunction_c 74 = .ok (.aload_n 0, 1) := by decide +kernel
theorem d_qn_callDataFunction_75 : decode qn_callDataFunction_c 75 = .ok (.aload_n 0, 1) := by decide +kernel
theorem d_qn_callDataFunction_76 : decode qn_callDataFunction_c 76 = .ok (.iconst 0, 1) := by decide +kernel
theorem d_qn_callDataFunction_77 : decode qn_callDataFunction_c 77 = .ok (.invokevirtual 263, 3) := by decide +kernel
theorem d_qn_callDataFunction_80 : decode qn_callDataFunction_c 80 = .ok (.invokestatic 307, 3) := by decide +kernel
theorem d_qn_callDataFunction_83 : decode qn_callDataFunction_c 83 = .ok (.aload_n 0, 1) := by decide +kernel
theorem d_qn_callDataFunction_84 : decode qn_callDataFunction_c 84 = .ok (.iconst 1, 1) := by decide +kernel
theorem d_qn_callDataFunction_85 : decode qn_callDataFunction_c 85 = .ok (.invokevirtual 263, 3) := by decide +kernel
theorem d_qn_callDataFunction_88 : decode qn_callDataFunction_c 88 = .ok (.invokestatic 307, 3) := by decide +kernel
theorem d_qn_callDataFunction_91 : decode qn_callDataFunction_c 91 = .ok (.lsub, 1) := by decide +kernel
theorem d_qn_callDataFunction_92 : decode qn_callDataFunction_c 92 = .ok (.invokevirtual 317, 3) := by decide +kernel
theorem d_qn_callDataFunction_95 : decode qn_callDataFunction_c 95 = .ok (.goto 170, 3) := by decide +kernel
theorem d_qn_callDataFunction_98 : decode qn_callDataFunction_c 98 = .ok (.aload_n 0, 1) := by decide +kernel
theorem d_qn_callDataFunction_99 : decode qn_callDataFunction_c 99 = .ok (.aload_n 0, 1) := by decide +kernel
theorem d_qn_callDataFunction_100 : decode qn_callDataFunction_c 100 = .ok (.iconst 0, 1) := by decide +kernel
theorem d_qn_callDataFunction_101 : decode qn_callDataFunction_c 101 = .ok (.invokevirtual 263, 3) := by decide +kernel
theorem d_qn_callDataFunction_104 : decode qn_callDataFunction_c 104 = .ok (.invokestatic 307, 3) := by decide +kernel
theorem d_qn_callDataFunction_107 : decode qn_callDataFunction_c 107 = .ok (.aload_n 0, 1) := by decide +kernel
theorem d_qn_callDataFunction_108 : decode qn_callDataFunction_c 108 = .ok (.iconst 1, 1) := by decide +kernel
theorem d_qn_callDataFunction_109 : decode qn_callDataFunction_c 109 = .ok (.invokevirtual 263, 3) := by decide +kernel
theorem d_qn_callDataFunction_112 : decode qn_callDataFunction_c 112 = .ok (.invokestatic 307, 3) := by decide +kernel
theorem d_qn_callDataFunction_115 : decode qn_callDataFunction_c 115 = .ok (.lcmp, 1) := by decide +kernel
theorem d_qn_callDataFunction_116 : decode qn_callDataFunction_c 116 = .ok (.ifCond .ge 7, 3) := by decide +kernel
theorem d_qn_callDataFunction_119 : decode qn_callDataFunction_c 119 = .ok (.iconst 1, 1) := by decide +kernel
theorem d_qn_callDataFunction_120 : decode qn_callDataFunction_c 120 = .ok (.goto 4, 3) := by decide +kernel
theorem d_qn_callDataFunction_123 : decode qn_callDataFunction_c 123 = .ok (.iconst 0, 1) := by decide +kernel
theorem d_qn_callDataFunction_124 : decode qn_callDataFunction_c 124 = .ok (.invokestatic 320, 3) := by decide +kernel
theorem d_qn_callDataFunction_127 : decode qn_callDataFunction_c 127 = .ok (.invokevirtual 106, 3) := by decide +kernel
theorem d_qn_callDataFunction_130 : decode qn_callDataFunction_c 130 = .ok (.goto 135, 3) := by decide +kernel
theorem d_qn_callDataFunction_133 : decode qn_callDataFunction_c 133 = .ok (.aload_n 0, 1) := by decide +kernel
theorem d_qn_callDataFunction_134 : decode qn_callDataFunction_c 134 = .ok (.aload_n 0, 1) := by decide +kernel
theorem d_qn_callDataFunction_135 : decode qn_callDataFunction_c 135 = .ok (.iconst 0, 1) := by decide +kernel
theorem d_qn_callDataFunction_136 : decode qn_callDataFunction_c 136 = .ok (.invokevirtual 263, 3) := by decide +kernel
theorem d_qn_callDataFunction_139 : decode qn_callDataFunction_c 139 = .ok (.aload_n 0, 1) := by decide +kernel
theorem d_qn_callDataFunction_140 : decode qn_callDataFunction_c 140 = .ok (.iconst 1, 1) := by decide +kernel
theorem d_qn_callDataFunction_141 : decode qn_callDataFunction_c 141 = .ok (.invokevirtual 263, 3) := by decide +kernel
theorem d_qn_callDataFunction_144 : decode qn_callDataFunction_c 144 = .ok (.lcmp, 1) := by decide +kernel
theorem d_qn_callDataFunction_145 : decode qn_callDataFunction_c 145 = .ok (.ifCond .ne 7, 3) := by decide +kernel
theorem d_qn_callDataFunction_148 : decode qn_callDataFunction_c 148 = .ok (.iconst 1, 1) := by decide +kernel
theorem d_qn_callDataFunction_149 : decode qn_callDataFunction_c 149 = .ok (.goto 4, 3) := by decide +kernel
theorem d_qn_callDataFunction_152 : decode qn_callDataFunction_c 152 = .ok (.iconst 0, 1) := by decide +kernel
theorem d_qn_callDataFunction_153 : decode qn_callDataFunction_c 153 = .ok (.invokestatic 320, 3) := by decide +kernel
theorem d_qn_callDataFunction_156 : decode qn_callDataFunction_c 156 = .ok (.invokevirtual 106, 3) := by decide +kernel
theorem d_qn_callDataFunction_159 : decode qn_callDataFunction_c 159 = .ok (.goto 106, 3) := by decide +kernel
theorem d_qn_callDataFunction_162 : decode qn_callDataFunction_c 162 = .ok (.aload_n 0, 1) := by decide +kernel
theorem d_qn_callDataFunction_163 : decode qn_callDataFunction_c 163 = .ok (.iconst 4, 1) := by decide +kernel
theorem d_qn_callDataFunction_164 : decode qn_callDataFunction_c 164 = .ok (.aload_n 0, 1) := by decide +kernel
theorem d_qn_callDataFunction_165 : decode qn_callDataFunction_c 165 = .ok (.getfield 9, 3) := by decide +kernel
theorem d_qn_callDataFunction_168 : decode qn_callDataFunction_c 168 = .ok (.aload_n 0, 1) := by decide +kernel
theorem d_qn_callDataFunction_169 : decode qn_callDataFunction_c 169 = .ok (.iconst 0, 1) := by decide +kernel
theorem d_qn_callDataFunction_170 : decode qn_callDataFunction_c 170 = .ok (.invokevirtual 263, 3) := by decide +kernel
theorem d_qn_callDataFunction_173 : decode qn_callDataFunction_c 173 = .ok (.aload_n 0, 1) := by decide +kernel
theorem d_qn_callDataFunction_174 : decode qn_callDataFunction_c 174 = .ok (.iconst 1, 1) := by decide +kernel
theorem d_qn_callDataFunction_175 : decode qn_callDataFunction_c 175 = .ok (.invokevirtual 263, 3) := by decide +kernel
theorem d_qn_callDataFunction_178 : decode qn_callDataFunction_c 178 = .ok (.invokevirtual 208, 3) := by decide +kernel
theorem d_qn_callDataFunction_181 : decode qn_callDataFunction_c 181 = .ok (.invokevirtual 301, 3) := by decide +kernel
theorem d_qn_callDataFunction_184 : decode qn_callDataFunction_c 184 = .ok (.goto 81, 3) := by decide +kernel
theorem d_qn_callDataFunction_187 : decode qn_callDataFunction_c 187 = .ok (.aload_n 0, 1) := by decide +kernel
theorem d_qn_callDataFunction_188 : decode qn_callDataFunction_c 188 = .ok (.aload_n 0, 1) := by decide +kernel
theorem d_qn_callDataFunction_189 : decode qn_callDataFunction_c 189 = .ok (.getfield 9, 3) := by decide +kernel
theorem d_qn_callDataFunction_192 : decode qn_callDataFunction_c 192 = .ok (.aload_n 0, 1) := by decide +kernel
theorem d_qn_callDataFunction_193 : decode qn_callDataFunction_c 193 = .ok (.iconst 0, 1) := by decide +kernel
theorem d_qn_callDataFunction_194 : decode qn_callDataFunction_c 194 = .ok (.invokevirtual 263, 3) := by decide +kernel
theorem d_qn_callDataFunction_197 : decode qn_callDataFunction_c 197 = .ok (.invokevirtual 120, 3) := by decide +kernel
theorem d_qn_callDataFunction_200 : decode qn_callDataFunction_c 200 = .ok (.invokevirtual 106, 3) := by decide +kernel
theorem d_qn_callDataFunction_203 : decode qn_callDataFunction_c 203 = .ok (.goto 62, 3) := by decide +kernel
theorem d_qn_callDataFunction_206 : decode qn_callDataFunction_c 206 = .ok (.aload_n 0, 1) := by decide +kernel
theorem d_qn_callDataFunction_207 : decode qn_callDataFunction_c 207 = .ok (.aload_n 0, 1) := by decide +kernel
theorem d_qn_callDataFunction_208 : decode qn_callDataFunction_c 208 = .ok (.getfield 9, 3) := by decide +kernel
theorem d_qn_callDataFunction_211 : decode qn_callDataFunction_c 211 = .ok (.aload_n 0, 1) := by decide +kernel
theorem d_qn_callDataFunction_212 : decode qn_callDataFunction_c 212 = .ok (.iconst 0, 1) := by decide +kernel
theorem d_qn_callDataFunction_213 : decode qn_callDataFunction_c 213 = .ok (.invokevirtual 263, 3) := by decide +kernel
theorem d_qn_callDataFunction_216 : decode qn_callDataFunction_c 216 = .ok (.invokevirtual 124, 3) := by decide +kernel
theorem d_qn_callDataFunction_219 : decode qn_callDataFunction_c 219 = .ok (.invokevirtual 106, 3) := by decide +kernel
theorem d_qn_callDataFunction_222 : decode qn_callDataFunction_c 222 = .ok (.goto 43, 3) := by decide +kernel
theorem d_qn_callDataFunction_225 : decode qn_callDataFunction_c 225 = .ok (.aload_n 0, 1) := by decide +kernel
theorem d_qn_callDataFunction_226 : decode qn_callDataFunction_c 226 = .ok (.aload_n 0, 1) := by decide +kernel
theorem d_qn_callDataFunction_227 : decode qn_callDataFunction_c 227 = .ok (.iconst 0, 1) := by decide +kernel
theorem d_qn_callDataFunction_228 : decode qn_callDataFunction_c 228 = .ok (.invokevirtual 263, 3) := by decide +kernel
theorem d_qn_callDataFunction_231 : decode qn_callDataFunction_c 231 = .ok (.ldc2_w 50, 3) := by decide +kernel
theorem d_qn_callDataFunction_234 : decode qn_callDataFunction_c 234 = .ok (.lcmp, 1) := by decide +kernel
theorem d_qn_callDataFunction_235 : decode qn_callDataFunction_c 235 = .ok (.ifCond .ne 7, 3) := by decide +kernel
theorem d_qn_callDataFunction_238 : decode qn_callDataFunction_c 238 = .ok (.iconst 1, 1) := by decide +kernel
theorem d_qn_callDataFunction_239 : decode qn_callDataFunction_c 239 = .ok (.goto 4, 3) := by decide +kernel
theorem d_qn_callDataFunction_242 : decode qn_callDataFunction_c 242 = .ok (.iconst 0, 1) := by decide +kernel
theorem d_qn_callDataFunction_243 : decode qn_callDataFunction_c 243 = .ok (.invokestatic 320, 3) := by decide +kernel
theorem d_qn_callDataFunction_246 : decode qn_callDataFunction_c 246 = .ok (.invokevirtual 106, 3) := by decide +kernel
theorem d_qn_callDataFunction_249 : decode qn_callDataFunction_c 249 = .ok (.goto 16, 3) := by decide +kernel
theorem d_qn_callDataFunction_252 : decode qn_callDataFunction_c 252 = .ok (.aload_n 0, 1) := by decide +kernel
theorem d_qn_callDataFunction_253 : decode qn_callDataFunction_c 253 = .ok (.aload_n 0, 1) := by decide +kernel
theorem d_qn_callDataFunction_254 : decode qn_callDataFunction_c 254 = .ok (.iconst 0, 1) := by decide +kernel
theorem d_qn_callDataFunction_255 : decode qn_callDataFunction_c 255 = .ok (.iconst 4, 1) := by decide +kernel
theorem d_qn_callDataFunction_256 : decode qn_callDataFunction_c 256 = .ok (.invokevirtual 272, 3) := by decide +kernel
theorem d_qn_callDataFunction_259 : decode qn_callDataFunction_c 259 = .ok (.invokestatic 320, 3) := by decide +kernel
theorem d_qn_callDataFunction_262 : decode qn_callDataFunction_c 262 = .ok (.invokevirtual 106, 3) := by decide +kernel
theorem d_qn_callDataFunction_265 : decode qn_callDataFunction_c 265 = .ok (.return_, 1) := by decide +kernel
theorem d_qn_makeEnvironment_0 : decode qn_makeEnvironment_c 0 = .ok (.aload_n 0, 1) := by decide +kernel
theorem d_qn_makeEnvironment_1 : decode qn_makeEnvironment_c 1 = .ok (.bipush 7, 2) := by decide +kernel
theorem d_qn_makeEnvironment_3 : decode qn_makeEnvironment_c 3 = .ok (.aload_n 0, 1) := by decide +kernel
theorem d_qn_makeEnvironment_4 : decode qn_makeEnvironment_c 4 = .ok (.getfield 9, 3) := by decide +kernel
theorem d_qn_makeEnvironment_7 : decode qn_makeEnvironment_c 7 = .ok (.iload_n 1, 1) := by decide +kernel
theorem d_qn_makeEnvironment_8 : decode qn_makeEnvironment_c 8 = .ok (.invokevirtual 223, 3) := by decide +kernel
theorem d_qn_makeEnvironment_11 : decode qn_makeEnvironment_c 11 = .ok (.invokevirtual 301, 3) := by decide +kernel
theorem d_qn_makeEnvironment_14 : decode qn_makeEnvironment_c 14 = .ok (.return_, 1) := by decide +kernel
theorem d_qn_applyWithoutScope_0 : decode qn_applyWithoutScope_c 0 = .ok (.aload_n 0, 1) := by decide +kernel
theorem d_qn_applyWithoutScope_1 : decode qn_applyWithoutScope_c 1 = .ok (.getfield 9, 3) := by decide +kernel
theorem d_qn_applyWithoutScope_4 : decode qn_applyWithoutScope_c 4 = .ok (.iconst (-1), 1) := by decide +kernel
theorem d_qn_applyWithoutScope_5 : decode qn_applyWithoutScope_c 5 = .ok (.invokevirtual 223, 3) := by decide +kernel
theorem d_qn_applyWithoutScope_8 : decode qn_applyWithoutScope_c 8 = .ok (.istore_n 1, 1) := by decide +kernel
theorem d_qn_applyWithoutScope_9 : decode qn_applyWithoutScope_c 9 = .ok (.iload_n 1, 1) := by decide +kernel
theorem d_qn_applyWithoutScope_10 : decode qn_applyWithoutScope_c 10 = .ok (.iconst (-1), 1) := by decide +kernel
theorem d_qn_applyWithoutScope_11 : decode qn_applyWithoutScope_c 11 = .ok (.if_icmp .ne 10, 3) := by decide +kernel
theorem d_qn_applyWithoutScope_14 : decode qn_applyWithoutScope_c 14 = .ok (.aload_n 0, 1) := by decide +kernel
theorem d_qn_applyWithoutScope_15 : decode qn_applyWithoutScope_c 15 = .ok (.bipush (-5), 2) := by decide +kernel
theorem d_qn_applyWithoutScope_17 : decode qn_applyWithoutScope_c 17 = .ok (.invokevirtual 99, 3) := by decide +kernel
theorem d_qn_applyWithoutScope_20 : decode qn_applyWithoutScope_c 20 = .ok (.return_, 1) := by decide +kernel
theorem d_qn_applyWithoutScope_21 : decode qn_applyWithoutScope_c 21 = .ok (.aload_n 0, 1) := by decide +kernel
theorem d_qn_applyWithoutScope_22 : decode qn_applyWithoutScope_c 22 = .ok (.getfield 9, 3) := by decide +kernel
theorem d_qn_applyWithoutScope_25 : decode qn_applyWithoutScope_c 25 = .ok (.aload_n 0, 1) := by decide +kernel
theorem d_qn_applyWithoutScope_26 : decode qn_applyWithoutScope_c 26 = .ok (.iconst 0, 1) := by decide +kernel
theorem d_qn_applyWithoutScope_27 : decode qn_applyWithoutScope_c 27 = .ok (.invokevirtual 263, 3) := by decide +kernel
theorem d_qn_applyWithoutScope_30 : decode qn_applyWithoutScope_c 30 = .ok (.invokevirtual 198, 3) := by decide +kernel
theorem d_qn_applyWithoutScope_33 : decode qn_applyWithoutScope_c 33 = .ok (.lstore_n 2, 1) := by decide +kernel
theorem d_qn_applyWithoutScope_34 : decode qn_applyWithoutScope_c 34 = .ok (.aload_n 0, 1) := by decide +kernel
theorem d_qn_applyWithoutScope_35 : decode qn_applyWithoutScope_c 35 = .ok (.iconst 1, 1) := by decide +kernel
theorem d_qn_applyWithoutScope_36 : decode qn_applyWithoutScope_c 36 = .ok (.invokevirtual 263, 3) := by decide +kernel
theorem d_qn_applyWithoutScope_39 : decode qn_applyWithoutScope_c 39 = .ok (.lstore 4, 2) := by decide +kernel
theorem d_qn_applyWithoutScope_41 : decode qn_applyWithoutScope_c 41 = .ok (.aload_n 0, 1) := by decide +kernel
theorem d_qn_applyWithoutScope_42 : decode qn_applyWithoutScope_c 42 = .ok (.iload_n 1, 1) := by decide +kernel
theorem d_qn_applyWithoutScope_43 : decode qn_applyWithoutScope_c 43 = .ok (.putfield 61, 3) := by decide +kernel
theorem d_qn_applyWithoutScope_46 : decode qn_applyWithoutScope_c 46 = .ok (.aload_n 0, 1) := by decide +kernel
theorem d_qn_applyWithoutScope_47 : decode qn_applyWithoutScope_c 47 = .ok (.lload_n 2, 1) := by decide +kernel
theorem d_qn_applyWithoutScope_48 : decode qn_applyWithoutScope_c 48 = .ok (.lload 4, 2) := by decide +kernel
theorem d_qn_applyWithoutScope_50 : decode qn_applyWithoutScope_c 50 = .ok (.invokevirtual 168, 3) := by decide +kernel
theorem d_qn_applyWithoutScope_53 : decode qn_applyWithoutScope_c 53 = .ok (.return_, 1) := by decide +kernel
theorem d_qn_callScopeFunction_0 : decode qn_callScopeFunction_c 0 = .ok (.iload_n 1, 1) := by decide +kernel
theorem d_qn_callScopeFunction_1 : decode qn_callScopeFunction_c 1 = .ok (.tableswitch 133 20 25 #[39, 63, 84, 103, 126, 133], 39) := by decide +kernel
theorem d_qn_callScopeFunction_40 : decode qn_callScopeFunction_c 40 = .ok (.aload_n 0, 1) := by decide +kernel
theorem d_qn_callScopeFunction_41 : decode qn_callScopeFunction_c 41 = .ok (.aload_n 0, 1) := by decide +kernel
theorem d_qn_callScopeFunction_42 : decode qn_callScopeFunction_c 42 = .ok (.iconst 1, 1) := by decide +kernel
theorem d_qn_callScopeFunction_43 : decode qn_callScopeFunction_c 43 = .ok (.invokevirtual 263, 3) := by decide +kernel
theorem d_qn_callScopeFunction_46 : decode qn_callScopeFunction_c 46 = .ok (.invokestatic 88, 3) := by decide +kernel
theorem d_qn_callScopeFunction_49 : decode qn_callScopeFunction_c 49 = .ok (.putfield 61, 3) := by decide +kernel
theorem d_qn_callScopeFunction_52 : decode qn_callScopeFunction_c 52 = .ok (.aload_n 0, 1) := by decide +kernel
theorem d_qn_callScopeFunction_53 : decode qn_callScopeFunction_c 53 = .ok (.aload_n 0, 1) := by decide +kernel
theorem d_qn_callScopeFunction_54 : decode qn_callScopeFunction_c 54 = .ok (.iconst 0, 1) := by decide +kernel
theorem d_qn_callScopeFunction_55 : decode qn_callScopeFunction_c 55 = .ok (.invokevirtual 263, 3) := by decide +kernel
theorem d_qn_callScopeFunction_58 : decode qn_callScopeFunction_c 58 = .ok (.invokevirtual 77, 3) := by decide +kernel
theorem d_qn_callScopeFunction_61 : decode qn_callScopeFunction_c 61 = .ok (.goto 81, 3) := by decide +kernel
theorem d_qn_callScopeFunction_64 : decode qn_callScopeFunction_c 64 = .ok (.aload_n 0, 1) := by decide +kernel
theorem d_qn_callScopeFunction_65 : decode qn_callScopeFunction_c 65 = .ok (.bipush 6, 2) := by decide +kernel
theorem d_qn_callScopeFunction_67 : decode qn_callScopeFunction_c 67 = .ok (.aload_n 0, 1) := by decide +kernel
theorem d_qn_callScopeFunction_68 : decode qn_callScopeFunction_c 68 = .ok (.getfield 9, 3) := by decide +kernel
theorem d_qn_callScopeFunction_71 : decode qn_callScopeFunction_c 71 = .ok (.aload_n 0, 1) := by decide +kernel
theorem d_qn_callScopeFunction_72 : decode qn_callScopeFunction_c 72 = .ok (.iconst 0, 1) := by decide +kernel
theorem d_qn_callScopeFunction_73 : decode qn_callScopeFunction_c 73 = .ok (.invokevirtual 263, 3) := by decide +kernel
theorem d_qn_callScopeFunction_76 : decode qn_callScopeFunction_c 76 = .ok (.invokevirtual 304, 3) := by decide +kernel
theorem d_qn_callScopeFunction_79 : decode qn_callScopeFunction_c 79 = .ok (.invokevirtual 301, 3) := by decide +kernel
theorem d_qn_callScopeFunction_82 : decode qn_callScopeFunction_c 82 = .ok (.goto 60, 3) := by decide +kernel
theorem d_qn_callScopeFunction_85 : decode qn_callScopeFunction_c 85 = .ok (.aload_n 0, 1) := by decide +kernel
theorem d_qn_callScopeFunction_86 : decode qn_callScopeFunction_c 86 = .ok (.aload_n 0, 1) := by decide +kernel
theorem d_qn_callScopeFunction_87 : decode qn_callScopeFunction_c 87 = .ok (.getfield 9, 3) := by decide +kernel
theorem d_qn_callScopeFunction_90 : decode qn_callScopeFunction_c 90 = .ok (.aload_n 0, 1) := by decide +kernel
theorem d_qn_callScopeFunction_91 : decode qn_callScopeFunction_c 91 = .ok (.iconst 0, 1) := by decide +kernel
theorem d_qn_callScopeFunction_92 : decode qn_callScopeFunction_c 92 = .ok (.invokevirtual 263, 3) := by decide +kernel
theorem d_qn_callScopeFunction_95 : decode qn_callScopeFunction_c 95 = .ok (.invokevirtual 198, 3) := by decide +kernel
theorem d_qn_callScopeFunction_98 : decode qn_callScopeFunction_c 98 = .ok (.invokevirtual 106, 3) := by decide +kernel
theorem d_qn_callScopeFunction_101 : decode qn_callScopeFunction_c 101 = .ok (.goto 41, 3) := by decide +kernel
theorem d_qn_callScopeFunction_104 : decode qn_callScopeFunction_c 104 = .ok (.aload_n 0, 1) := by decide +kernel
theorem d_qn_callScopeFunction_105 : decode qn_callScopeFunction_c 105 = .ok (.iload_n 2, 1) := by decide +kernel
theorem d_qn_callScopeFunction_106 : decode qn_callScopeFunction_c 106 = .ok (.ifCond .ne 7, 3) := by decide +kernel
theorem d_qn_callScopeFunction_109 : decode qn_callScopeFunction_c 109 = .ok (.iconst (-1), 1) := by decide +kernel
theorem d_qn_callScopeFunction_110 : decode qn_callScopeFunction_c 110 = .ok (.goto 11, 3) := by decide +kernel
theorem d_qn_callScopeFunction_113 : decode qn_callScopeFunction_c 113 = .ok (.aload_n 0, 1) := by decide +kernel
theorem d_qn_callScopeFunction_114 : decode qn_callScopeFunction_c 114 = .ok (.iconst 0, 1) := by decide +kernel
theorem d_qn_callScopeFunction_115 : decode qn_callScopeFunction_c 115 = .ok (.invokevirtual 263, 3) := by decide +kernel
theorem d_qn_callScopeFunction_118 : decode qn_callScopeFunction_c 118 = .ok (.invokestatic 88, 3) := by decide +kernel
theorem d_qn_callScopeFunction_121 : decode qn_callScopeFunction_c 121 = .ok (.invokevirtual 328, 3) := by decide +kernel
theorem d_qn_callScopeFunction_124 : decode qn_callScopeFunction_c 124 = .ok (.goto 18, 3) := by decide +kernel
theorem d_qn_callScopeFunction_127 : decode qn_callScopeFunction_c 127 = .ok (.aload_n 0, 1) := by decide +kernel
theorem d_qn_callScopeFunction_128 : decode qn_callScopeFunction_c 128 = .ok (.invokevirtual 331, 3) := by decide +kernel
theorem d_qn_callScopeFunction_131 : decode qn_callScopeFunction_c 131 = .ok (.goto 11, 3) := by decide +kernel
theorem d_qn_callScopeFunction_134 : decode qn_callScopeFunction_c 134 = .ok (.aload_n 0, 1) := by decide +kernel
theorem d_qn_callScopeFunction_135 : decode qn_callScopeFunction_c 135 = .ok (.aload_n 0, 1) := by decide +kernel
theorem d_qn_callScopeFunction_136 : decode qn_callScopeFunction_c 136 = .ok (.getfield 56, 3) := by decide +kernel
theorem d_qn_callScopeFunction_139 : decode qn_callScopeFunction_c 139 = .ok (.invokevirtual 106, 3) := by decide +kernel
theorem d_qn_callScopeFunction_142 : decode qn_callScopeFunction_c 142 = .ok (.return_, 1) := by decide +kernel
theorem d_qn_callPrimitive_0 : decode qn_callPrimitive_c 0 = .ok (.aload_n 0, 1) := by decide +kernel
theorem d_qn_callPrimitive_1 : decode qn_callPrimitive_c 1 = .ok (.getfield 9, 3) := by decide +kernel
theorem d_qn_callPrimitive_4 : decode qn_callPrimitive_c 4 = .ok (.aload_n 0, 1) := by decide +kernel
theorem d_qn_callPrimitive_5 : decode qn_callPrimitive_c 5 = .ok (.getfield 56, 3) := by decide +kernel
theorem d_qn_callPrimitive_8 : decode qn_callPrimitive_c 8 = .ok (.invokevirtual 195, 3) := by decide +kernel
theorem d_qn_callPrimitive_11 : decode qn_callPrimitive_c 11 = .ok (.istore_n 2, 1) := by decide +kernel
theorem d_qn_callPrimitive_12 : decode qn_callPrimitive_c 12 = .ok (.aload_n 0, 1) := by decide +kernel
theorem d_qn_callPrimitive_13 : decode qn_callPrimitive_c 13 = .ok (.iload_n 1, 1) := by decide +kernel
theorem d_qn_callPrimitive_14 : decode qn_callPrimitive_c 14 = .ok (.iload_n 2, 1) := by decide +kernel
theorem d_qn_callPrimitive_15 : decode qn_callPrimitive_c 15 = .ok (.invokevirtual 243, 3) := by decide +kernel
theorem d_qn_callPrimitive_18 : decode qn_callPrimitive_c 18 = .ok (.ifCond .eq 12, 3) := by decide +kernel
theorem d_qn_callPrimitive_21 : decode qn_callPrimitive_c 21 = .ok (.aload_n 0, 1) := by decide +kernel
theorem d_qn_callPrimitive_22 : decode qn_callPrimitive_c 22 = .ok (.iload_n 1, 1) := by decide +kernel
theorem d_qn_callPrimitive_23 : decode qn_callPrimitive_c 23 = .ok (.iload_n 2, 1) := by decide +kernel
theorem d_qn_callPrimitive_24 : decode qn_callPrimitive_c 24 = .ok (.invokevirtual 246, 3) := by decide +kernel
theorem d_qn_callPrimitive_27 : decode qn_callPrimitive_c 27 = .ok (.ifCond .ne 12, 3) := by decide +kernel
theorem d_qn_callPrimitive_30 : decode qn_callPrimitive_c 30 = .ok (.aload_n 0, 1) := by decide +kernel
theorem d_qn_callPrimitive_31 : decode qn_callPrimitive_c 31 = .ok (.bipush (-8), 2) := by decide +kernel
theorem d_qn_callPrimitive_33 : decode qn_callPrimitive_c 33 = .ok (.invokevirtual 99, 3) := by decide +kernel
theorem d_qn_callPrimitive_36 : decode qn_callPrimitive_c 36 = .ok (.goto 37, 3) := by decide +kernel
theorem d_qn_callPrimitive_39 : decode qn_callPrimitive_c 39 = .ok (.iload_n 1, 1) := by decide +kernel
theorem d_qn_callPrimitive_40 : decode qn_callPrimitive_c 40 = .ok (.bipush 10, 2) := by decide +kernel
theorem d_qn_callPrimitive_42 : decode qn_callPrimitive_c 42 = .ok (.if_icmp .ge 11, 3) := by decide +kernel
theorem d_qn_callPrimitive_45 : decode qn_callPrimitive_c 45 = .ok (.aload_n 0, 1) := by decide +kernel
theorem d_qn_callPrimitive_46 : decode qn_callPrimitive_c 46 = .ok (.iload_n 1, 1) := by decide +kernel
theorem d_qn_callPrimitive_47 : decode qn_callPrimitive_c 47 = .ok (.invokevirtual 249, 3) := by decide +kernel
theorem d_qn_callPrimitive_50 : decode qn_callPrimitive_c 50 = .ok (.goto 23, 3) := by decide +kernel
theorem d_qn_callPrimitive_53 : decode qn_callPrimitive_c 53 = .ok (.iload_n 1, 1) := by decide +kernel
theorem d_qn_callPrimitive_54 : decode qn_callPrimitive_c 54 = .ok (.bipush 20, 2) := by decide +kernel
theorem d_qn_callPrimitive_56 : decode qn_callPrimitive_c 56 = .ok (.if_icmp .ge 11, 3) := by decide +kernel
theorem d_qn_callPrimitive_59 : decode qn_callPrimitive_c 59 = .ok (.aload_n 0, 1) := by decide +kernel
theorem d_qn_callPrimitive_60 : decode qn_callPrimitive_c 60 = .ok (.iload_n 1, 1) := by decide +kernel
theorem d_qn_callPrimitive_61 : decode qn_callPrimitive_c 61 = .ok (.invokevirtual 252, 3) := by decide +kernel
theorem d_qn_callPrimitive_64 : decode qn_callPrimitive_c 64 = .ok (.goto 9, 3) := by decide +kernel
theorem d_qn_callPrimitive_67 : decode qn_callPrimitive_c 67 = .ok (.aload_n 0, 1) := by decide +kernel
theorem d_qn_callPrimitive_68 : decode qn_callPrimitive_c 68 = .ok (.iload_n 1, 1) := by decide +kernel
theorem d_qn_callPrimitive_69 : decode qn_callPrimitive_c 69 = .ok (.iload_n 2, 1) := by decide +kernel
theorem d_qn_callPrimitive_70 : decode qn_callPrimitive_c 70 = .ok (.invokevirtual 255, 3) := by decide +kernel
theorem d_qn_callPrimitive_73 : decode qn_callPrimitive_c 73 = .ok (.return_, 1) := by decide +kernel
theorem d_qf_isEmpty_0 : decode qf_isEmpty_c 0 = .ok (.aload_n 0, 1) := by decide +kernel
theorem d_qf_isEmpty_1 : decode qf_isEmpty_c 1 = .ok (.getfield 26, 3) := by decide +kernel
theorem d_qf_isEmpty_4 : decode qf_isEmpty_c 4 = .ok (.ifCond .gt 7, 3) := by decide +kernel
theorem d_qf_isEmpty_7 : decode qf_isEmpty_c 7 = .ok (.iconst 1, 1) := by decide +kernel
theorem d_qf_isEmpty_8 : decode qf_isEmpty_c 8 = .ok (.goto 4, 3) := by decide +kernel
theorem d_qf_isEmpty_11 : decode qf_isEmpty_c 11 = .ok (.iconst 0, 1) := by decide +kernel
theorem d_qf_isEmpty_12 : decode qf_isEmpty_c 12 = .ok (.ireturn, 1) := by decide +kernel
theorem d_qf_take_0 : decode qf_take_c 0 = .ok (.aload_n 0, 1) := by decide +kernel
theorem d_qf_take_1 : decode qf_take_c 1 = .ok (.getfield 26, 3) := by decide +kernel
theorem d_qf_take_4 : decode qf_take_c 4 = .ok (.ifCond .le 13, 3) := by decide +kernel
theorem d_qf_take_7 : decode qf_take_c 7 = .ok (.aload_n 0, 1) := by decide +kernel
theorem d_qf_take_8 : decode qf_take_c 8 = .ok (.dup, 1) := by decide +kernel
theorem d_qf_take_9 : decode qf_take_c 9 = .ok (.getfield 26, 3) := by decide +kernel
theorem d_qf_take_12 : decode qf_take_c 12 = .ok (.iconst 1, 1) := by decide +kernel
theorem d_qf_take_13 : decode qf_take_c 13 = .ok (.isub, 1) := by decide +kernel
theorem d_qf_take_14 : decode qf_take_c 14 = .ok (.putfield 26, 3) := by decide +kernel
theorem d_qf_take_17 : decode qf_take_c 17 = .ok (.return_, 1) := by decide +kernel
theorem d_qf_canRead_0 : decode qf_canRead_c 0 = .ok (.aload_n 0, 1) := by decide +kernel
theorem d_qf_canRead_1 : decode qf_canRead_c 1 = .ok (.getfield 26, 3) := by decide +kernel
theorem d_qf_canRead_4 : decode qf_canRead_c 4 = .ok (.ifCond .lt 17, 3) := by decide +kernel
theorem d_qf_canRead_7 : decode qf_canRead_c 7 = .ok (.aload_n 0, 1) := by decide +kernel
theorem d_qf_canRead_8 : decode qf_canRead_c 8 = .ok (.getfield 26, 3) := by decide +kernel
theorem d_qf_canRead_11 : decode qf_canRead_c 11 = .ok (.sipush 300, 3) := by decide +kernel
theorem d_qf_canRead_14 : decode qf_canRead_c 14 = .ok (.if_icmp .ge 7, 3) := by decide +kernel
theorem d_qf_canRead_17 : decode qf_canRead_c 17 = .ok (.iconst 1, 1) := by decide +kernel
theorem d_qf_canRead_18 : decode qf_canRead_c 18 = .ok (.goto 4, 3) := by decide +kernel
theorem d_qf_canRead_21 : decode qf_canRead_c 21 = .ok (.iconst 0, 1) := by decide +kernel
theorem d_qf_canRead_22 : decode qf_canRead_c 22 = .ok (.ireturn, 1) := by decide +kernel
theorem d_qf_environment_0 : decode qf_environment_c 0 = .ok (.aload_n 0, 1) := by decide +kernel
theorem d_qf_environment_1 : decode qf_environment_c 1 = .ok (.invokevirtual 33, 3) := by decide +kernel
theorem d_qf_environment_4 : decode qf_environment_c 4 = .ok (.ifCond .eq 15, 3) := by decide +kernel
theorem d_qf_environment_7 : decode qf_environment_c 7 = .ok (.aload_n 0, 1) := by decide +kernel
theorem d_qf_environment_8 : decode qf_environment_c 8 = .ok (.getfield 13, 3) := by decide +kernel
theorem d_qf_environment_11 : decode qf_environment_c 11 = .ok (.aload_n 0, 1) := by decide +kernel
theorem d_qf_environment_12 : decode qf_environment_c 12 = .ok (.getfield 26, 3) := by decide +kernel
theorem d_qf_environment_15 : decode qf_environment_c 15 = .ok (.iaload, 1) := by decide +kernel
theorem d_qf_environment_16 : decode qf_environment_c 16 = .ok (.goto 4, 3) := by decide +kernel
theorem d_qf_environment_19 : decode qf_environment_c 19 = .ok (.iconst (-1), 1) := by decide +kernel
theorem d_qf_environment_20 : decode qf_environment_c 20 = .ok (.ireturn, 1) := by decide +kernel
theorem d_qf_rest_0 : decode qf_rest_c 0 = .ok (.aload_n 0, 1) := by decide +kernel
theorem d_qf_rest_1 : decode qf_rest_c 1 = .ok (.invokevirtual 33, 3) := by decide +kernel
theorem d_qf_rest_4 : decode qf_rest_c 4 = .ok (.ifCond .eq 15, 3) := by decide +kernel
theorem d_qf_rest_7 : decode qf_rest_c 7 = .ok (.aload_n 0, 1) := by decide +kernel
theorem d_qf_rest_8 : decode qf_rest_c 8 = .ok (.getfield 16, 3) := by decide +kernel
theorem d_qf_rest_11 : decode qf_rest_c 11 = .ok (.aload_n 0, 1) := by decide +kernel
theorem d_qf_rest_12 : decode qf_rest_c 12 = .ok (.getfield 26, 3) := by decide +kernel
theorem d_qf_rest_15 : decode qf_rest_c 15 = .ok (.laload, 1) := by decide +kernel
theorem d_qf_rest_16 : decode qf_rest_c 16 = .ok (.goto 6, 3) := by decide +kernel
theorem d_qf_rest_19 : decode qf_rest_c 19 = .ok (.ldc2_w 41, 3) := by decide +kernel
theorem d_qf_rest_22 : decode qf_rest_c 22 = .ok (.lreturn, 1) := by decide +kernel
theorem d_qf_task_0 : decode qf_task_c 0 = .ok (.aload_n 0, 1) := by decide +kernel
theorem d_qf_task_1 : decode qf_task_c 1 = .ok (.invokevirtual 33, 3) := by decide +kernel
theorem d_qf_task_4 : decode qf_task_c 4 = .ok (.ifCond .eq 15, 3) := by decide +kernel
theorem d_qf_task_7 : decode qf_task_c 7 = .ok (.aload_n 0, 1) := by decide +kernel
theorem d_qf_task_8 : decode qf_task_c 8 = .ok (.getfield 9, 3) := by decide +kernel
theorem d_qf_task_11 : decode qf_task_c 11 = .ok (.aload_n 0, 1) := by decide +kernel
theorem d_qf_task_12 : decode qf_task_c 12 = .ok (.getfield 26, 3) := by decide +kernel
theorem d_qf_task_15 : decode qf_task_c 15 = .ok (.iaload, 1) := by decide +kernel
theorem d_qf_task_16 : decode qf_task_c 16 = .ok (.goto 4, 3) := by decide +kernel
theorem d_qf_task_19 : decode qf_task_c 19 = .ok (.iconst 0, 1) := by decide +kernel
theorem d_qf_task_20 : decode qf_task_c 20 = .ok (.ireturn, 1) := by decide +kernel
theorem d_qf_held_0 : decode qf_held_c 0 = .ok (.aload_n 0, 1) := by decide +kernel
theorem d_qf_held_1 : decode qf_held_c 1 = .ok (.invokevirtual 33, 3) := by decide +kernel
theorem d_qf_held_4 : decode qf_held_c 4 = .ok (.ifCond .eq 15, 3) := by decide +kernel
theorem d_qf_held_7 : decode qf_held_c 7 = .ok (.aload_n 0, 1) := by decide +kernel
theorem d_qf_held_8 : decode qf_held_c 8 = .ok (.getfield 20, 3) := by decide +kernel
theorem d_qf_held_11 : decode qf_held_c 11 = .ok (.aload_n 0, 1) := by decide +kernel
theorem d_qf_held_12 : decode qf_held_c 12 = .ok (.getfield 26, 3) := by decide +kernel
theorem d_qf_held_15 : decode qf_held_c 15 = .ok (.laload, 1) := by decide +kernel
theorem d_qf_held_16 : decode qf_held_c 16 = .ok (.goto 6, 3) := by decide +kernel
theorem d_qf_held_19 : decode qf_held_c 19 = .ok (.ldc2_w 41, 3) := by decide +kernel
theorem d_qf_held_22 : decode qf_held_c 22 = .ok (.lreturn, 1) := by decide +kernel
theorem d_qf_gathered_0 : decode qf_gathered_c 0 = .ok (.aload_n 0, 1) := by decide +kernel
theorem d_qf_gathered_1 : decode qf_gathered_c 1 = .ok (.invokevirtual 33, 3) := by decide +kernel
theorem d_qf_gathered_4 : decode qf_gathered_c 4 = .ok (.ifCond .eq 15, 3) := by decide +kernel
theorem d_qf_gathered_7 : decode qf_gathered_c 7 = .ok (.aload_n 0, 1) := by decide +kernel
theorem d_qf_gathered_8 : decode qf_gathered_c 8 = .ok (.getfield 23, 3) := by decide +kernel
theorem d_qf_gathered_11 : decode qf_gathered_c 11 = .ok (.aload_n 0, 1) := by decide +kernel
theorem d_qf_gathered_12 : decode qf_gathered_c 12 = .ok (.getfield 26, 3) := by decide +kernel
theorem d_qf_gathered_15 : decode qf_gathered_c 15 = .ok (.iaload, 1) := by decide +kernel
theorem d_qf_gathered_16 : decode qf_gathered_c 16 = .ok (.goto 4, 3) := by decide +kernel
theorem d_qf_gathered_19 : decode qf_gathered_c 19 = .ok (.iconst 0, 1) := by decide +kernel
theorem d_qf_gathered_20 : decode qf_gathered_c 20 = .ok (.ireturn, 1) := by decide +kernel
theorem d_qn_takeArgument_0 : decode qn_takeArgument_c 0 = .ok (.aload_n 0, 1) := by decide +kernel
theorem d_qn_takeArgument_1 : decode qn_takeArgument_c 1 = .ok (.getfield 41, 3) := by decide +kernel
theorem d_qn_takeArgument_4 : decode qn_takeArgument_c 4 = .ok (.ifCond .lt 13, 3) := by decide +kernel
theorem d_qn_takeArgument_7 : decode qn_takeArgument_c 7 = .ok (.aload_n 0, 1) := by decide +kernel
theorem d_qn_takeArgument_8 : decode qn_takeArgument_c 8 = .ok (.getfield 41, 3) := by decide +kernel
theorem d_qn_takeArgument_11 : decode qn_takeArgument_c 11 = .ok (.sipush 1500, 3) := by decide +kernel
theorem d_qn_takeArgument_14 : decode qn_takeArgument_c 14 = .ok (.if_icmp .lt 10, 3) := by decide +kernel
theorem d_qn_takeArgument_17 : decode qn_takeArgument_c 17 = .ok (.aload_n 0, 1) := by decide +kernel
theorem d_qn_takeArgument_18 : decode qn_takeArgument_c 18 = .ok (.bipush (-10), 2) := by decide +kernel
theorem d_qn_takeArgument_20 : decode qn_takeArgument_c 20 = .ok (.invokevirtual 99, 3) := by decide +kernel
theorem d_qn_takeArgument_23 : decode qn_takeArgument_c 23 = .ok (.return_, 1) := by decide +kernel
theorem d_qn_takeArgument_24 : decode qn_takeArgument_c 24 = .ok (.aload_n 0, 1) := by decide +kernel
theorem d_qn_takeArgument_25 : decode qn_takeArgument_c 25 = .ok (.getfield 31, 3) := by decide +kernel
theorem d_qn_takeArgument_28 : decode qn_takeArgument_c 28 = .ok (.aload_n 0, 1) := by decide +kernel
theorem d_qn_takeArgument_29 : decode qn_takeArgument_c 29 = .ok (.getfield 41, 3) := by decide +kernel
theorem d_qn_takeArgument_32 : decode qn_takeArgument_c 32 = .ok (.aload_n 0, 1) := by decide +kernel
theorem d_qn_takeArgument_33 : decode qn_takeArgument_c 33 = .ok (.getfield 52, 3) := by decide +kernel
theorem d_qn_takeArgument_36 : decode qn_takeArgument_c 36 = .ok (.lastore, 1) := by decide +kernel
theorem d_qn_takeArgument_37 : decode qn_takeArgument_c 37 = .ok (.aload_n 0, 1) := by decide +kernel
theorem d_qn_takeArgument_38 : decode qn_takeArgument_c 38 = .ok (.dup, 1) := by decide +kernel
theorem d_qn_takeArgument_39 : decode qn_takeArgument_c 39 = .ok (.getfield 41, 3) := by decide +kernel
theorem d_qn_takeArgument_42 : decode qn_takeArgument_c 42 = .ok (.iconst 1, 1) := by decide +kernel
theorem d_qn_takeArgument_43 : decode qn_takeArgument_c 43 = .ok (.iadd, 1) := by decide +kernel
theorem d_qn_takeArgument_44 : decode qn_takeArgument_c 44 = .ok (.putfield 41, 3) := by decide +kernel
theorem d_qn_takeArgument_47 : decode qn_takeArgument_c 47 = .ok (.aload_n 0, 1) := by decide +kernel
theorem d_qn_takeArgument_48 : decode qn_takeArgument_c 48 = .ok (.lload_n 1, 1) := by decide +kernel
theorem d_qn_takeArgument_49 : decode qn_takeArgument_c 49 = .ok (.lload_n 3, 1) := by decide +kernel
theorem d_qn_takeArgument_50 : decode qn_takeArgument_c 50 = .ok (.iload 5, 2) := by decide +kernel
theorem d_qn_takeArgument_52 : decode qn_takeArgument_c 52 = .ok (.iconst 1, 1) := by decide +kernel
theorem d_qn_takeArgument_53 : decode qn_takeArgument_c 53 = .ok (.iadd, 1) := by decide +kernel
theorem d_qn_takeArgument_54 : decode qn_takeArgument_c 54 = .ok (.invokevirtual 201, 3) := by decide +kernel
theorem d_qn_takeArgument_57 : decode qn_takeArgument_c 57 = .ok (.return_, 1) := by decide +kernel
theorem d_qn_choose_0 : decode qn_choose_c 0 = .ok (.aload_n 0, 1) := by decide +kernel
theorem d_qn_choose_1 : decode qn_choose_c 1 = .ok (.getfield 52, 3) := by decide +kernel
theorem d_qn_choose_4 : decode qn_choose_c 4 = .ok (.invokestatic 117, 3) := by decide +kernel
theorem d_qn_choose_7 : decode qn_choose_c 7 = .ok (.iconst 1, 1) := by decide +kernel
theorem d_qn_choose_8 : decode qn_choose_c 8 = .ok (.if_icmp .eq 12, 3) := by decide +kernel
theorem d_qn_choose_11 : decode qn_choose_c 11 = .ok (.aload_n 0, 1) := by decide +kernel
theorem d_qn_choose_12 : decode qn_choose_c 12 = .ok (.bipush (-8), 2) := by decide +kernel
theorem d_qn_choose_14 : decode qn_choose_c 14 = .ok (.invokevirtual 99, 3) := by decide +kernel
theorem d_qn_choose_17 : decode qn_choose_c 17 = .ok (.goto 32, 3) := by decide +kernel
theorem d_qn_choose_20 : decode qn_choose_c 20 = .ok (.aload_n 0, 1) := by decide +kernel
theorem d_qn_choose_21 : decode qn_choose_c 21 = .ok (.aload_n 0, 1) := by decide +kernel
theorem d_qn_choose_22 : decode qn_choose_c 22 = .ok (.getfield 9, 3) := by decide +kernel
theorem d_qn_choose_25 : decode qn_choose_c 25 = .ok (.lload_n 1, 1) := by decide +kernel
theorem d_qn_choose_26 : decode qn_choose_c 26 = .ok (.aload_n 0, 1) := by decide +kernel
theorem d_qn_choose_27 : decode qn_choose_c 27 = .ok (.getfield 52, 3) := by decide +kernel
theorem d_qn_choose_30 : decode qn_choose_c 30 = .ok (.invokestatic 307, 3) := by decide +kernel
theorem d_qn_choose_33 : decode qn_choose_c 33 = .ok (.lconst 1, 1) := by decide +kernel
theorem d_qn_choose_34 : decode qn_choose_c 34 = .ok (.lcmp, 1) := by decide +kernel
theorem d_qn_choose_35 : decode qn_choose_c 35 = .ok (.ifCond .ne 7, 3) := by decide +kernel
theorem d_qn_choose_38 : decode qn_choose_c 38 = .ok (.iconst 0, 1) := by decide +kernel
theorem d_qn_choose_39 : decode qn_choose_c 39 = .ok (.goto 4, 3) := by decide +kernel
theorem d_qn_choose_42 : decode qn_choose_c 42 = .ok (.iconst 1, 1) := by decide +kernel
theorem d_qn_choose_43 : decode qn_choose_c 43 = .ok (.invokevirtual 286, 3) := by decide +kernel
theorem d_qn_choose_46 : decode qn_choose_c 46 = .ok (.invokevirtual 77, 3) := by decide +kernel
theorem d_qn_choose_49 : decode qn_choose_c 49 = .ok (.return_, 1) := by decide +kernel
theorem d_qh_bind_0 : decode qh_bind_c 0 = .ok (.aload_n 0, 1) := by decide +kernel
theorem d_qh_bind_1 : decode qh_bind_c 1 = .ok (.iload_n 1, 1) := by decide +kernel
theorem d_qh_bind_2 : decode qh_bind_c 2 = .ok (.iload_n 2, 1) := by decide +kernel
theorem d_qh_bind_3 : decode qh_bind_c 3 = .ok (.invokevirtual 81, 3) := by decide +kernel
theorem d_qh_bind_6 : decode qh_bind_c 6 = .ok (.istore 5, 2) := by decide +kernel
theorem d_qh_bind_8 : decode qh_bind_c 8 = .ok (.iload 5, 2) := by decide +kernel
theorem d_qh_bind_10 : decode qh_bind_c 10 = .ok (.iconst (-1), 1) := by decide +kernel
theorem d_qh_bind_11 : decode qh_bind_c 11 = .ok (.if_icmp .eq 18, 3) := by decide +kernel
theorem d_qh_bind_14 : decode qh_bind_c 14 = .ok (.aload_n 0, 1) := by decide +kernel
theorem d_qh_bind_15 : decode qh_bind_c 15 = .ok (.iload 5, 2) := by decide +kernel
theorem d_qh_bind_17 : decode qh_bind_c 17 = .ok (.lload_n 3, 1) := by decide +kernel
theorem d_qh_bind_18 : decode qh_bind_c 18 = .ok (.aload_n 0, 1) := by decide +kernel
theorem d_qh_bind_19 : decode qh_bind_c 19 = .ok (.iload 5, 2) := by decide +kernel
theorem d_qh_bind_21 : decode qh_bind_c 21 = .ok (.invokevirtual 61, 3) := by decide +kernel
theorem d_qh_bind_24 : decode qh_bind_c 24 = .ok (.invokevirtual 25, 3) := by decide +kernel
theorem d_qh_bind_27 : decode qh_bind_c 27 = .ok (.iconst 1, 1) := by decide +kernel
theorem d_qh_bind_28 : decode qh_bind_c 28 = .ok (.ireturn, 1) := by decide +kernel
theorem d_qh_bind_29 : decode qh_bind_c 29 = .ok (.aload_n 0, 1) := by decide +kernel
theorem d_qh_bind_30 : decode qh_bind_c 30 = .ok (.iload_n 1, 1) := by decide +kernel
theorem d_qh_bind_31 : decode qh_bind_c 31 = .ok (.iload_n 2, 1) := by decide +kernel
theorem d_qh_bind_32 : decode qh_bind_c 32 = .ok (.lload_n 3, 1) := by decide +kernel
theorem d_qh_bind_33 : decode qh_bind_c 33 = .ok (.invokevirtual 88, 3) := by decide +kernel
theorem d_qh_bind_36 : decode qh_bind_c 36 = .ok (.ireturn, 1) := by decide +kernel
theorem d_qn_bindCurrent_0 : decode qn_bindCurrent_c 0 = .ok (.aload_n 0, 1) := by decide +kernel
theorem d_qn_bindCurrent_1 : decode qn_bindCurrent_c 1 = .ok (.getfield 9, 3) := by decide +kernel
theorem d_qn_bindCurrent_4 : decode qn_bindCurrent_c 4 = .ok (.iload_n 1, 1) := by decide +kernel
theorem d_qn_bindCurrent_5 : decode qn_bindCurrent_c 5 = .ok (.aload_n 0, 1) := by decide +kernel
theorem d_qn_bindCurrent_6 : decode qn_bindCurrent_c 6 = .ok (.getfield 9, 3) := by decide +kernel
theorem d_qn_bindCurrent_9 : decode qn_bindCurrent_c 9 = .ok (.lload_n 2, 1) := by decide +kernel
theorem d_qn_bindCurrent_10 : decode qn_bindCurrent_c 10 = .ok (.invokevirtual 120, 3) := by decide +kernel
theorem d_qn_bindCurrent_13 : decode qn_bindCurrent_c 13 = .ok (.invokestatic 88, 3) := by decide +kernel
theorem d_qn_bindCurrent_16 : decode qn_bindCurrent_c 16 = .ok (.aload_n 0, 1) := by decide +kernel
theorem d_qn_bindCurrent_17 : decode qn_bindCurrent_c 17 = .ok (.getfield 52, 3) := by decide +kernel
theorem d_qn_bindCurrent_20 : decode qn_bindCurrent_c 20 = .ok (.invokevirtual 310, 3) := by decide +kernel
theorem d_qn_bindCurrent_23 : decode qn_bindCurrent_c 23 = .ok (.ifCond .eq 13, 3) := by decide +kernel
theorem d_qn_bindCurrent_26 : decode qn_bindCurrent_c 26 = .ok (.aload_n 0, 1) := by decide +kernel
theorem d_qn_bindCurrent_27 : decode qn_bindCurrent_c 27 = .ok (.ldc2_w 281, 3) := by decide +kernel
theorem d_qn_bindCurrent_30 : decode qn_bindCurrent_c 30 = .ok (.invokevirtual 106, 3) := by decide +kernel
theorem d_qn_bindCurrent_33 : decode qn_bindCurrent_c 33 = .ok (.goto 9, 3) := by decide +kernel
theorem d_qn_bindCurrent_36 : decode qn_bindCurrent_c 36 = .ok (.aload_n 0, 1) := by decide +kernel
theorem d_qn_bindCurrent_37 : decode qn_bindCurrent_c 37 = .ok (.bipush (-5), 2) := by decide +kernel
theorem d_qn_bindCurrent_39 : decode qn_bindCurrent_c 39 = .ok (.invokevirtual 99, 3) := by decide +kernel
theorem d_qn_bindCurrent_42 : decode qn_bindCurrent_c 42 = .ok (.return_, 1) := by decide +kernel
theorem d_qn_takePlace_0 : decode qn_takePlace_c 0 = .ok (.aload_n 0, 1) := by decide +kernel
theorem d_qn_takePlace_1 : decode qn_takePlace_c 1 = .ok (.getfield 52, 3) := by decide +kernel
theorem d_qn_takePlace_4 : decode qn_takePlace_c 4 = .ok (.invokestatic 117, 3) := by decide +kernel
theorem d_qn_takePlace_7 : decode qn_takePlace_c 7 = .ok (.bipush 7, 2) := by decide +kernel
theorem d_qn_takePlace_9 : decode qn_takePlace_c 9 = .ok (.if_icmp .eq 12, 3) := by decide +kernel
theorem d_qn_takePlace_12 : decode qn_takePlace_c 12 = .ok (.aload_n 0, 1) := by decide +kernel
theorem d_qn_takePlace_13 : decode qn_takePlace_c 13 = .ok (.bipush (-8), 2) := by decide +kernel
theorem d_qn_takePlace_15 : decode qn_takePlace_c 15 = .ok (.invokevirtual 99, 3) := by decide +kernel
theorem d_qn_takePlace_18 : decode qn_takePlace_c 18 = .ok (.goto 23, 3) := by decide +kernel
theorem d_qn_takePlace_21 : decode qn_takePlace_c 21 = .ok (.aload_n 0, 1) := by decide +kernel
theorem d_qn_takePlace_22 : decode qn_takePlace_c 22 = .ok (.aload_n 0, 1) := by decide +kernel
theorem d_qn_takePlace_23 : decode qn_takePlace_c 23 = .ok (.getfield 9, 3) := by decide +kernel
theorem d_qn_takePlace_26 : decode qn_takePlace_c 26 = .ok (.lload_n 1, 1) := by decide +kernel
theorem d_qn_takePlace_27 : decode qn_takePlace_c 27 = .ok (.iconst 1, 1) := by decide +kernel
theorem d_qn_takePlace_28 : decode qn_takePlace_c 28 = .ok (.invokevirtual 286, 3) := by decide +kernel
theorem d_qn_takePlace_31 : decode qn_takePlace_c 31 = .ok (.iconst 5, 1) := by decide +kernel
theorem d_qn_takePlace_32 : decode qn_takePlace_c 32 = .ok (.lload_n 1, 1) := by decide +kernel
theorem d_qn_takePlace_33 : decode qn_takePlace_c 33 = .ok (.aload_n 0, 1) := by decide +kernel
theorem d_qn_takePlace_34 : decode qn_takePlace_c 34 = .ok (.getfield 52, 3) := by decide +kernel
theorem d_qn_takePlace_37 : decode qn_takePlace_c 37 = .ok (.iconst 0, 1) := by decide +kernel
theorem d_qn_takePlace_38 : decode qn_takePlace_c 38 = .ok (.invokevirtual 127, 3) := by decide +kernel
theorem d_qn_takePlace_41 : decode qn_takePlace_c 41 = .ok (.return_, 1) := by decide +kernel
theorem d_qn_returnCurrent_0 : decode qn_returnCurrent_c 0 = .ok (.aload_n 0, 1) := by decide +kernel
theorem d_qn_returnCurrent_1 : decode qn_returnCurrent_c 1 = .ok (.getfield 27, 3) := by decide +kernel
theorem d_qn_returnCurrent_4 : decode qn_returnCurrent_c 4 = .ok (.invokevirtual 152, 3) := by decide +kernel
theorem d_qn_returnCurrent_7 : decode qn_returnCurrent_c 7 = .ok (.ifCond .eq 9, 3) := by decide +kernel
theorem d_qn_returnCurrent_10 : decode qn_returnCurrent_c 10 = .ok (.aload_n 0, 1) := by decide +kernel
theorem d_qn_returnCurrent_11 : decode qn_returnCurrent_c 11 = .ok (.iconst 4, 1) := by decide +kernel
theorem d_qn_returnCurrent_12 : decode qn_returnCurrent_c 12 = .ok (.putfield 45, 3) := by decide +kernel
theorem d_qn_returnCurrent_15 : decode qn_returnCurrent_c 15 = .ok (.return_, 1) := by decide +kernel
theorem d_qn_returnCurrent_16 : decode qn_returnCurrent_c 16 = .ok (.aload_n 0, 1) := by decide +kernel
theorem d_qn_returnCurrent_17 : decode qn_returnCurrent_c 17 = .ok (.getfield 27, 3) := by decide +kernel
theorem d_qn_returnCurrent_20 : decode qn_returnCurrent_c 20 = .ok (.invokevirtual 156, 3) := by decide +kernel
theorem d_qn_returnCurrent_23 : decode qn_returnCurrent_c 23 = .ok (.aload_n 0, 1) := by decide +kernel
theorem d_qn_returnCurrent_24 : decode qn_returnCurrent_c 24 = .ok (.aload_n 0, 1) := by decide +kernel
theorem d_qn_returnCurrent_25 : decode qn_returnCurrent_c 25 = .ok (.getfield 27, 3) := by decide +kernel
theorem d_qn_returnCurrent_28 : decode qn_returnCurrent_c 28 = .ok (.invokevirtual 159, 3) := by decide +kernel
theorem d_qn_returnCurrent_31 : decode qn_returnCurrent_c 31 = .ok (.putfield 61, 3) := by decide +kernel
theorem d_qn_returnCurrent_34 : decode qn_returnCurrent_c 34 = .ok (.aload_n 0, 1) := by decide +kernel
theorem d_qn_returnCurrent_35 : decode qn_returnCurrent_c 35 = .ok (.getfield 27, 3) := by decide +kernel
theorem d_qn_returnCurrent_38 : decode qn_returnCurrent_c 38 = .ok (.invokevirtual 161, 3) := by decide +kernel
theorem d_qn_returnCurrent_41 : decode qn_returnCurrent_c 41 = .ok (.lstore_n 1, 1) := by decide +kernel
theorem d_qn_returnCurrent_42 : decode qn_returnCurrent_c 42 = .ok (.aload_n 0, 1) := by decide +kernel
theorem d_qn_returnCurrent_43 : decode qn_returnCurrent_c 43 = .ok (.getfield 27, 3) := by decide +kernel
theorem d_qn_returnCurrent_46 : decode qn_returnCurrent_c 46 = .ok (.invokevirtual 165, 3) := by decide +kernel
theorem d_qn_returnCurrent_49 : decode qn_returnCurrent_c 49 = .ok (.tableswitch 123 0 6 #[43, 55, 77, 85, 97, 105, 123], 43) := by decide +kernel
theorem d_qn_returnCurrent_92 : decode qn_returnCurrent_c 92 = .ok (.aload_n 0, 1) := by decide +kernel
theorem d_qn_returnCurrent_93 : decode qn_returnCurrent_c 93 = .ok (.aload_n 0, 1) := by decide +kernel
theorem d_qn_returnCurrent_94 : decode qn_returnCurrent_c 94 = .ok (.getfield 52, 3) := by decide +kernel
theorem d_qn_returnCurrent_97 : decode qn_returnCurrent_c 97 = .ok (.lload_n 1, 1) := by decide +kernel
theorem d_qn_returnCurrent_98 : decode qn_returnCurrent_c 98 = .ok (.invokevirtual 168, 3) := by decide +kernel
theorem d_qn_returnCurrent_101 : decode qn_returnCurrent_c 101 = .ok (.goto 76, 3) := by decide +kernel
theorem d_qn_returnCurrent_104 : decode qn_returnCurrent_c 104 = .ok (.aload_n 0, 1) := by decide +kernel
theorem d_qn_returnCurrent_105 : decode qn_returnCurrent_c 105 = .ok (.lload_n 1, 1) := by decide +kernel
theorem d_qn_returnCurrent_106 : decode qn_returnCurrent_c 106 = .ok (.aload_n 0, 1) := by decide +kernel
theorem d_qn_returnCurrent_107 : decode qn_returnCurrent_c 107 = .ok (.getfield 27, 3) := by decide +kernel
theorem d_qn_returnCurrent_110 : decode qn_returnCurrent_c 110 = .ok (.invokevirtual 172, 3) := by decide +kernel
theorem d_qn_returnCurrent_113 : decode qn_returnCurrent_c 113 = .ok (.aload_n 0, 1) := by decide +kernel
theorem d_qn_returnCurrent_114 : decode qn_returnCurrent_c 114 = .ok (.getfield 27, 3) := by decide +kernel
theorem d_qn_returnCurrent_117 : decode qn_returnCurrent_c 117 = .ok (.invokevirtual 175, 3) := by decide +kernel
theorem d_qn_returnCurrent_120 : decode qn_returnCurrent_c 120 = .ok (.invokevirtual 178, 3) := by decide +kernel
theorem d_qn_returnCurrent_123 : decode qn_returnCurrent_c 123 = .ok (.goto 54, 3) := by decide +kernel
theorem d_qn_returnCurrent_126 : decode qn_returnCurrent_c 126 = .ok (.aload_n 0, 1) := by decide +kernel
theorem d_qn_returnCurrent_127 : decode qn_returnCurrent_c 127 = .ok (.lload_n 1, 1) := by decide +kernel
theorem d_qn_returnCurrent_128 : decode qn_returnCurrent_c 128 = .ok (.invokevirtual 182, 3) := by decide +kernel
theorem d_qn_returnCurrent_131 : decode qn_returnCurrent_c 131 = .ok (.goto 46, 3) := by decide +kernel
theorem d_qn_returnCurrent_134 : decode qn_returnCurrent_c 134 = .ok (.aload_n 0, 1) := by decide +kernel
theorem d_qn_returnCurrent_135 : decode qn_returnCurrent_c 135 = .ok (.aload_n 0, 1) := by decide +kernel
theorem d_qn_returnCurrent_136 : decode qn_returnCurrent_c 136 = .ok (.getfield 61, 3) := by decide +kernel
theorem d_qn_returnCurrent_139 : decode qn_returnCurrent_c 139 = .ok (.lload_n 1, 1) := by decide +kernel
theorem d_qn_returnCurrent_140 : decode qn_returnCurrent_c 140 = .ok (.invokevirtual 185, 3) := by decide +kernel
theorem d_qn_returnCurrent_143 : decode qn_returnCurrent_c 143 = .ok (.goto 34, 3) := by decide +kernel
theorem d_qn_returnCurrent_146 : decode qn_returnCurrent_c 146 = .ok (.aload_n 0, 1) := by decide +kernel
theorem d_qn_returnCurrent_147 : decode qn_returnCurrent_c 147 = .ok (.lload_n 1, 1) := by decide +kernel
theorem d_qn_returnCurrent_148 : decode qn_returnCurrent_c 148 = .ok (.invokevirtual 189, 3) := by decide +kernel
theorem d_qn_returnCurrent_151 : decode qn_returnCurrent_c 151 = .ok (.goto 26, 3) := by decide +kernel
theorem d_qn_returnCurrent_154 : decode qn_returnCurrent_c 154 = .ok (.aload_n 0, 1) := by decide +kernel
theorem d_qn_returnCurrent_155 : decode qn_returnCurrent_c 155 = .ok (.aload_n 0, 1) := by decide +kernel
theorem d_qn_returnCurrent_156 : decode qn_returnCurrent_c 156 = .ok (.getfield 27, 3) := by decide +kernel
theorem d_qn_returnCurrent_159 : decode qn_returnCurrent_c 159 = .ok (.invokevirtual 172, 3) := by decide +kernel
theorem d_qn_returnCurrent_162 : decode qn_returnCurrent_c 162 = .ok (.invokestatic 88, 3) := by decide +kernel
theorem d_qn_returnCurrent_165 : decode qn_returnCurrent_c 165 = .ok (.lload_n 1, 1) := by decide +kernel
theorem d_qn_returnCurrent_166 : decode qn_returnCurrent_c 166 = .ok (.invokevirtual 185, 3) := by decide +kernel
theorem d_qn_returnCurrent_169 : decode qn_returnCurrent_c 169 = .ok (.goto 8, 3) := by decide +kernel
theorem d_qn_returnCurrent_172 : decode qn_returnCurrent_c 172 = .ok (.aload_n 0, 1) := by decide +kernel
theorem d_qn_returnCurrent_173 : decode qn_returnCurrent_c 173 = .ok (.lload_n 1, 1) := by decide +kernel
theorem d_qn_returnCurrent_174 : decode qn_returnCurrent_c 174 = .ok (.invokevirtual 192, 3) := by decide +kernel
theorem d_qn_returnCurrent_177 : decode qn_returnCurrent_c 177 = .ok (.return_, 1) := by decide +kernel
theorem d_qn_run_0 : decode qn_run_c 0 = .ok (.aload_n 0, 1) := by decide +kernel
theorem d_qn_run_1 : decode qn_run_c 1 = .ok (.invokevirtual 35, 3) := by decide +kernel
theorem d_qn_run_4 : decode qn_run_c 4 = .ok (.aload_n 0, 1) := by decide +kernel
theorem d_qn_run_5 : decode qn_run_c 5 = .ok (.iload 4, 2) := by decide +kernel
theorem d_qn_run_7 : decode qn_run_c 7 = .ok (.putfield 67, 3) := by decide +kernel
theorem d_qn_run_10 : decode qn_run_c 10 = .ok (.aload_n 0, 1) := by decide +kernel
theorem d_qn_run_11 : decode qn_run_c 11 = .ok (.iload_n 3, 1) := by decide +kernel
theorem d_qn_run_12 : decode qn_run_c 12 = .ok (.putfield 61, 3) := by decide +kernel
theorem d_qn_run_15 : decode qn_run_c 15 = .ok (.aload_n 0, 1) := by decide +kernel
theorem d_qn_run_16 : decode qn_run_c 16 = .ok (.lload_n 1, 1) := by decide +kernel
theorem d_qn_run_17 : decode qn_run_c 17 = .ok (.invokevirtual 77, 3) := by decide +kernel
theorem d_qn_run_20 : decode qn_run_c 20 = .ok (.iconst 0, 1) := by decide +kernel
theorem d_qn_run_21 : decode qn_run_c 21 = .ok (.istore 5, 2) := by decide +kernel
theorem d_qn_run_23 : decode qn_run_c 23 = .ok (.iload 5, 2) := by decide +kernel
theorem d_qn_run_25 : decode qn_run_c 25 = .ok (.ldc 81, 2) := by decide +kernel
theorem d_qn_run_27 : decode qn_run_c 27 = .ok (.if_icmp .ge 83, 3) := by decide +kernel
theorem d_qn_run_30 : decode qn_run_c 30 = .ok (.aload_n 0, 1) := by decide +kernel
theorem d_qn_run_31 : decode qn_run_c 31 = .ok (.getfield 45, 3) := by decide +kernel
theorem d_qn_run_34 : decode qn_run_c 34 = .ok (.iconst 4, 1) := by decide +kernel
theorem d_qn_run_35 : decode qn_run_c 35 = .ok (.if_icmp .eq 75, 3) := by decide +kernel
theorem d_qn_run_38 : decode qn_run_c 38 = .ok (.aload_n 0, 1) := by decide +kernel
theorem d_qn_run_39 : decode qn_run_c 39 = .ok (.getfield 45, 3) := by decide +kernel
theorem d_qn_run_42 : decode qn_run_c 42 = .ok (.tableswitch 58 0 3 #[30, 37, 44, 58], 30) := by decide +kernel
theorem d_qn_run_72 : decode qn_run_c 72 = .ok (.aload_n 0, 1) := by decide +kernel
theorem d_qn_run_73 : decode qn_run_c 73 = .ok (.invokevirtual 82, 3) := by decide +kernel
theorem d_qn_run_76 : decode qn_run_c 76 = .ok (.goto 28, 3) := by decide +kernel
theorem d_qn_run_79 : decode qn_run_c 79 = .ok (.aload_n 0, 1) := by decide +kernel
theorem d_qn_run_80 : decode qn_run_c 80 = .ok (.invokevirtual 85, 3) := by decide +kernel
theorem d_qn_run_83 : decode qn_run_c 83 = .ok (.goto 21, 3) := by decide +kernel
theorem d_qn_run_86 : decode qn_run_c 86 = .ok (.aload_n 0, 1) := by decide +kernel
theorem d_qn_run_87 : decode qn_run_c 87 = .ok (.aload_n 0, 1) := by decide +kernel
theorem d_qn_run_88 : decode qn_run_c 88 = .ok (.getfield 52, 3) := by decide +kernel
theorem d_qn_run_91 : decode qn_run_c 91 = .ok (.invokestatic 88, 3) := by decide +kernel
theorem d_qn_run_94 : decode qn_run_c 94 = .ok (.invokevirtual 92, 3) := by decide +kernel
theorem d_qn_run_97 : decode qn_run_c 97 = .ok (.goto 7, 3) := by decide +kernel
theorem d_qn_run_100 : decode qn_run_c 100 = .ok (.aload_n 0, 1) := by decide +kernel
theorem d_qn_run_101 : decode qn_run_c 101 = .ok (.invokevirtual 96, 3) := by decide +kernel
theorem d_qn_run_104 : decode qn_run_c 104 = .ok (.iinc 5 1, 3) := by decide +kernel
theorem d_qn_run_107 : decode qn_run_c 107 = .ok (.goto (-84), 3) := by decide +kernel
theorem d_qn_run_110 : decode qn_run_c 110 = .ok (.aload_n 0, 1) := by decide +kernel
theorem d_qn_run_111 : decode qn_run_c 111 = .ok (.getfield 70, 3) := by decide +kernel
theorem d_qn_run_114 : decode qn_run_c 114 = .ok (.ifCond .eq 10, 3) := by decide +kernel
theorem d_qn_run_117 : decode qn_run_c 117 = .ok (.aload_n 0, 1) := by decide +kernel
theorem d_qn_run_118 : decode qn_run_c 118 = .ok (.getfield 70, 3) := by decide +kernel
theorem d_qn_run_121 : decode qn_run_c 121 = .ok (.goto 7, 3) := by decide +kernel
theorem d_qn_run_124 : decode qn_run_c 124 = .ok (.aload_n 0, 1) := by decide +kernel
theorem d_qn_run_125 : decode qn_run_c 125 = .ok (.getfield 64, 3) := by decide +kernel
theorem d_qn_run_128 : decode qn_run_c 128 = .ok (.ireturn, 1) := by decide +kernel
theorem d_qn_answer_0 : decode qn_answer_c 0 = .ok (.aload_n 0, 1) := by decide +kernel
theorem d_qn_answer_1 : decode qn_answer_c 1 = .ok (.getfield 52, 3) := by decide +kernel
theorem d_qn_answer_4 : decode qn_answer_c 4 = .ok (.lreturn, 1) := by decide +kernel
theorem d_qx_evaluate_0 : decode qx_evaluate_c 0 = .ok (.aload_n 0, 1) := by decide +kernel
theorem d_qx_evaluate_1 : decode qx_evaluate_c 1 = .ok (.getfield 31, 3) := by decide +kernel
theorem d_qx_evaluate_4 : decode qx_evaluate_c 4 = .ok (.iconst 1, 1) := by decide +kernel
theorem d_qx_evaluate_5 : decode qx_evaluate_c 5 = .ok (.if_icmp .ge 6, 3) := by decide +kernel
theorem d_qx_evaluate_8 : decode qx_evaluate_c 8 = .ok (.bipush (-2), 2) := by decide +kernel
theorem d_qx_evaluate_10 : decode qx_evaluate_c 10 = .ok (.ireturn, 1) := by decide +kernel
theorem d_qx_evaluate_11 : decode qx_evaluate_c 11 = .ok (.aload_n 0, 1) := by decide +kernel
theorem d_qx_evaluate_12 : decode qx_evaluate_c 12 = .ok (.iconst 0, 1) := by decide +kernel
theorem d_qx_evaluate_13 : decode qx_evaluate_c 13 = .ok (.invokevirtual 71, 3) := by decide +kernel
theorem d_qx_evaluate_16 : decode qx_evaluate_c 16 = .ok (.lstore_n 1, 1) := by decide +kernel
theorem d_qx_evaluate_17 : decode qx_evaluate_c 17 = .ok (.aload_n 0, 1) := by decide +kernel
theorem d_qx_evaluate_18 : decode qx_evaluate_c 18 = .ok (.dup, 1) := by decide +kernel
theorem d_qx_evaluate_19 : decode qx_evaluate_c 19 = .ok (.getfield 31, 3) := by decide +kernel
theorem d_qx_evaluate_22 : decode qx_evaluate_c 22 = .ok (.iconst 1, 1) := by decide +kernel
theorem d_qx_evaluate_23 : decode qx_evaluate_c 23 = .ok (.isub, 1) := by decide +kernel
theorem d_qx_evaluate_24 : decode qx_evaluate_c 24 = .ok (.putfield 31, 3) := by decide +kernel
theorem d_qx_evaluate_27 : decode qx_evaluate_c 27 = .ok (.aload_n 0, 1) := by decide +kernel
theorem d_qx_evaluate_28 : decode qx_evaluate_c 28 = .ok (.getfield 23, 3) := by decide +kernel
theorem d_qx_evaluate_31 : decode qx_evaluate_c 31 = .ok (.lload_n 1, 1) := by decide +kernel
theorem d_qx_evaluate_32 : decode qx_evaluate_c 32 = .ok (.aload_n 0, 1) := by decide +kernel
theorem d_qx_evaluate_33 : decode qx_evaluate_c 33 = .ok (.getfield 35, 3) := by decide +kernel
theorem d_qx_evaluate_36 : decode qx_evaluate_c 36 = .ok (.aload_n 0, 1) := by decide +kernel
theorem d_qx_evaluate_37 : decode qx_evaluate_c 37 = .ok (.getfield 38, 3) := by decide +kernel
theorem d_qx_evaluate_40 : decode qx_evaluate_c 40 = .ok (.invokevirtual 135, 3) := by decide +kernel
theorem d_qx_evaluate_43 : decode qx_evaluate_c 43 = .ok (.istore_n 3, 1) := by decide +kernel
theorem d_qx_evaluate_44 : decode qx_evaluate_c 44 = .ok (.iload_n 3, 1) := by decide +kernel
theorem d_qx_evaluate_45 : decode qx_evaluate_c 45 = .ok (.ifCond .le 15, 3) := by decide +kernel
theorem d_qx_evaluate_48 : decode qx_evaluate_c 48 = .ok (.aload_n 0, 1) := by decide +kernel
theorem d_qx_evaluate_49 : decode qx_evaluate_c 49 = .ok (.aload_n 0, 1) := by decide +kernel
theorem d_qx_evaluate_50 : decode qx_evaluate_c 50 = .ok (.getfield 23, 3) := by decide +kernel
theorem d_qx_evaluate_53 : decode qx_evaluate_c 53 = .ok (.invokevirtual 139, 3) := by decide +kernel
theorem d_qx_evaluate_56 : decode qx_evaluate_c 56 = .ok (.invokevirtual 51, 3) := by decide +kernel
theorem d_qx_evaluate_59 : decode qx_evaluate_c 59 = .ok (.pop, 1) := by decide +kernel
theorem d_qx_evaluate_60 : decode qx_evaluate_c 60 = .ok (.iload_n 3, 1) := by decide +kernel
theorem d_qx_evaluate_61 : decode qx_evaluate_c 61 = .ok (.ireturn, 1) := by decide +kernel
theorem d_qx_useEnvironment_0 : decode qx_useEnvironment_c 0 = .ok (.aload_n 0, 1) := by decide +kernel
theorem d_qx_useEnvironment_1 : decode qx_useEnvironment_c 1 = .ok (.iconst 0, 1) := by decide +kernel
theorem d_qx_useEnvironment_2 : decode qx_useEnvironment_c 2 = .ok (.bipush 7, 2) := by decide +kernel
theorem d_qx_useEnvironment_4 : decode qx_useEnvironment_c 4 = .ok (.invokevirtual 94, 3) := by decide +kernel
theorem d_qx_useEnvironment_7 : decode qx_useEnvironment_c 7 = .ok (.istore_n 1, 1) := by decide +kernel
theorem d_qx_useEnvironment_8 : decode qx_useEnvironment_c 8 = .ok (.iload_n 1, 1) := by decide +kernel
theorem d_qx_useEnvironment_9 : decode qx_useEnvironment_c 9 = .ok (.ifCond .eq 5, 3) := by decide +kernel
theorem d_qx_useEnvironment_12 : decode qx_useEnvironment_c 12 = .ok (.iload_n 1, 1) := by decide +kernel
theorem d_qx_useEnvironment_13 : decode qx_useEnvironment_c 13 = .ok (.ireturn, 1) := by decide +kernel
theorem d_qx_useEnvironment_14 : decode qx_useEnvironment_c 14 = .ok (.aload_n 0, 1) := by decide +kernel
theorem d_qx_useEnvironment_15 : decode qx_useEnvironment_c 15 = .ok (.aload_n 0, 1) := by decide +kernel
theorem d_qx_useEnvironment_16 : decode qx_useEnvironment_c 16 = .ok (.iconst 0, 1) := by decide +kernel
theorem d_qx_useEnvironment_17 : decode qx_useEnvironment_c 17 = .ok (.invokevirtual 71, 3) := by decide +kernel
theorem d_qx_useEnvironment_20 : decode qx_useEnvironment_c 20 = .ok (.invokestatic 88, 3) := by decide +kernel
theorem d_qx_useEnvironment_23 : decode qx_useEnvironment_c 23 = .ok (.putfield 35, 3) := by decide +kernel
theorem d_qx_useEnvironment_26 : decode qx_useEnvironment_c 26 = .ok (.aload_n 0, 1) := by decide +kernel
theorem d_qx_useEnvironment_27 : decode qx_useEnvironment_c 27 = .ok (.dup, 1) := by decide +kernel
theorem d_qx_useEnvironment_28 : decode qx_useEnvironment_c 28 = .ok (.getfield 31, 3) := by decide +kernel
theorem d_qx_useEnvironment_31 : decode qx_useEnvironment_c 31 = .ok (.iconst 1, 1) := by decide +kernel
theorem d_qx_useEnvironment_32 : decode qx_useEnvironment_c 32 = .ok (.isub, 1) := by decide +kernel
theorem d_qx_useEnvironment_33 : decode qx_useEnvironment_c 33 = .ok (.putfield 31, 3) := by decide +kernel
theorem d_qx_useEnvironment_36 : decode qx_useEnvironment_c 36 = .ok (.aload_n 0, 1) := by decide +kernel
theorem d_qx_useEnvironment_37 : decode qx_useEnvironment_c 37 = .ok (.getfield 31, 3) := by decide +kernel
theorem d_qx_useEnvironment_40 : decode qx_useEnvironment_c 40 = .ok (.ireturn, 1) := by decide +kernel
theorem d_qx_useUser_0 : decode qx_useUser_c 0 = .ok (.aload_n 0, 1) := by decide +kernel
theorem d_qx_useUser_1 : decode qx_useUser_c 1 = .ok (.getfield 35, 3) := by decide +kernel
theorem d_qx_useUser_4 : decode qx_useUser_c 4 = .ok (.iconst 1, 1) := by decide +kernel
theorem d_qx_useUser_5 : decode qx_useUser_c 5 = .ok (.if_icmp .eq 7, 3) := by decide +kernel
theorem d_qx_useUser_8 : decode qx_useUser_c 8 = .ok (.iconst 1, 1) := by decide +kernel
theorem d_qx_useUser_9 : decode qx_useUser_c 9 = .ok (.goto 4, 3) := by decide +kernel
theorem d_qx_useUser_12 : decode qx_useUser_c 12 = .ok (.iconst 0, 1) := by decide +kernel
theorem d_qx_useUser_13 : decode qx_useUser_c 13 = .ok (.istore_n 1, 1) := by decide +kernel
theorem d_qx_useUser_14 : decode qx_useUser_c 14 = .ok (.aload_n 0, 1) := by decide +kernel
theorem d_qx_useUser_15 : decode qx_useUser_c 15 = .ok (.iconst 1, 1) := by decide +kernel
theorem d_qx_useUser_16 : decode qx_useUser_c 16 = .ok (.putfield 35, 3) := by decide +kernel
theorem d_qx_useUser_19 : decode qx_useUser_c 19 = .ok (.iload_n 1, 1) := by decide +kernel
theorem d_qx_useUser_20 : decode qx_useUser_c 20 = .ok (.ifCond .eq 7, 3) := by decide +kernel
theorem d_qx_useUser_23 : decode qx_useUser_c 23 = .ok (.iconst 1, 1) := by decide +kernel
theorem d_qx_useUser_24 : decode qx_useUser_c 24 = .ok (.goto 4, 3) := by decide +kernel
theorem d_qx_useUser_27 : decode qx_useUser_c 27 = .ok (.iconst 0, 1) := by decide +kernel
theorem d_qx_useUser_28 : decode qx_useUser_c 28 = .ok (.ireturn, 1) := by decide +kernel
theorem d_qx_setLimit_0 : decode qx_setLimit_c 0 = .ok (.iload_n 1, 1) := by decide +kernel
theorem d_qx_setLimit_1 : decode qx_setLimit_c 1 = .ok (.iconst 1, 1) := by decide +kernel
theorem d_qx_setLimit_2 : decode qx_setLimit_c 2 = .ok (.if_icmp .lt 10, 3) := by decide +kernel
theorem d_qx_setLimit_5 : decode qx_setLimit_c 5 = .ok (.iload_n 1, 1) := by decide +kernel
theorem d_qx_setLimit_6 : decode qx_setLimit_c 6 = .ok (.sipush 1500, 3) := by decide +kernel
theorem d_qx_setLimit_9 : decode qx_setLimit_c 9 = .ok (.if_icmp .le 5, 3) := by decide +kernel
theorem d_qx_setLimit_12 : decode qx_setLimit_c 12 = .ok (.iconst (-1), 1) := by decide +kernel
theorem d_qx_setLimit_13 : decode qx_setLimit_c 13 = .ok (.ireturn, 1) := by decide +kernel
theorem d_qx_setLimit_14 : decode qx_setLimit_c 14 = .ok (.aload_n 0, 1) := by decide +kernel
theorem d_qx_setLimit_15 : decode qx_setLimit_c 15 = .ok (.getfield 38, 3) := by decide +kernel
theorem d_qx_setLimit_18 : decode qx_setLimit_c 18 = .ok (.istore_n 2, 1) := by decide +kernel
theorem d_qx_setLimit_19 : decode qx_setLimit_c 19 = .ok (.aload_n 0, 1) := by decide +kernel
theorem d_qx_setLimit_20 : decode qx_setLimit_c 20 = .ok (.iload_n 1, 1) := by decide +kernel
theorem d_qx_setLimit_21 : decode qx_setLimit_c 21 = .ok (.putfield 38, 3) := by decide +kernel
theorem d_qx_setLimit_24 : decode qx_setLimit_c 24 = .ok (.iload_n 2, 1) := by decide +kernel
theorem d_qx_setLimit_25 : decode qx_setLimit_c 25 = .ok (.ireturn, 1) := by decide +kernel
theorem d_qn_stepCount_0 : decode qn_stepCount_c 0 = .ok (.aload_n 0, 1) := by decide +kernel
theorem d_qn_stepCount_1 : decode qn_stepCount_c 1 = .ok (.getfield 64, 3) := by decide +kernel
theorem d_qn_stepCount_4 : decode qn_stepCount_c 4 = .ok (.ireturn, 1) := by decide +kernel
theorem d_qf_greatestCount_0 : decode qf_greatestCount_c 0 = .ok (.aload_n 0, 1) := by decide +kernel
theorem d_qf_greatestCount_1 : decode qf_greatestCount_c 1 = .ok (.getfield 30, 3) := by decide +kernel
theorem d_qf_greatestCount_4 : decode qf_greatestCount_c 4 = .ok (.ireturn, 1) := by decide +kernel
theorem d_qn_mostFrames_0 : decode qn_mostFrames_c 0 = .ok (.aload_n 0, 1) := by decide +kernel
theorem d_qn_mostFrames_1 : decode qn_mostFrames_c 1 = .ok (.getfield 27, 3) := by decide +kernel
theorem d_qn_mostFrames_4 : decode qn_mostFrames_c 4 = .ok (.invokevirtual 73, 3) := by decide +kernel
theorem d_qn_mostFrames_7 : decode qn_mostFrames_c 7 = .ok (.ireturn, 1) := by decide +kernel
theorem d_qx_latest_0 : decode qx_latest_c 0 = .ok (.iload_n 1, 1) := by decide +kernel
theorem d_qx_latest_1 : decode qx_latest_c 1 = .ok (.ifCond .eq 10, 3) := by decide +kernel
theorem d_qx_latest_4 : decode qx_latest_c 4 = .ok (.iload_n 1, 1) := by decide +kernel
theorem d_qx_latest_5 : decode qx_latest_c 5 = .ok (.iconst 1, 1) := by decide +kernel
theorem d_qx_latest_6 : decode qx_latest_c 6 = .ok (.if_icmp .eq 5, 3) := by decide +kernel
theorem d_qx_latest_9 : decode qx_latest_c 9 = .ok (.iconst (-1), 1) := by decide +kernel
theorem d_qx_latest_10 : decode qx_latest_c 10 = .ok (.ireturn, 1) := by decide +kernel
theorem d_qx_latest_11 : decode qx_latest_c 11 = .ok (.iload_n 1, 1) := by decide +kernel
theorem d_qx_latest_12 : decode qx_latest_c 12 = .ok (.ifCond .ne 13, 3) := by decide +kernel
theorem d_qx_latest_15 : decode qx_latest_c 15 = .ok (.aload_n 0, 1) := by decide +kernel
theorem d_qx_latest_16 : decode qx_latest_c 16 = .ok (.getfield 23, 3) := by decide +kernel
theorem d_qx_latest_19 : decode qx_latest_c 19 = .ok (.invokevirtual 143, 3) := by decide +kernel
theorem d_qx_latest_22 : decode qx_latest_c 22 = .ok (.goto 10, 3) := by decide +kernel
theorem d_qx_latest_25 : decode qx_latest_c 25 = .ok (.aload_n 0, 1) := by decide +kernel
theorem d_qx_latest_26 : decode qx_latest_c 26 = .ok (.getfield 23, 3) := by decide +kernel
theorem d_qx_latest_29 : decode qx_latest_c 29 = .ok (.invokevirtual 146, 3) := by decide +kernel
theorem d_qx_latest_32 : decode qx_latest_c 32 = .ok (.ireturn, 1) := by decide +kernel
theorem d_qx_heapSize_0 : decode qx_heapSize_c 0 = .ok (.aload_n 0, 1) := by decide +kernel
theorem d_qx_heapSize_1 : decode qx_heapSize_c 1 = .ok (.getfield 12, 3) := by decide +kernel
theorem d_qx_heapSize_4 : decode qx_heapSize_c 4 = .ok (.invokevirtual 114, 3) := by decide +kernel
theorem d_qx_heapSize_7 : decode qx_heapSize_c 7 = .ok (.ireturn, 1) := by decide +kernel
end
section
theorem w_qh_write {Γ : cx_T} (C : cx_C Γ (qh_w (gK Γ)) qcl qh_R qh_write_c 6 none (0, 0)) (σ : qh_S) (a1 : Int32) (a2 : Int64) (a4 : Int64) : J Γ (qh_w (gK Γ)) qcl (QF Γ (qh_w (gK Γ)) qcl ovV) (shV (qh_write σ a1 a2 a4)) σ 0 [(0, .ref (kq (gK Γ) 15)), (1, .int a1), (2, .long a2), (4, .long a4)] [] := by
  unfold qh_write
  refine j_iload_n C d_qh_write_0 rfl 1 rfl ?_
  refine j_if_lt C d_qh_write_1 (tgt := 26) (by decide) rfl (fun c_1 => ?_) (fun c_1 => ?_)
  · refine J.pos shV c_1 ?_
    exact j_vret C d_qh_write_26
  · refine J.neg shV c_1 ?_
    refine j_iload_n C d_qh_write_4 rfl 1 rfl ?_
    refine j_sipush C d_qh_write_5 rfl kc_s_4100 ?_
    refine j_icmp_ge C d_qh_write_8 (tgt := 26) (by decide) rfl (fun c_2 => ?_) (fun c_2 => ?_)
    · refine J.pos shV c_2 ?_
      exact j_vret C d_qh_write_26
    · refine J.neg shV c_2 ?_
      refine j_aload_n C d_qh_write_11 rfl 0 rfl ?_
      refine qh_r_first C k_145 d_qh_write_12 rfl ?_
      refine j_iload_n C d_qh_write_15 rfl 1 rfl ?_
      refine j_lload_n C d_qh_write_16 rfl 2 rfl ?_
      refine qh_a_first C (in_a (M := 4100) c_1 c_2 (by decide) (Nat.le_of_ble_eq_true rfl)) d_qh_write_17 rfl ?_
      refine j_aload_n C d_qh_write_18 rfl 0 rfl ?_
      refine qh_r_second C k_146 d_qh_write_19 rfl ?_
      refine j_iload_n C d_qh_write_22 rfl 1 rfl ?_
      refine j_lload C d_qh_write_23 rfl 3 rfl ?_
      refine qh_a_second C (in_a (M := 4100) c_1 c_2 (by decide) (Nat.le_of_ble_eq_true rfl)) d_qh_write_25 rfl ?_
      exact j_vret C d_qh_write_26
theorem mc_qh_write (l : Launch) (K : kk_T) (σ : qh_S) (a1 : Int32) (a2 : Int64) (a4 : Int64) : MC l qh_write_y qh_write_c 6 none (0, 0) K (qh_w K) qcl σ [.ref (kq K 15), .int a1, .long a2, .long a4] none (qh_write σ a1 a2 a4) := mc_of (ov := ovV) (X := shV (qh_write σ a1 a2 a4)) (by decide +kernel) (Nat.le_of_ble_eq_true rfl) (fun _ => rfl) rfl (fun Γ e1 e2 C => by subst e1; subst e2; exact w_qh_write C σ a1 a2 a4)
theorem qh_write_I : ck_V qh_write_y qh_write_c 6 none 3 := ⟨k_125, k_96, by decide +kernel, k_124, k_0⟩
theorem w_qw_make {Γ : cx_T} (C : cx_C Γ qw_w qcl qw_R qw_make_c 3 (some .long) (0, 0)) (a0 : Int32) (a1 : Int64) : J Γ qw_w qcl (QF Γ qw_w qcl ovL) ((shP ()) (qw_make a0 a1)) () 0 [(0, .int a0), (1, .long a1)] [] := by
  unfold qw_make
  refine j_lload_n C d_qw_make_0 rfl 1 rfl ?_
  refine j_iconst C d_qw_make_1 rfl kc_i_4 ?_
  refine j_lshl C d_qw_make_2 rfl (kc_shl_4 _) ?_
  refine j_iload_n C d_qw_make_3 rfl 0 rfl ?_
  refine j_i2l C d_qw_make_4 rfl ?_
  refine j_lor C d_qw_make_5 rfl ?_
  exact j_lret C d_qw_make_6
theorem mc_qw_make (l : Launch) (K : kk_T) (a0 : Int32) (a1 : Int64) : MC l qw_make_y qw_make_c 3 (some .long) (0, 0) K qw_w qcl () [.int a0, .long a1] (some (.long (qw_make a0 a1))) () := mc_of (ov := ovL) (X := (shP ()) (qw_make a0 a1)) (by decide +kernel) (Nat.le_of_ble_eq_true rfl) (fun _ => rfl) rfl (fun Γ e1 e2 C => by subst e1; subst e2; exact w_qw_make C a0 a1)
theorem qw_make_I : ck_S qw_make_y qw_make_c 3 (some .long) 2 := ⟨k_128, k_97, by decide +kernel, k_127⟩
theorem w_qh_secondAt {Γ : cx_T} (C : cx_C Γ (qh_w (gK Γ)) qcl qh_R qh_secondAt_c 2 (some .long) (0, 0)) (σ : qh_S) (a1 : Int32) : J Γ (qh_w (gK Γ)) qcl (QF Γ (qh_w (gK Γ)) qcl ovL) ((shP σ) (qh_secondAt σ a1)) σ 0 [(0, .ref (kq (gK Γ) 15)), (1, .int a1)] [] := by
  unfold qh_secondAt
  refine j_iload_n C d_qh_secondAt_0 rfl 1 rfl ?_
  refine j_if_lt C d_qh_secondAt_1 (tgt := 20) (by decide) rfl (fun c_1 => ?_) (fun c_1 => ?_)
  · refine J.pos (shP σ) c_1 ?_
    refine j_ldc2 C d_qh_secondAt_20 rfl k_141 ?_
    exact j_lret C d_qh_secondAt_23
  · refine J.neg (shP σ) c_1 ?_
    refine j_iload_n C d_qh_secondAt_4 rfl 1 rfl ?_
    refine j_sipush C d_qh_secondAt_5 rfl kc_s_4100 ?_
    refine j_icmp_ge C d_qh_secondAt_8 (tgt := 20) (by decide) rfl (fun c_2 => ?_) (fun c_2 => ?_)
    · refine J.pos (shP σ) c_2 ?_
      refine j_ldc2 C d_qh_secondAt_20 rfl k_141 ?_
      exact j_lret C d_qh_secondAt_23
    · refine J.neg (shP σ) c_2 ?_
      refine j_aload_n C d_qh_secondAt_11 rfl 0 rfl ?_
      refine qh_r_second C k_146 d_qh_secondAt_12 rfl ?_
      refine j_iload_n C d_qh_secondAt_15 rfl 1 rfl ?_
      refine qh_l_second C (in_a (M := 4100) c_1 c_2 (by decide) (Nat.le_of_ble_eq_true rfl)) d_qh_secondAt_16 rfl rfl ?_
      refine j_goto C d_qh_secondAt_17 (tgt := 23) (by decide) ?_
      exact j_lret C d_qh_secondAt_23
theorem mc_qh_secondAt (l : Launch) (K : kk_T) (σ : qh_S) (a1 : Int32) : MC l qh_secondAt_y qh_secondAt_c 2 (some .long) (0, 0) K (qh_w K) qcl σ [.ref (kq K 15), .int a1] (some (.long (qh_secondAt σ a1))) σ := mc_of (ov := ovL) (X := (shP σ) (qh_secondAt σ a1)) (by decide +kernel) (Nat.le_of_ble_eq_true rfl) (fun _ => rfl) rfl (fun Γ e1 e2 C => by subst e1; subst e2; exact w_qh_secondAt C σ a1)
theorem qh_secondAt_I : ck_V qh_secondAt_y qh_secondAt_c 2 (some .long) 1 := ⟨k_140, k_96, by decide +kernel, k_139, k_3⟩
theorem w_qh_latestBindingOf {Γ : cx_T} (C : cx_C Γ (qh_w (gK Γ)) qcl qh_R qh_latestBindingOf_c 2 (some .int) (1, 21)) (σ : qh_S) (a1 : Int32) : J Γ (qh_w (gK Γ)) qcl (QF Γ (qh_w (gK Γ)) qcl ovI) ((shP σ) (qh_latestBindingOf σ a1)) σ 0 [(0, .ref (kq (gK Γ) 15)), (1, .int a1)] [] := by
  unfold qh_latestBindingOf
  refine j_aload_n C d_qh_latestBindingOf_0 rfl 0 rfl ?_
  refine j_iload_n C d_qh_latestBindingOf_1 rfl 1 rfl ?_
  refine cvr_qh_qh C (mc_qh_secondAt (gl Γ) (gK Γ) σ a1) qh_secondAt_I k_137 (by decide) d_qh_latestBindingOf_2 rfl (rest := []) rfl ⟨rfl, Nat.le_of_ble_eq_true rfl⟩ ?_
  refine j_l2i C d_qh_latestBindingOf_5 rfl ?_
  exact j_iret C d_qh_latestBindingOf_6
theorem mc_qh_latestBindingOf (l : Launch) (K : kk_T) (σ : qh_S) (a1 : Int32) : MC l qh_latestBindingOf_y qh_latestBindingOf_c 2 (some .int) (1, 21) K (qh_w K) qcl σ [.ref (kq K 15), .int a1] (some (.int (qh_latestBindingOf σ a1))) σ := mc_of (ov := ovI) (X := (shP σ) (qh_latestBindingOf σ a1)) (by decide +kernel) (Nat.le_of_ble_eq_true rfl) (fun _ => rfl) rfl (fun Γ e1 e2 C => by subst e1; subst e2; exact w_qh_latestBindingOf C σ a1)
theorem qh_latestBindingOf_I : ck_V qh_latestBindingOf_y qh_latestBindingOf_c 2 (some .int) 1 := ⟨k_136, k_96, by decide +kernel, k_135, k_2⟩
theorem w_qh_packLink {Γ : cx_T} (C : cx_C Γ qw_w qcl qh_R qh_packLink_c 2 (some .long) (0, 0)) (a0 : Int32) (a1 : Int32) : J Γ qw_w qcl (QF Γ qw_w qcl ovL) ((shP ()) (qh_packLink a0 a1)) () 0 [(0, .int a0), (1, .int a1)] [] := by
  unfold qh_packLink
  refine j_iload_n C d_qh_packLink_0 rfl 1 rfl ?_
  refine j_i2l C d_qh_packLink_1 rfl ?_
  refine j_bipush C d_qh_packLink_2 rfl kc_b_7 ?_
  refine j_lshl C d_qh_packLink_4 rfl (kc_shl_7 _) ?_
  refine j_iload_n C d_qh_packLink_5 rfl 0 rfl ?_
  refine j_i2l C d_qh_packLink_6 rfl ?_
  refine j_lor C d_qh_packLink_7 rfl ?_
  exact j_lret C d_qh_packLink_8
theorem mc_qh_packLink (l : Launch) (K : kk_T) (a0 : Int32) (a1 : Int32) : MC l qh_packLink_y qh_packLink_c 2 (some .long) (0, 0) K qw_w qcl () [.int a0, .int a1] (some (.long (qh_packLink a0 a1))) () := mc_of (ov := ovL) (X := (shP ()) (qh_packLink a0 a1)) (by decide +kernel) (Nat.le_of_ble_eq_true rfl) (fun _ => rfl) rfl (fun Γ e1 e2 C => by subst e1; subst e2; exact w_qh_packLink C a0 a1)
theorem qh_packLink_I : ck_S qh_packLink_y qh_packLink_c 2 (some .long) 2 := ⟨k_144, k_96, by decide +kernel, k_143⟩
theorem w_qh_bindInGround {Γ : cx_T} (C : cx_C Γ (qh_w (gK Γ)) qcl qh_R qh_bindInGround_c 5 none (2, 42)) (σ : qh_S) (a1 : Int32) (a2 : Int64) : J Γ (qh_w (gK Γ)) qcl (QF Γ (qh_w (gK Γ)) qcl ovV) (shV (qh_bindInGround σ a1 a2)) σ 0 [(0, .ref (kq (gK Γ) 15)), (1, .int a1), (2, .long a2)] [] := by
  unfold qh_bindInGround
  refine j_bipush C d_qh_bindInGround_0 rfl kc_b_50 ?_
  refine j_iload_n C d_qh_bindInGround_2 rfl 1 rfl ?_
  refine j_iadd C d_qh_bindInGround_3 rfl ?_
  refine j_istore C (lv' := [(4, .int ((50 : Int32) + a1)), (0, .ref (kq (gK Γ) 15)), (1, .int a1), (2, .long a2)]) d_qh_bindInGround_4 rfl (by decide) rfl ?_
  refine j_aload_n C d_qh_bindInGround_6 rfl 1 rfl ?_
  refine j_iload C d_qh_bindInGround_7 rfl 0 rfl ?_
  refine j_lload_n C d_qh_bindInGround_9 rfl 3 rfl ?_
  refine j_iload_n C d_qh_bindInGround_10 rfl 2 rfl ?_
  refine j_aload_n C d_qh_bindInGround_11 rfl 1 rfl ?_
  refine j_iconst C d_qh_bindInGround_12 rfl kc_i_0 ?_
  refine cvr_qh_qh C (mc_qh_latestBindingOf (gl Γ) (gK Γ) σ (0 : Int32)) qh_latestBindingOf_I k_133 (by decide) d_qh_bindInGround_13 rfl (rest := [.int a1, .long a2, .int ((50 : Int32) + a1), .ref (kq (gK Γ) 15)]) rfl ⟨rfl, Nat.le_of_ble_eq_true rfl⟩ ?_
  refine cs_qh C (mc_qh_packLink (gl Γ) (gK Γ) a1 (qh_latestBindingOf σ (0 : Int32))) qh_packLink_I k_142 (by decide) d_qh_bindInGround_16 rfl (rest := [.long a2, .int ((50 : Int32) + a1), .ref (kq (gK Γ) 15)]) rfl (Nat.le_of_ble_eq_true rfl) ?_
  refine cv0_qh_qh C (mc_qh_write (gl Γ) (gK Γ) σ ((50 : Int32) + a1) a2 (qh_packLink a1 (qh_latestBindingOf σ (0 : Int32)))) qh_write_I k_122 (by decide) d_qh_bindInGround_19 rfl (rest := []) rfl ⟨rfl, Nat.le_of_ble_eq_true rfl⟩ ?_
  refine j_aload_n C d_qh_bindInGround_22 rfl 1 rfl ?_
  refine j_iconst C d_qh_bindInGround_23 rfl kc_i_0 ?_
  refine j_ldc2 C d_qh_bindInGround_24 rfl k_121 ?_
  refine j_iload C d_qh_bindInGround_27 rfl 0 rfl ?_
  refine j_i2l C d_qh_bindInGround_29 rfl ?_
  refine cv0_qh_qh C (mc_qh_write (gl Γ) (gK Γ) (qh_write σ ((50 : Int32) + a1) a2 (qh_packLink a1 (qh_latestBindingOf σ (0 : Int32)))) (0 : Int32) (-1 : Int64) (Int32.toInt64 ((50 : Int32) + a1))) qh_write_I k_122 (by decide) d_qh_bindInGround_30 rfl (rest := []) rfl ⟨rfl, Nat.le_of_ble_eq_true rfl⟩ ?_
  exact j_vret C d_qh_bindInGround_33
theorem mc_qh_bindInGround (l : Launch) (K : kk_T) (σ : qh_S) (a1 : Int32) (a2 : Int64) : MC l qh_bindInGround_y qh_bindInGround_c 5 none (2, 42) K (qh_w K) qcl σ [.ref (kq K 15), .int a1, .long a2] none (qh_bindInGround σ a1 a2) := mc_of (ov := ovV) (X := shV (qh_bindInGround σ a1 a2)) (by decide +kernel) (Nat.le_of_ble_eq_true rfl) (fun _ => rfl) rfl (fun Γ e1 e2 C => by subst e1; subst e2; exact w_qh_bindInGround C σ a1 a2)
theorem qh_bindInGround_I : ck_V qh_bindInGround_y qh_bindInGround_c 5 none 2 := ⟨k_132, k_96, by decide +kernel, k_131, k_1⟩
theorem w_qh_restoreGround_L54 {Γ : cx_T} (C : cx_C Γ (qh_w (gK Γ)) qcl qh_R qh_restoreGround_c 2 none (3, 66)) (N : Nat) : ∀ (k : Nat) (σ : qh_S) (x1 : Int32), J Γ (qh_w (gK Γ)) qcl (QF Γ (qh_w (gK Γ)) qcl ovV) (shU (qh_restoreGround_L54 N k σ x1)) σ 54 [(0, .ref (kq (gK Γ) 15)), (1, .int x1)] [] := by
  intro k
  induction k with
  | zero => intro σ x1; exact J.none rfl
  | succ k ih =>
    intro σ x1
    rw [qh_restoreGround_L54]
    refine j_iload_n C d_qh_restoreGround_54 rfl 1 rfl ?_
    refine j_bipush C d_qh_restoreGround_55 rfl kc_b_25 ?_
    refine j_icmp_gt C d_qh_restoreGround_57 (tgt := 90) (by decide) rfl (fun c_2 => ?_) (fun c_2 => ?_)
    · refine J.pos shU c_2 ?_
      exact j_vret C d_qh_restoreGround_90
    · refine J.neg shU c_2 ?_
      refine j_aload_n C d_qh_restoreGround_60 rfl 0 rfl ?_
      refine j_iload_n C d_qh_restoreGround_61 rfl 1 rfl ?_
      refine j_iconst C d_qh_restoreGround_62 rfl kc_i_5 ?_
      refine j_iload_n C d_qh_restoreGround_63 rfl 1 rfl ?_
      refine j_i2l C d_qh_restoreGround_64 rfl ?_
      refine cs_qh C (mc_qw_make (gl Γ) (gK Γ) (5 : Int32) (Int32.toInt64 x1)) qw_make_I k_126 (by decide) d_qh_restoreGround_65 rfl (rest := [.int x1, .ref (kq (gK Γ) 15)]) rfl (Nat.le_of_ble_eq_true rfl) ?_
      refine j_lconst C d_qh_restoreGround_68 rfl kc_l_0 ?_
      refine cv0_qh_qh C (mc_qh_write (gl Γ) (gK Γ) σ x1 (qw_make (5 : Int32) (Int32.toInt64 x1)) (0 : Int64)) qh_write_I k_122 (by decide) d_qh_restoreGround_69 rfl (rest := []) rfl ⟨rfl, Nat.le_of_ble_eq_true rfl⟩ ?_
      refine j_aload_n C d_qh_restoreGround_72 rfl 0 rfl ?_
      refine j_iload_n C d_qh_restoreGround_73 rfl 1 rfl ?_
      refine j_bipush C d_qh_restoreGround_74 rfl kc_b_6 ?_
      refine j_iload_n C d_qh_restoreGround_76 rfl 1 rfl ?_
      refine j_i2l C d_qh_restoreGround_77 rfl ?_
      refine cs_qh C (mc_qw_make (gl Γ) (gK Γ) (6 : Int32) (Int32.toInt64 x1)) qw_make_I k_126 (by decide) d_qh_restoreGround_78 rfl (rest := [.int x1, .ref (kq (gK Γ) 15)]) rfl (Nat.le_of_ble_eq_true rfl) ?_
      refine cv0_qh_qh C (mc_qh_bindInGround (gl Γ) (gK Γ) (qh_write σ x1 (qw_make (5 : Int32) (Int32.toInt64 x1)) (0 : Int64)) x1 (qw_make (6 : Int32) (Int32.toInt64 x1))) qh_bindInGround_I k_129 (by decide) d_qh_restoreGround_81 rfl (rest := []) rfl ⟨rfl, Nat.le_of_ble_eq_true rfl⟩ ?_
      refine j_iinc C (v := (x1 + (1 : Int32))) (lv' := [(1, .int (x1 + (1 : Int32))), (0, .ref (kq (gK Γ) 15))]) d_qh_restoreGround_84 rfl 1 rfl (kc_inc_1 _) (by decide) rfl ?_
      refine j_goto C d_qh_restoreGround_87 (tgt := 54) (by decide) ?_
      refine J.loc (lv' := [(0, .ref (kq (gK Γ) 15)), (1, .int (x1 + (1 : Int32)))]) [1, 0] rfl ?_
      exact ih (qh_bindInGround (qh_write σ x1 (qw_make (5 : Int32) (Int32.toInt64 x1)) (0 : Int64)) x1 (qw_make (6 : Int32) (Int32.toInt64 x1))) (x1 + (1 : Int32))
theorem w_qh_restoreGround_L28 {Γ : cx_T} (C : cx_C Γ (qh_w (gK Γ)) qcl qh_R qh_restoreGround_c 2 none (3, 66)) (N : Nat) : ∀ (k : Nat) (σ : qh_S) (x1 : Int32), J Γ (qh_w (gK Γ)) qcl (QF Γ (qh_w (gK Γ)) qcl ovV) (shU (qh_restoreGround_L28 N k σ x1)) σ 28 [(0, .ref (kq (gK Γ) 15)), (1, .int x1)] [] := by
  intro k
  induction k with
  | zero => intro σ x1; exact J.none rfl
  | succ k ih =>
    intro σ x1
    rw [qh_restoreGround_L28]
    refine j_iload_n C d_qh_restoreGround_28 rfl 1 rfl ?_
    refine j_bipush C d_qh_restoreGround_29 rfl kc_b_7 ?_
    refine j_icmp_gt C d_qh_restoreGround_31 (tgt := 51) (by decide) rfl (fun c_1 => ?_) (fun c_1 => ?_)
    · refine J.pos shU c_1 ?_
      refine j_bipush C d_qh_restoreGround_51 rfl kc_b_10 ?_
      refine j_istore_n C (lv' := [(1, .int (10 : Int32)), (0, .ref (kq (gK Γ) 15))]) d_qh_restoreGround_53 rfl rfl (by decide) rfl ?_
      refine J.loc (lv' := [(0, .ref (kq (gK Γ) 15)), (1, .int (10 : Int32))]) [1, 0] rfl ?_
      exact w_qh_restoreGround_L54 C N N σ (10 : Int32)
    · refine J.neg shU c_1 ?_
      refine j_aload_n C d_qh_restoreGround_34 rfl 0 rfl ?_
      refine j_iload_n C d_qh_restoreGround_35 rfl 1 rfl ?_
      refine j_iconst C d_qh_restoreGround_36 rfl kc_i_5 ?_
      refine j_iload_n C d_qh_restoreGround_37 rfl 1 rfl ?_
      refine j_i2l C d_qh_restoreGround_38 rfl ?_
      refine cs_qh C (mc_qw_make (gl Γ) (gK Γ) (5 : Int32) (Int32.toInt64 x1)) qw_make_I k_126 (by decide) d_qh_restoreGround_39 rfl (rest := [.int x1, .ref (kq (gK Γ) 15)]) rfl (Nat.le_of_ble_eq_true rfl) ?_
      refine cv0_qh_qh C (mc_qh_bindInGround (gl Γ) (gK Γ) σ x1 (qw_make (5 : Int32) (Int32.toInt64 x1))) qh_bindInGround_I k_129 (by decide) d_qh_restoreGround_42 rfl (rest := []) rfl ⟨rfl, Nat.le_of_ble_eq_true rfl⟩ ?_
      refine j_iinc C (v := (x1 + (1 : Int32))) (lv' := [(1, .int (x1 + (1 : Int32))), (0, .ref (kq (gK Γ) 15))]) d_qh_restoreGround_45 rfl 1 rfl (kc_inc_1 _) (by decide) rfl ?_
      refine j_goto C d_qh_restoreGround_48 (tgt := 28) (by decide) ?_
      refine J.loc (lv' := [(0, .ref (kq (gK Γ) 15)), (1, .int (x1 + (1 : Int32)))]) [1, 0] rfl ?_
      exact ih (qh_bindInGround σ x1 (qw_make (5 : Int32) (Int32.toInt64 x1))) (x1 + (1 : Int32))
theorem w_qh_restoreGround {Γ : cx_T} (C : cx_C Γ (qh_w (gK Γ)) qcl qh_R qh_restoreGround_c 2 none (3, 66)) (N : Nat) (σ : qh_S)  : J Γ (qh_w (gK Γ)) qcl (QF Γ (qh_w (gK Γ)) qcl ovV) (shU (qh_restoreGround N σ)) σ 0 [(0, .ref (kq (gK Γ) 15))] [] := by
  unfold qh_restoreGround
  refine j_aload_n C d_qh_restoreGround_0 rfl 0 rfl ?_
  refine j_bipush C d_qh_restoreGround_1 rfl kc_b_100 ?_
  refine qh_p_nextRow C k_147 d_qh_restoreGround_3 rfl ?_
  refine j_aload_n C d_qh_restoreGround_6 rfl 0 rfl ?_
  refine j_iconst C d_qh_restoreGround_7 rfl kc_i_0 ?_
  refine j_ldc2 C d_qh_restoreGround_8 rfl k_121 ?_
  refine j_ldc2 C d_qh_restoreGround_11 rfl k_121 ?_
  refine cv0_qh_qh C (mc_qh_write (gl Γ) (gK Γ) (qh_s_nextRow σ (100 : Int32)) (0 : Int32) (-1 : Int64) (-1 : Int64)) qh_write_I k_122 (by decide) d_qh_restoreGround_14 rfl (rest := []) rfl ⟨rfl, Nat.le_of_ble_eq_true rfl⟩ ?_
  refine j_aload_n C d_qh_restoreGround_17 rfl 0 rfl ?_
  refine j_iconst C d_qh_restoreGround_18 rfl kc_i_1 ?_
  refine j_lconst C d_qh_restoreGround_19 rfl kc_l_0 ?_
  refine j_ldc2 C d_qh_restoreGround_20 rfl k_121 ?_
  refine cv0_qh_qh C (mc_qh_write (gl Γ) (gK Γ) (qh_write (qh_s_nextRow σ (100 : Int32)) (0 : Int32) (-1 : Int64) (-1 : Int64)) (1 : Int32) (0 : Int64) (-1 : Int64)) qh_write_I k_122 (by decide) d_qh_restoreGround_23 rfl (rest := []) rfl ⟨rfl, Nat.le_of_ble_eq_true rfl⟩ ?_
  refine j_iconst C d_qh_restoreGround_26 rfl kc_i_0 ?_
  refine j_istore_n C (lv' := [(1, .int (0 : Int32)), (0, .ref (kq (gK Γ) 15))]) d_qh_restoreGround_27 rfl rfl (by decide) rfl ?_
  refine J.loc (lv' := [(0, .ref (kq (gK Γ) 15)), (1, .int (0 : Int32))]) [1, 0] rfl ?_
  exact w_qh_restoreGround_L28 C N N (qh_write (qh_write (qh_s_nextRow σ (100 : Int32)) (0 : Int32) (-1 : Int64) (-1 : Int64)) (1 : Int32) (0 : Int64) (-1 : Int64)) (0 : Int32)
theorem mc_qh_restoreGround (l : Launch) (K : kk_T) (N : Nat) (σ : qh_S)  (r : qh_S) (h : qh_restoreGround N σ = some r) : MC l qh_restoreGround_y qh_restoreGround_c 2 none (3, 66) K (qh_w K) qcl σ [.ref (kq K 15)] none r := mc_of (ov := ovV) (X := shU (qh_restoreGround N σ)) (by decide +kernel) (Nat.le_of_ble_eq_true rfl) (fun _ => rfl) (by rw [h]; rfl) (fun Γ e1 e2 C => by subst e1; subst e2; exact w_qh_restoreGround C N σ)
theorem qh_restoreGround_I : ck_V qh_restoreGround_y qh_restoreGround_c 2 none 0 := ⟨k_120, k_96, by decide +kernel, k_118, k_119⟩
theorem w_qw_isInteger {Γ : cx_T} (C : cx_C Γ qw_w qcl qw_R qw_isInteger_c 2 (some .boolean) (0, 0)) (a0 : Int64) : J Γ qw_w qcl (QF Γ qw_w qcl ovI) ((shP ()) (qw_isInteger a0)) () 0 [(0, .long a0)] [] := by
  unfold qw_isInteger
  refine j_lload_n C d_qw_isInteger_0 rfl 0 rfl ?_
  refine j_ldc2 C d_qw_isInteger_1 rfl k_291 ?_
  refine j_lcmp_lt C d_qw_isInteger_4 d_qw_isInteger_5 (tgt := 20) (by decide) rfl (fun c_1 => ?_) (fun c_1 => ?_)
  · refine J.pos (shP ()) c_1 ?_
    refine j_iconst C d_qw_isInteger_20 rfl kc_i_0 ?_
    exact j_zret C rfl d_qw_isInteger_21
  · refine J.neg (shP ()) c_1 ?_
    refine j_lload_n C d_qw_isInteger_8 rfl 0 rfl ?_
    refine j_ldc2 C d_qw_isInteger_9 rfl k_292 ?_
    refine j_lcmp_gt C d_qw_isInteger_12 d_qw_isInteger_13 (tgt := 20) (by decide) rfl (fun c_2 => ?_) (fun c_2 => ?_)
    · refine J.pos (shP ()) c_2 ?_
      refine j_iconst C d_qw_isInteger_20 rfl kc_i_0 ?_
      exact j_zret C rfl d_qw_isInteger_21
    · refine J.neg (shP ()) c_2 ?_
      refine j_iconst C d_qw_isInteger_16 rfl kc_i_1 ?_
      refine j_goto C d_qw_isInteger_17 (tgt := 21) (by decide) ?_
      exact j_zret C rfl d_qw_isInteger_21
theorem mc_qw_isInteger (l : Launch) (K : kk_T) (a0 : Int64) : MC l qw_isInteger_y qw_isInteger_c 2 (some .boolean) (0, 0) K qw_w qcl () [.long a0] (some (.int (qw_isInteger a0))) () := mc_of (ov := ovI) (X := (shP ()) (qw_isInteger a0)) (by decide +kernel) (Nat.le_of_ble_eq_true rfl) (fun _ => rfl) rfl (fun Γ e1 e2 C => by subst e1; subst e2; exact w_qw_isInteger C a0)
theorem qw_isInteger_I : ck_S qw_isInteger_y qw_isInteger_c 2 (some .boolean) 1 := ⟨k_290, k_97, by decide +kernel, k_289⟩
theorem w_qw_makeBoolean {Γ : cx_T} (C : cx_C Γ qw_w qcl qw_R qw_makeBoolean_c 1 (some .long) (1, 22)) (a0 : Int32) : J Γ qw_w qcl (QF Γ qw_w qcl ovL) ((shP ()) (qw_makeBoolean a0)) () 0 [(0, .int a0)] [] := by
  unfold qw_makeBoolean
  refine j_iconst C d_qw_makeBoolean_0 rfl kc_i_1 ?_
  refine j_iload_n C d_qw_makeBoolean_1 rfl 0 rfl ?_
  refine j_if_eq C d_qw_makeBoolean_2 (tgt := 9) (by decide) rfl (fun c_1 => ?_) (fun c_1 => ?_)
  · refine J.pos (shP ()) c_1 ?_
    refine j_lconst C d_qw_makeBoolean_9 rfl kc_l_0 ?_
    refine cs_qw C (mc_qw_make (gl Γ) (gK Γ) (1 : Int32) (0 : Int64)) qw_make_I k_305 (by decide) d_qw_makeBoolean_10 rfl (rest := []) rfl (Nat.le_of_ble_eq_true rfl) ?_
    exact j_lret C d_qw_makeBoolean_13
  · refine J.neg (shP ()) c_1 ?_
    refine j_lconst C d_qw_makeBoolean_5 rfl kc_l_1 ?_
    refine j_goto C d_qw_makeBoolean_6 (tgt := 10) (by decide) ?_
    refine cs_qw C (mc_qw_make (gl Γ) (gK Γ) (1 : Int32) (1 : Int64)) qw_make_I k_305 (by decide) d_qw_makeBoolean_10 rfl (rest := []) rfl (Nat.le_of_ble_eq_true rfl) ?_
    exact j_lret C d_qw_makeBoolean_13
theorem mc_qw_makeBoolean (l : Launch) (K : kk_T) (a0 : Int32) : MC l qw_makeBoolean_y qw_makeBoolean_c 1 (some .long) (1, 22) K qw_w qcl () [.int a0] (some (.long (qw_makeBoolean a0))) () := mc_of (ov := ovL) (X := (shP ()) (qw_makeBoolean a0)) (by decide +kernel) (Nat.le_of_ble_eq_true rfl) (fun _ => rfl) rfl (fun Γ e1 e2 C => by subst e1; subst e2; exact w_qw_makeBoolean C a0)
theorem qw_makeBoolean_I : ck_S qw_makeBoolean_y qw_makeBoolean_c 1 (some .long) 1 := ⟨k_304, k_97, by decide +kernel, k_303⟩
theorem w_qw_isSymbol {Γ : cx_T} (C : cx_C Γ qw_w qcl qw_R qw_isSymbol_c 1 (some .boolean) (0, 0)) (a0 : Int32) : J Γ qw_w qcl (QF Γ qw_w qcl ovI) ((shP ()) (qw_isSymbol a0)) () 0 [(0, .int a0)] [] := by
  unfold qw_isSymbol
  refine j_iload_n C d_qw_isSymbol_0 rfl 0 rfl ?_
  refine j_if_lt C d_qw_isSymbol_1 (tgt := 14) (by decide) rfl (fun c_1 => ?_) (fun c_1 => ?_)
  · refine J.pos (shP ()) c_1 ?_
    refine j_iconst C d_qw_isSymbol_14 rfl kc_i_0 ?_
    exact j_zret C rfl d_qw_isSymbol_15
  · refine J.neg (shP ()) c_1 ?_
    refine j_iload_n C d_qw_isSymbol_4 rfl 0 rfl ?_
    refine j_bipush C d_qw_isSymbol_5 rfl kc_b_100 ?_
    refine j_icmp_ge C d_qw_isSymbol_7 (tgt := 14) (by decide) rfl (fun c_2 => ?_) (fun c_2 => ?_)
    · refine J.pos (shP ()) c_2 ?_
      refine j_iconst C d_qw_isSymbol_14 rfl kc_i_0 ?_
      exact j_zret C rfl d_qw_isSymbol_15
    · refine J.neg (shP ()) c_2 ?_
      refine j_iconst C d_qw_isSymbol_10 rfl kc_i_1 ?_
      refine j_goto C d_qw_isSymbol_11 (tgt := 15) (by decide) ?_
      exact j_zret C rfl d_qw_isSymbol_15
theorem mc_qw_isSymbol (l : Launch) (K : kk_T) (a0 : Int32) : MC l qw_isSymbol_y qw_isSymbol_c 1 (some .boolean) (0, 0) K qw_w qcl () [.int a0] (some (.int (qw_isSymbol a0))) () := mc_of (ov := ovI) (X := (shP ()) (qw_isSymbol a0)) (by decide +kernel) (Nat.le_of_ble_eq_true rfl) (fun _ => rfl) rfl (fun Γ e1 e2 C => by subst e1; subst e2; exact w_qw_isSymbol C a0)
theorem qw_isSymbol_I : ck_S qw_isSymbol_y qw_isSymbol_c 1 (some .boolean) 1 := ⟨k_312, k_97, by decide +kernel, k_311⟩
theorem w_qw_kindOf {Γ : cx_T} (C : cx_C Γ qw_w qcl qw_R qw_kindOf_c 2 (some .int) (0, 0)) (a0 : Int64) : J Γ qw_w qcl (QF Γ qw_w qcl ovI) ((shP ()) (qw_kindOf a0)) () 0 [(0, .long a0)] [] := by
  unfold qw_kindOf
  refine j_lload_n C d_qw_kindOf_0 rfl 0 rfl ?_
  refine j_ldc2 C d_qw_kindOf_1 rfl k_342 ?_
  refine j_land C d_qw_kindOf_4 rfl ?_
  refine j_l2i C d_qw_kindOf_5 rfl ?_
  exact j_iret C d_qw_kindOf_6
theorem mc_qw_kindOf (l : Launch) (K : kk_T) (a0 : Int64) : MC l qw_kindOf_y qw_kindOf_c 2 (some .int) (0, 0) K qw_w qcl () [.long a0] (some (.int (qw_kindOf a0))) () := mc_of (ov := ovI) (X := (shP ()) (qw_kindOf a0)) (by decide +kernel) (Nat.le_of_ble_eq_true rfl) (fun _ => rfl) rfl (fun Γ e1 e2 C => by subst e1; subst e2; exact w_qw_kindOf C a0)
theorem qw_kindOf_I : ck_S qw_kindOf_y qw_kindOf_c 2 (some .int) 1 := ⟨k_341, k_97, by decide +kernel, k_340⟩
theorem w_qw_rowOf {Γ : cx_T} (C : cx_C Γ qw_w qcl qw_R qw_rowOf_c 2 (some .int) (0, 0)) (a0 : Int64) : J Γ qw_w qcl (QF Γ qw_w qcl ovI) ((shP ()) (qw_rowOf a0)) () 0 [(0, .long a0)] [] := by
  unfold qw_rowOf
  refine j_lload_n C d_qw_rowOf_0 rfl 0 rfl ?_
  refine j_iconst C d_qw_rowOf_1 rfl kc_i_4 ?_
  refine j_lshr C d_qw_rowOf_2 rfl (kc_shr_4 _) ?_
  refine j_l2i C d_qw_rowOf_3 rfl ?_
  exact j_iret C d_qw_rowOf_4
theorem mc_qw_rowOf (l : Launch) (K : kk_T) (a0 : Int64) : MC l qw_rowOf_y qw_rowOf_c 2 (some .int) (0, 0) K qw_w qcl () [.long a0] (some (.int (qw_rowOf a0))) () := mc_of (ov := ovI) (X := (shP ()) (qw_rowOf a0)) (by decide +kernel) (Nat.le_of_ble_eq_true rfl) (fun _ => rfl) rfl (fun Γ e1 e2 C => by subst e1; subst e2; exact w_qw_rowOf C a0)
theorem qw_rowOf_I : ck_S qw_rowOf_y qw_rowOf_c 2 (some .int) 1 := ⟨k_349, k_97, by decide +kernel, k_348⟩
theorem w_qh_firstAt {Γ : cx_T} (C : cx_C Γ (qh_w (gK Γ)) qcl qh_R qh_firstAt_c 2 (some .long) (0, 0)) (σ : qh_S) (a1 : Int32) : J Γ (qh_w (gK Γ)) qcl (QF Γ (qh_w (gK Γ)) qcl ovL) ((shP σ) (qh_firstAt σ a1)) σ 0 [(0, .ref (kq (gK Γ) 15)), (1, .int a1)] [] := by
  unfold qh_firstAt
  refine j_iload_n C d_qh_firstAt_0 rfl 1 rfl ?_
  refine j_if_lt C d_qh_firstAt_1 (tgt := 20) (by decide) rfl (fun c_1 => ?_) (fun c_1 => ?_)
  · refine J.pos (shP σ) c_1 ?_
    refine j_ldc2 C d_qh_firstAt_20 rfl k_141 ?_
    exact j_lret C d_qh_firstAt_23
  · refine J.neg (shP σ) c_1 ?_
    refine j_iload_n C d_qh_firstAt_4 rfl 1 rfl ?_
    refine j_sipush C d_qh_firstAt_5 rfl kc_s_4100 ?_
    refine j_icmp_ge C d_qh_firstAt_8 (tgt := 20) (by decide) rfl (fun c_2 => ?_) (fun c_2 => ?_)
    · refine J.pos (shP σ) c_2 ?_
      refine j_ldc2 C d_qh_firstAt_20 rfl k_141 ?_
      exact j_lret C d_qh_firstAt_23
    · refine J.neg (shP σ) c_2 ?_
      refine j_aload_n C d_qh_firstAt_11 rfl 0 rfl ?_
      refine qh_r_first C k_145 d_qh_firstAt_12 rfl ?_
      refine j_iload_n C d_qh_firstAt_15 rfl 1 rfl ?_
      refine qh_l_first C (in_a (M := 4100) c_1 c_2 (by decide) (Nat.le_of_ble_eq_true rfl)) d_qh_firstAt_16 rfl rfl ?_
      refine j_goto C d_qh_firstAt_17 (tgt := 23) (by decide) ?_
      exact j_lret C d_qh_firstAt_23
theorem mc_qh_firstAt (l : Launch) (K : kk_T) (σ : qh_S) (a1 : Int32) : MC l qh_firstAt_y qh_firstAt_c 2 (some .long) (0, 0) K (qh_w K) qcl σ [.ref (kq K 15), .int a1] (some (.long (qh_firstAt σ a1))) σ := mc_of (ov := ovL) (X := (shP σ) (qh_firstAt σ a1)) (by decide +kernel) (Nat.le_of_ble_eq_true rfl) (fun _ => rfl) rfl (fun Γ e1 e2 C => by subst e1; subst e2; exact w_qh_firstAt C σ a1)
theorem qh_firstAt_I : ck_V qh_firstAt_y qh_firstAt_c 2 (some .long) 1 := ⟨k_353, k_96, by decide +kernel, k_352, k_7⟩
theorem w_qh_carOf {Γ : cx_T} (C : cx_C Γ (qh_w (gK Γ)) qcl qh_R qh_carOf_c 3 (some .long) (1, 21)) (σ : qh_S) (a1 : Int64) : J Γ (qh_w (gK Γ)) qcl (QF Γ (qh_w (gK Γ)) qcl ovL) ((shP σ) (qh_carOf σ a1)) σ 0 [(0, .ref (kq (gK Γ) 15)), (1, .long a1)] [] := by
  unfold qh_carOf
  refine j_aload_n C d_qh_carOf_0 rfl 0 rfl ?_
  refine j_lload_n C d_qh_carOf_1 rfl 1 rfl ?_
  refine cs_qh C (mc_qw_rowOf (gl Γ) (gK Γ) a1) qw_rowOf_I k_347 (by decide) d_qh_carOf_2 rfl (rest := [.ref (kq (gK Γ) 15)]) rfl (Nat.le_of_ble_eq_true rfl) ?_
  refine cvr_qh_qh C (mc_qh_firstAt (gl Γ) (gK Γ) σ (qw_rowOf a1)) qh_firstAt_I k_350 (by decide) d_qh_carOf_5 rfl (rest := []) rfl ⟨rfl, Nat.le_of_ble_eq_true rfl⟩ ?_
  exact j_lret C d_qh_carOf_8
theorem mc_qh_carOf (l : Launch) (K : kk_T) (σ : qh_S) (a1 : Int64) : MC l qh_carOf_y qh_carOf_c 3 (some .long) (1, 21) K (qh_w K) qcl σ [.ref (kq K 15), .long a1] (some (.long (qh_carOf σ a1))) σ := mc_of (ov := ovL) (X := (shP σ) (qh_carOf σ a1)) (by decide +kernel) (Nat.le_of_ble_eq_true rfl) (fun _ => rfl) rfl (fun Γ e1 e2 C => by subst e1; subst e2; exact w_qh_carOf C σ a1)
theorem qh_carOf_I : ck_V qh_carOf_y qh_carOf_c 3 (some .long) 1 := ⟨k_346, k_96, by decide +kernel, k_344, k_345⟩
theorem w_qh_cdrOf {Γ : cx_T} (C : cx_C Γ (qh_w (gK Γ)) qcl qh_R qh_cdrOf_c 3 (some .long) (1, 21)) (σ : qh_S) (a1 : Int64) : J Γ (qh_w (gK Γ)) qcl (QF Γ (qh_w (gK Γ)) qcl ovL) ((shP σ) (qh_cdrOf σ a1)) σ 0 [(0, .ref (kq (gK Γ) 15)), (1, .long a1)] [] := by
  unfold qh_cdrOf
  refine j_aload_n C d_qh_cdrOf_0 rfl 0 rfl ?_
  refine j_lload_n C d_qh_cdrOf_1 rfl 1 rfl ?_
  refine cs_qh C (mc_qw_rowOf (gl Γ) (gK Γ) a1) qw_rowOf_I k_347 (by decide) d_qh_cdrOf_2 rfl (rest := [.ref (kq (gK Γ) 15)]) rfl (Nat.le_of_ble_eq_true rfl) ?_
  refine cvr_qh_qh C (mc_qh_secondAt (gl Γ) (gK Γ) σ (qw_rowOf a1)) qh_secondAt_I k_137 (by decide) d_qh_cdrOf_5 rfl (rest := []) rfl ⟨rfl, Nat.le_of_ble_eq_true rfl⟩ ?_
  exact j_lret C d_qh_cdrOf_8
theorem mc_qh_cdrOf (l : Launch) (K : kk_T) (σ : qh_S) (a1 : Int64) : MC l qh_cdrOf_y qh_cdrOf_c 3 (some .long) (1, 21) K (qh_w K) qcl σ [.ref (kq K 15), .long a1] (some (.long (qh_cdrOf σ a1))) σ := mc_of (ov := ovL) (X := (shP σ) (qh_cdrOf σ a1)) (by decide +kernel) (Nat.le_of_ble_eq_true rfl) (fun _ => rfl) rfl (fun Γ e1 e2 C => by subst e1; subst e2; exact w_qh_cdrOf C σ a1)
theorem qh_cdrOf_I : ck_V qh_cdrOf_y qh_cdrOf_c 3 (some .long) 1 := ⟨k_357, k_96, by decide +kernel, k_355, k_356⟩
theorem w_qh_underlyingOf {Γ : cx_T} (C : cx_C Γ (qh_w (gK Γ)) qcl qh_R qh_underlyingOf_c 3 (some .long) (1, 21)) (σ : qh_S) (a1 : Int64) : J Γ (qh_w (gK Γ)) qcl (QF Γ (qh_w (gK Γ)) qcl ovL) ((shP σ) (qh_underlyingOf σ a1)) σ 0 [(0, .ref (kq (gK Γ) 15)), (1, .long a1)] [] := by
  unfold qh_underlyingOf
  refine j_aload_n C d_qh_underlyingOf_0 rfl 0 rfl ?_
  refine j_lload_n C d_qh_underlyingOf_1 rfl 1 rfl ?_
  refine cs_qh C (mc_qw_rowOf (gl Γ) (gK Γ) a1) qw_rowOf_I k_347 (by decide) d_qh_underlyingOf_2 rfl (rest := [.ref (kq (gK Γ) 15)]) rfl (Nat.le_of_ble_eq_true rfl) ?_
  refine cvr_qh_qh C (mc_qh_firstAt (gl Γ) (gK Γ) σ (qw_rowOf a1)) qh_firstAt_I k_350 (by decide) d_qh_underlyingOf_5 rfl (rest := []) rfl ⟨rfl, Nat.le_of_ble_eq_true rfl⟩ ?_
  exact j_lret C d_qh_underlyingOf_8
theorem mc_qh_underlyingOf (l : Launch) (K : kk_T) (σ : qh_S) (a1 : Int64) : MC l qh_underlyingOf_y qh_underlyingOf_c 3 (some .long) (1, 21) K (qh_w K) qcl σ [.ref (kq K 15), .long a1] (some (.long (qh_underlyingOf σ a1))) σ := mc_of (ov := ovL) (X := (shP σ) (qh_underlyingOf σ a1)) (by decide +kernel) (Nat.le_of_ble_eq_true rfl) (fun _ => rfl) rfl (fun Γ e1 e2 C => by subst e1; subst e2; exact w_qh_underlyingOf C σ a1)
theorem qh_underlyingOf_I : ck_V qh_underlyingOf_y qh_underlyingOf_c 3 (some .long) 1 := ⟨k_361, k_96, by decide +kernel, k_359, k_360⟩
theorem w_qh_parentOf {Γ : cx_T} (C : cx_C Γ (qh_w (gK Γ)) qcl qh_R qh_parentOf_c 2 (some .int) (1, 21)) (σ : qh_S) (a1 : Int32) : J Γ (qh_w (gK Γ)) qcl (QF Γ (qh_w (gK Γ)) qcl ovI) ((shP σ) (qh_parentOf σ a1)) σ 0 [(0, .ref (kq (gK Γ) 15)), (1, .int a1)] [] := by
  unfold qh_parentOf
  refine j_aload_n C d_qh_parentOf_0 rfl 0 rfl ?_
  refine j_iload_n C d_qh_parentOf_1 rfl 1 rfl ?_
  refine cvr_qh_qh C (mc_qh_firstAt (gl Γ) (gK Γ) σ a1) qh_firstAt_I k_350 (by decide) d_qh_parentOf_2 rfl (rest := []) rfl ⟨rfl, Nat.le_of_ble_eq_true rfl⟩ ?_
  refine j_l2i C d_qh_parentOf_5 rfl ?_
  exact j_iret C d_qh_parentOf_6
theorem mc_qh_parentOf (l : Launch) (K : kk_T) (σ : qh_S) (a1 : Int32) : MC l qh_parentOf_y qh_parentOf_c 2 (some .int) (1, 21) K (qh_w K) qcl σ [.ref (kq K 15), .int a1] (some (.int (qh_parentOf σ a1))) σ := mc_of (ov := ovI) (X := (shP σ) (qh_parentOf σ a1)) (by decide +kernel) (Nat.le_of_ble_eq_true rfl) (fun _ => rfl) rfl (fun Γ e1 e2 C => by subst e1; subst e2; exact w_qh_parentOf C σ a1)
theorem qh_parentOf_I : ck_V qh_parentOf_y qh_parentOf_c 2 (some .int) 1 := ⟨k_370, k_96, by decide +kernel, k_368, k_369⟩
theorem w_qh_symbolIn {Γ : cx_T} (C : cx_C Γ qw_w qcl qh_R qh_symbolIn_c 2 (some .int) (0, 0)) (a0 : Int64) : J Γ qw_w qcl (QF Γ qw_w qcl ovI) ((shP ()) (qh_symbolIn a0)) () 0 [(0, .long a0)] [] := by
  unfold qh_symbolIn
  refine j_lload_n C d_qh_symbolIn_0 rfl 0 rfl ?_
  refine j_ldc2 C d_qh_symbolIn_1 rfl k_390 ?_
  refine j_land C d_qh_symbolIn_4 rfl ?_
  refine j_l2i C d_qh_symbolIn_5 rfl ?_
  exact j_iret C d_qh_symbolIn_6
theorem mc_qh_symbolIn (l : Launch) (K : kk_T) (a0 : Int64) : MC l qh_symbolIn_y qh_symbolIn_c 2 (some .int) (0, 0) K qw_w qcl () [.long a0] (some (.int (qh_symbolIn a0))) () := mc_of (ov := ovI) (X := (shP ()) (qh_symbolIn a0)) (by decide +kernel) (Nat.le_of_ble_eq_true rfl) (fun _ => rfl) rfl (fun Γ e1 e2 C => by subst e1; subst e2; exact w_qh_symbolIn C a0)
theorem qh_symbolIn_I : ck_S qh_symbolIn_y qh_symbolIn_c 2 (some .int) 1 := ⟨k_389, k_96, by decide +kernel, k_388⟩
theorem w_qh_nextIn {Γ : cx_T} (C : cx_C Γ qw_w qcl qh_R qh_nextIn_c 2 (some .int) (0, 0)) (a0 : Int64) : J Γ qw_w qcl (QF Γ qw_w qcl ovI) ((shP ()) (qh_nextIn a0)) () 0 [(0, .long a0)] [] := by
  unfold qh_nextIn
  refine j_lload_n C d_qh_nextIn_0 rfl 0 rfl ?_
  refine j_bipush C d_qh_nextIn_1 rfl kc_b_7 ?_
  refine j_lshr C d_qh_nextIn_3 rfl (kc_shr_7 _) ?_
  refine j_l2i C d_qh_nextIn_4 rfl ?_
  exact j_iret C d_qh_nextIn_5
theorem mc_qh_nextIn (l : Launch) (K : kk_T) (a0 : Int64) : MC l qh_nextIn_y qh_nextIn_c 2 (some .int) (0, 0) K qw_w qcl () [.long a0] (some (.int (qh_nextIn a0))) () := mc_of (ov := ovI) (X := (shP ()) (qh_nextIn a0)) (by decide +kernel) (Nat.le_of_ble_eq_true rfl) (fun _ => rfl) rfl (fun Γ e1 e2 C => by subst e1; subst e2; exact w_qh_nextIn C a0)
theorem qh_nextIn_I : ck_S qh_nextIn_y qh_nextIn_c 2 (some .int) 1 := ⟨k_393, k_96, by decide +kernel, k_392⟩
theorem w_qh_ownBinding_L9 {Γ : cx_T} (C : cx_C Γ (qh_w (gK Γ)) qcl qh_R qh_ownBinding_c 7 (some .int) (2, 42)) (N : Nat) : ∀ (k : Nat) (σ : qh_S) (x2 : Int32) (x3 : Int32) (x4 : Int32), J Γ (qh_w (gK Γ)) qcl (QF Γ (qh_w (gK Γ)) qcl ovI) ((shR σ) (qh_ownBinding_L9 N k σ x2 x3 x4)) σ 9 [(0, .ref (kq (gK Γ) 15)), (2, .int x2), (3, .int x3), (4, .int x4)] [] := by
  intro k
  induction k with
  | zero => intro σ x2 x3 x4; exact J.none rfl
  | succ k ih =>
    intro σ x2 x3 x4
    rw [qh_ownBinding_L9]
    refine j_iload_n C d_qh_ownBinding_9 rfl 2 rfl ?_
    refine j_iconst C d_qh_ownBinding_10 rfl kc_i_m1 ?_
    refine j_icmp_eq C d_qh_ownBinding_11 (tgt := 52) (by decide) rfl (fun c_1 => ?_) (fun c_1 => ?_)
    · refine J.pos (shR σ) c_1 ?_
      refine j_iconst C d_qh_ownBinding_52 rfl kc_i_m1 ?_
      exact j_iret C d_qh_ownBinding_53
    · refine J.neg (shR σ) c_1 ?_
      refine j_iload C d_qh_ownBinding_14 rfl 3 rfl ?_
      refine j_sipush C d_qh_ownBinding_16 rfl kc_s_4100 ?_
      refine j_icmp_ge C d_qh_ownBinding_19 (tgt := 52) (by decide) rfl (fun c_2 => ?_) (fun c_2 => ?_)
      · refine J.pos (shR σ) c_2 ?_
        refine j_iconst C d_qh_ownBinding_52 rfl kc_i_m1 ?_
        exact j_iret C d_qh_ownBinding_53
      · refine J.neg (shR σ) c_2 ?_
        refine j_aload_n C d_qh_ownBinding_22 rfl 0 rfl ?_
        refine j_iload_n C d_qh_ownBinding_23 rfl 2 rfl ?_
        refine cvr_qh_qh C (mc_qh_secondAt (gl Γ) (gK Γ) σ x3) qh_secondAt_I k_137 (by decide) d_qh_ownBinding_24 rfl (rest := []) rfl ⟨rfl, Nat.le_of_ble_eq_true rfl⟩ ?_
        refine j_lstore C (lv' := [(5, .long (qh_secondAt σ x3)), (0, .ref (kq (gK Γ) 15)), (2, .int x2), (3, .int x3), (4, .int x4)]) d_qh_ownBinding_27 rfl (by decide) rfl ?_
        refine j_lload C d_qh_ownBinding_29 rfl 0 rfl ?_
        refine cs_qh C (mc_qh_symbolIn (gl Γ) (gK Γ) (qh_secondAt σ x3)) qh_symbolIn_I k_387 (by decide) d_qh_ownBinding_31 rfl (rest := []) rfl (Nat.le_of_ble_eq_true rfl) ?_
        refine j_iload_n C d_qh_ownBinding_34 rfl 2 rfl ?_
        refine j_icmp_ne C d_qh_ownBinding_35 (tgt := 40) (by decide) rfl (fun c_3 => ?_) (fun c_3 => ?_)
        · refine J.neg (shR σ) c_3 ?_
          refine j_lload C d_qh_ownBinding_40 rfl 0 rfl ?_
          refine cs_qh C (mc_qh_nextIn (gl Γ) (gK Γ) (qh_secondAt σ x3)) qh_nextIn_I k_391 (by decide) d_qh_ownBinding_42 rfl (rest := []) rfl (Nat.le_of_ble_eq_true rfl) ?_
          refine j_istore_n C (lv' := [(3, .int (qh_nextIn (qh_secondAt σ x3))), (5, .long (qh_secondAt σ x3)), (0, .ref (kq (gK Γ) 15)), (2, .int x2), (4, .int x4)]) d_qh_ownBinding_45 rfl rfl (by decide) rfl ?_
          refine j_iinc C (v := (x4 + (1 : Int32))) (lv' := [(4, .int (x4 + (1 : Int32))), (3, .int (qh_nextIn (qh_secondAt σ x3))), (5, .long (qh_secondAt σ x3)), (0, .ref (kq (gK Γ) 15)), (2, .int x2)]) d_qh_ownBinding_46 rfl 4 rfl (kc_inc_1 _) (by decide) rfl ?_
          refine j_goto C d_qh_ownBinding_49 (tgt := 9) (by decide) ?_
          refine J.loc (lv' := [(0, .ref (kq (gK Γ) 15)), (2, .int x2), (3, .int (qh_nextIn (qh_secondAt σ x3))), (4, .int (x4 + (1 : Int32)))]) [3, 4, 1, 0] rfl ?_
          exact ih σ x2 (qh_nextIn (qh_secondAt σ x3)) (x4 + (1 : Int32))
        · refine J.pos (shR σ) c_3 ?_
          refine j_iload_n C d_qh_ownBinding_38 rfl 3 rfl ?_
          exact j_iret C d_qh_ownBinding_39
theorem w_qh_ownBinding {Γ : cx_T} (C : cx_C Γ (qh_w (gK Γ)) qcl qh_R qh_ownBinding_c 7 (some .int) (2, 42)) (N : Nat) (σ : qh_S) (a1 : Int32) (a2 : Int32) : J Γ (qh_w (gK Γ)) qcl (QF Γ (qh_w (gK Γ)) qcl ovI) ((shR σ) (qh_ownBinding N σ a1 a2)) σ 0 [(0, .ref (kq (gK Γ) 15)), (1, .int a1), (2, .int a2)] [] := by
  unfold qh_ownBinding
  refine j_aload_n C d_qh_ownBinding_0 rfl 0 rfl ?_
  refine j_iload_n C d_qh_ownBinding_1 rfl 1 rfl ?_
  refine cvr_qh_qh C (mc_qh_latestBindingOf (gl Γ) (gK Γ) σ a1) qh_latestBindingOf_I k_133 (by decide) d_qh_ownBinding_2 rfl (rest := []) rfl ⟨rfl, Nat.le_of_ble_eq_true rfl⟩ ?_
  refine j_istore_n C (lv' := [(3, .int (qh_latestBindingOf σ a1)), (0, .ref (kq (gK Γ) 15)), (1, .int a1), (2, .int a2)]) d_qh_ownBinding_5 rfl rfl (by decide) rfl ?_
  refine j_iconst C d_qh_ownBinding_6 rfl kc_i_0 ?_
  refine j_istore C (lv' := [(4, .int (0 : Int32)), (3, .int (qh_latestBindingOf σ a1)), (0, .ref (kq (gK Γ) 15)), (1, .int a1), (2, .int a2)]) d_qh_ownBinding_7 rfl (by decide) rfl ?_
  refine J.loc (lv' := [(0, .ref (kq (gK Γ) 15)), (2, .int a2), (3, .int (qh_latestBindingOf σ a1)), (4, .int (0 : Int32))]) [2, 4, 1, 0] rfl ?_
  exact w_qh_ownBinding_L9 C N N σ a2 (qh_latestBindingOf σ a1) (0 : Int32)
theorem mc_qh_ownBinding (l : Launch) (K : kk_T) (N : Nat) (σ : qh_S) (a1 : Int32) (a2 : Int32) (r : Int32) (h : qh_ownBinding N σ a1 a2 = some r) : MC l qh_ownBinding_y qh_ownBinding_c 7 (some .int) (2, 42) K (qh_w K) qcl σ [.ref (kq K 15), .int a1, .int a2] (some (.int r)) σ := mc_of (ov := ovI) (X := (shR σ) (qh_ownBinding N σ a1 a2)) (by decide +kernel) (Nat.le_of_ble_eq_true rfl) (fun _ => rfl) (by rw [h]; rfl) (fun Γ e1 e2 C => by subst e1; subst e2; exact w_qh_ownBinding C N σ a1 a2)
theorem qh_ownBinding_I : ck_V qh_ownBinding_y qh_ownBinding_c 7 (some .int) 2 := ⟨k_386, k_96, by decide +kernel, k_385, k_10⟩
theorem w_qh_visibleBinding_L5 {Γ : cx_T} (C : cx_C Γ (qh_w (gK Γ)) qcl qh_R qh_visibleBinding_c 6 (some .int) (3, 68)) (N : Nat) : ∀ (k : Nat) (σ : qh_S) (x2 : Int32) (x3 : Int32) (x4 : Int32), J Γ (qh_w (gK Γ)) qcl (QF Γ (qh_w (gK Γ)) qcl ovI) ((shR σ) (qh_visibleBinding_L5 N k σ x2 x3 x4)) σ 5 [(0, .ref (kq (gK Γ) 15)), (2, .int x2), (3, .int x3), (4, .int x4)] [] := by
  intro k
  induction k with
  | zero => intro σ x2 x3 x4; exact J.none rfl
  | succ k ih =>
    intro σ x2 x3 x4
    rw [qh_visibleBinding_L5]
    refine j_iload_n C d_qh_visibleBinding_5 rfl 2 rfl ?_
    refine j_iconst C d_qh_visibleBinding_6 rfl kc_i_m1 ?_
    refine j_icmp_eq C d_qh_visibleBinding_7 (tgt := 47) (by decide) rfl (fun c_1 => ?_) (fun c_1 => ?_)
    · refine J.pos (shR σ) c_1 ?_
      refine j_iconst C d_qh_visibleBinding_47 rfl kc_i_m1 ?_
      exact j_iret C d_qh_visibleBinding_48
    · refine J.neg (shR σ) c_1 ?_
      refine j_iload C d_qh_visibleBinding_10 rfl 3 rfl ?_
      refine j_sipush C d_qh_visibleBinding_12 rfl kc_s_4100 ?_
      refine j_icmp_ge C d_qh_visibleBinding_15 (tgt := 47) (by decide) rfl (fun c_2 => ?_) (fun c_2 => ?_)
      · refine J.pos (shR σ) c_2 ?_
        refine j_iconst C d_qh_visibleBinding_47 rfl kc_i_m1 ?_
        exact j_iret C d_qh_visibleBinding_48
      · refine J.neg (shR σ) c_2 ?_
        refine j_aload_n C d_qh_visibleBinding_18 rfl 0 rfl ?_
        refine j_iload_n C d_qh_visibleBinding_19 rfl 2 rfl ?_
        refine j_iload_n C d_qh_visibleBinding_20 rfl 1 rfl ?_
        refine J.goR (fun r3 h_4 => ?_)
        refine cvr_qh_qh C (mc_qh_ownBinding (gl Γ) (gK Γ) N σ x3 x2 r3 h_4) qh_ownBinding_I k_383 (by decide) d_qh_visibleBinding_21 rfl (rest := []) rfl ⟨rfl, Nat.le_of_ble_eq_true rfl⟩ ?_
        refine j_istore C (lv' := [(5, .int r3), (0, .ref (kq (gK Γ) 15)), (2, .int x2), (3, .int x3), (4, .int x4)]) d_qh_visibleBinding_24 rfl (by decide) rfl ?_
        refine j_iload C d_qh_visibleBinding_26 rfl 0 rfl ?_
        refine j_iconst C d_qh_visibleBinding_28 rfl kc_i_m1 ?_
        refine j_icmp_eq C d_qh_visibleBinding_29 (tgt := 35) (by decide) rfl (fun c_5 => ?_) (fun c_5 => ?_)
        · refine J.pos (shR σ) c_5 ?_
          refine j_aload_n C d_qh_visibleBinding_35 rfl 1 rfl ?_
          refine j_iload_n C d_qh_visibleBinding_36 rfl 3 rfl ?_
          refine cvr_qh_qh C (mc_qh_parentOf (gl Γ) (gK Γ) σ x3) qh_parentOf_I k_394 (by decide) d_qh_visibleBinding_37 rfl (rest := []) rfl ⟨rfl, Nat.le_of_ble_eq_true rfl⟩ ?_
          refine j_istore_n C (lv' := [(3, .int (qh_parentOf σ x3)), (5, .int r3), (0, .ref (kq (gK Γ) 15)), (2, .int x2), (4, .int x4)]) d_qh_visibleBinding_40 rfl rfl (by decide) rfl ?_
          refine j_iinc C (v := (x4 + (1 : Int32))) (lv' := [(4, .int (x4 + (1 : Int32))), (3, .int (qh_parentOf σ x3)), (5, .int r3), (0, .ref (kq (gK Γ) 15)), (2, .int x2)]) d_qh_visibleBinding_41 rfl 4 rfl (kc_inc_1 _) (by decide) rfl ?_
          refine j_goto C d_qh_visibleBinding_44 (tgt := 5) (by decide) ?_
          refine J.loc (lv' := [(0, .ref (kq (gK Γ) 15)), (2, .int x2), (3, .int (qh_parentOf σ x3)), (4, .int (x4 + (1 : Int32)))]) [3, 4, 1, 0] rfl ?_
          exact ih σ x2 (qh_parentOf σ x3) (x4 + (1 : Int32))
        · refine J.neg (shR σ) c_5 ?_
          refine j_iload C d_qh_visibleBinding_32 rfl 0 rfl ?_
          exact j_iret C d_qh_visibleBinding_34
theorem w_qh_visibleBinding {Γ : cx_T} (C : cx_C Γ (qh_w (gK Γ)) qcl qh_R qh_visibleBinding_c 6 (some .int) (3, 68)) (N : Nat) (σ : qh_S) (a1 : Int32) (a2 : Int32) : J Γ (qh_w (gK Γ)) qcl (QF Γ (qh_w (gK Γ)) qcl ovI) ((shR σ) (qh_visibleBinding N σ a1 a2)) σ 0 [(0, .ref (kq (gK Γ) 15)), (1, .int a1), (2, .int a2)] [] := by
  unfold qh_visibleBinding
  refine j_iload_n C d_qh_visibleBinding_0 rfl 1 rfl ?_
  refine j_istore_n C (lv' := [(3, .int a1), (0, .ref (kq (gK Γ) 15)), (1, .int a1), (2, .int a2)]) d_qh_visibleBinding_1 rfl rfl (by decide) rfl ?_
  refine j_iconst C d_qh_visibleBinding_2 rfl kc_i_0 ?_
  refine j_istore C (lv' := [(4, .int (0 : Int32)), (3, .int a1), (0, .ref (kq (gK Γ) 15)), (1, .int a1), (2, .int a2)]) d_qh_visibleBinding_3 rfl (by decide) rfl ?_
  refine J.loc (lv' := [(0, .ref (kq (gK Γ) 15)), (2, .int a2), (3, .int a1), (4, .int (0 : Int32))]) [2, 4, 1, 0] rfl ?_
  exact w_qh_visibleBinding_L5 C N N σ a2 a1 (0 : Int32)
theorem mc_qh_visibleBinding (l : Launch) (K : kk_T) (N : Nat) (σ : qh_S) (a1 : Int32) (a2 : Int32) (r : Int32) (h : qh_visibleBinding N σ a1 a2 = some r) : MC l qh_visibleBinding_y qh_visibleBinding_c 6 (some .int) (3, 68) K (qh_w K) qcl σ [.ref (kq K 15), .int a1, .int a2] (some (.int r)) σ := mc_of (ov := ovI) (X := (shR σ) (qh_visibleBinding N σ a1 a2)) (by decide +kernel) (Nat.le_of_ble_eq_true rfl) (fun _ => rfl) (by rw [h]; rfl) (fun Γ e1 e2 C => by subst e1; subst e2; exact w_qh_visibleBinding C N σ a1 a2)
theorem qh_visibleBinding_I : ck_V qh_visibleBinding_y qh_visibleBinding_c 6 (some .int) 2 := ⟨k_382, k_96, by decide +kernel, k_380, k_381⟩
theorem w_qh_boundValueOf {Γ : cx_T} (C : cx_C Γ (qh_w (gK Γ)) qcl qh_R qh_boundValueOf_c 2 (some .long) (1, 21)) (σ : qh_S) (a1 : Int32) : J Γ (qh_w (gK Γ)) qcl (QF Γ (qh_w (gK Γ)) qcl ovL) ((shP σ) (qh_boundValueOf σ a1)) σ 0 [(0, .ref (kq (gK Γ) 15)), (1, .int a1)] [] := by
  unfold qh_boundValueOf
  refine j_aload_n C d_qh_boundValueOf_0 rfl 0 rfl ?_
  refine j_iload_n C d_qh_boundValueOf_1 rfl 1 rfl ?_
  refine cvr_qh_qh C (mc_qh_firstAt (gl Γ) (gK Γ) σ a1) qh_firstAt_I k_350 (by decide) d_qh_boundValueOf_2 rfl (rest := []) rfl ⟨rfl, Nat.le_of_ble_eq_true rfl⟩ ?_
  exact j_lret C d_qh_boundValueOf_5
theorem mc_qh_boundValueOf (l : Launch) (K : kk_T) (σ : qh_S) (a1 : Int32) : MC l qh_boundValueOf_y qh_boundValueOf_c 2 (some .long) (1, 21) K (qh_w K) qcl σ [.ref (kq K 15), .int a1] (some (.long (qh_boundValueOf σ a1))) σ := mc_of (ov := ovL) (X := (shP σ) (qh_boundValueOf σ a1)) (by decide +kernel) (Nat.le_of_ble_eq_true rfl) (fun _ => rfl) rfl (fun Γ e1 e2 C => by subst e1; subst e2; exact w_qh_boundValueOf C σ a1)
theorem qh_boundValueOf_I : ck_V qh_boundValueOf_y qh_boundValueOf_c 2 (some .long) 1 := ⟨k_398, k_96, by decide +kernel, k_396, k_397⟩
theorem w_qh_add {Γ : cx_T} (C : cx_C Γ (qh_w (gK Γ)) qcl qh_R qh_add_c 6 (some .int) (0, 0)) (σ : qh_S) (a1 : Int64) (a3 : Int64) : J Γ (qh_w (gK Γ)) qcl (QF Γ (qh_w (gK Γ)) qcl ovI) (shT (qh_add σ a1 a3)) σ 0 [(0, .ref (kq (gK Γ) 15)), (1, .long a1), (3, .long a3)] [] := by
  unfold qh_add
  refine j_aload_n C d_qh_add_0 rfl 0 rfl ?_
  refine qh_r_nextRow C k_147 d_qh_add_1 rfl rfl ?_
  refine j_istore C (lv' := [(5, .int (qh_g_nextRow σ)), (0, .ref (kq (gK Γ) 15)), (1, .long a1), (3, .long a3)]) d_qh_add_4 rfl (by decide) rfl ?_
  refine j_iload C d_qh_add_6 rfl 0 rfl ?_
  refine j_if_lt C d_qh_add_8 (tgt := 19) (by decide) rfl (fun c_1 => ?_) (fun c_1 => ?_)
  · refine J.pos shT c_1 ?_
    refine j_iconst C d_qh_add_19 rfl kc_i_m1 ?_
    exact j_iret C d_qh_add_20
  · refine J.neg shT c_1 ?_
    refine j_iload C d_qh_add_11 rfl 0 rfl ?_
    refine j_sipush C d_qh_add_13 rfl kc_s_4100 ?_
    refine j_icmp_lt C d_qh_add_16 (tgt := 21) (by decide) rfl (fun c_2 => ?_) (fun c_2 => ?_)
    · refine J.pos shT c_2 ?_
      refine j_aload_n C d_qh_add_21 rfl 1 rfl ?_
      refine qh_r_first C k_145 d_qh_add_22 rfl ?_
      refine j_iload C d_qh_add_25 rfl 0 rfl ?_
      refine j_lload_n C d_qh_add_27 rfl 2 rfl ?_
      refine qh_a_first C (in_c (M := 4100) c_1 c_2 (by decide) (Nat.le_of_ble_eq_true rfl)) d_qh_add_28 rfl ?_
      refine j_aload_n C d_qh_add_29 rfl 1 rfl ?_
      refine qh_r_second C k_146 d_qh_add_30 rfl ?_
      refine j_iload C d_qh_add_33 rfl 0 rfl ?_
      refine j_lload_n C d_qh_add_35 rfl 3 rfl ?_
      refine qh_a_second C (in_c (M := 4100) c_1 c_2 (by decide) (Nat.le_of_ble_eq_true rfl)) d_qh_add_36 rfl ?_
      refine j_aload_n C d_qh_add_37 rfl 1 rfl ?_
      refine j_dup C d_qh_add_38 rfl rfl ?_
      refine qh_r_nextRow C k_147 d_qh_add_39 rfl (x := (qh_g_nextRow σ)) rfl ?_
      refine j_iconst C d_qh_add_42 rfl kc_i_1 ?_
      refine j_iadd C d_qh_add_43 rfl ?_
      refine qh_p_nextRow C k_147 d_qh_add_44 rfl ?_
      refine j_iload C d_qh_add_47 rfl 0 rfl ?_
      exact j_iret C d_qh_add_49
    · refine J.neg shT c_2 ?_
      refine j_iconst C d_qh_add_19 rfl kc_i_m1 ?_
      exact j_iret C d_qh_add_20
theorem mc_qh_add (l : Launch) (K : kk_T) (σ : qh_S) (a1 : Int64) (a3 : Int64) : MC l qh_add_y qh_add_c 6 (some .int) (0, 0) K (qh_w K) qcl σ [.ref (kq K 15), .long a1, .long a3] (some (.int (qh_add σ a1 a3).1)) (qh_add σ a1 a3).2 := mc_of (ov := ovI) (X := shT (qh_add σ a1 a3)) (by decide +kernel) (Nat.le_of_ble_eq_true rfl) (fun _ => rfl) rfl (fun Γ e1 e2 C => by subst e1; subst e2; exact w_qh_add C σ a1 a3)
theorem qh_add_I : ck_V qh_add_y qh_add_c 6 (some .int) 2 := ⟨k_410, k_96, by decide +kernel, k_409, k_11⟩
theorem w_qh_addPair {Γ : cx_T} (C : cx_C Γ (qh_w (gK Γ)) qcl qh_R qh_addPair_c 5 (some .int) (1, 25)) (σ : qh_S) (a1 : Int64) (a3 : Int64) : J Γ (qh_w (gK Γ)) qcl (QF Γ (qh_w (gK Γ)) qcl ovI) (shT (qh_addPair σ a1 a3)) σ 0 [(0, .ref (kq (gK Γ) 15)), (1, .long a1), (3, .long a3)] [] := by
  unfold qh_addPair
  refine j_aload_n C d_qh_addPair_0 rfl 0 rfl ?_
  refine j_lload_n C d_qh_addPair_1 rfl 1 rfl ?_
  refine j_lload_n C d_qh_addPair_2 rfl 2 rfl ?_
  refine cv_qh_qh C (mc_qh_add (gl Γ) (gK Γ) σ a1 a3) qh_add_I k_407 (by decide) d_qh_addPair_3 rfl (rest := []) rfl ⟨rfl, Nat.le_of_ble_eq_true rfl⟩ ?_
  exact j_iret C d_qh_addPair_6
theorem mc_qh_addPair (l : Launch) (K : kk_T) (σ : qh_S) (a1 : Int64) (a3 : Int64) : MC l qh_addPair_y qh_addPair_c 5 (some .int) (1, 25) K (qh_w K) qcl σ [.ref (kq K 15), .long a1, .long a3] (some (.int (qh_addPair σ a1 a3).1)) (qh_addPair σ a1 a3).2 := mc_of (ov := ovI) (X := shT (qh_addPair σ a1 a3)) (by decide +kernel) (Nat.le_of_ble_eq_true rfl) (fun _ => rfl) rfl (fun Γ e1 e2 C => by subst e1; subst e2; exact w_qh_addPair C σ a1 a3)
theorem qh_addPair_I : ck_V qh_addPair_y qh_addPair_c 5 (some .int) 2 := ⟨k_406, k_96, by decide +kernel, k_404, k_405⟩
theorem w_qh_hasRoomFor {Γ : cx_T} (C : cx_C Γ (qh_w (gK Γ)) qcl qh_R qh_hasRoomFor_c 2 (some .boolean) (0, 0)) (σ : qh_S) (a1 : Int32) : J Γ (qh_w (gK Γ)) qcl (QF Γ (qh_w (gK Γ)) qcl ovI) ((shP σ) (qh_hasRoomFor σ a1)) σ 0 [(0, .ref (kq (gK Γ) 15)), (1, .int a1)] [] := by
  unfold qh_hasRoomFor
  refine j_sipush C d_qh_hasRoomFor_0 rfl kc_s_4100 ?_
  refine j_aload_n C d_qh_hasRoomFor_3 rfl 0 rfl ?_
  refine qh_r_nextRow C k_147 d_qh_hasRoomFor_4 rfl rfl ?_
  refine j_isub C d_qh_hasRoomFor_7 rfl ?_
  refine j_iload_n C d_qh_hasRoomFor_8 rfl 1 rfl ?_
  refine j_icmp_lt C d_qh_hasRoomFor_9 (tgt := 16) (by decide) rfl (fun c_1 => ?_) (fun c_1 => ?_)
  · refine J.pos (shP σ) c_1 ?_
    refine j_iconst C d_qh_hasRoomFor_16 rfl kc_i_0 ?_
    exact j_zret C rfl d_qh_hasRoomFor_17
  · refine J.neg (shP σ) c_1 ?_
    refine j_iconst C d_qh_hasRoomFor_12 rfl kc_i_1 ?_
    refine j_goto C d_qh_hasRoomFor_13 (tgt := 17) (by decide) ?_
    exact j_zret C rfl d_qh_hasRoomFor_17
theorem mc_qh_hasRoomFor (l : Launch) (K : kk_T) (σ : qh_S) (a1 : Int32) : MC l qh_hasRoomFor_y qh_hasRoomFor_c 2 (some .boolean) (0, 0) K (qh_w K) qcl σ [.ref (kq K 15), .int a1] (some (.int (qh_hasRoomFor σ a1))) σ := mc_of (ov := ovI) (X := (shP σ) (qh_hasRoomFor σ a1)) (by decide +kernel) (Nat.le_of_ble_eq_true rfl) (fun _ => rfl) rfl (fun Γ e1 e2 C => by subst e1; subst e2; exact w_qh_hasRoomFor C σ a1)
theorem qh_hasRoomFor_I : ck_V qh_hasRoomFor_y qh_hasRoomFor_c 2 (some .boolean) 1 := ⟨k_422, k_96, by decide +kernel, k_420, k_421⟩
theorem w_qh_objectCount {Γ : cx_T} (C : cx_C Γ (qh_w (gK Γ)) qcl qh_R qh_objectCount_c 1 (some .int) (0, 0)) (σ : qh_S)  : J Γ (qh_w (gK Γ)) qcl (QF Γ (qh_w (gK Γ)) qcl ovI) ((shP σ) (qh_objectCount σ)) σ 0 [(0, .ref (kq (gK Γ) 15))] [] := by
  unfold qh_objectCount
  refine j_aload_n C d_qh_objectCount_0 rfl 0 rfl ?_
  refine qh_r_nextRow C k_147 d_qh_objectCount_1 rfl rfl ?_
  refine j_bipush C d_qh_objectCount_4 rfl kc_b_100 ?_
  refine j_isub C d_qh_objectCount_6 rfl ?_
  exact j_iret C d_qh_objectCount_7
theorem mc_qh_objectCount (l : Launch) (K : kk_T) (σ : qh_S)  : MC l qh_objectCount_y qh_objectCount_c 1 (some .int) (0, 0) K (qh_w K) qcl σ [.ref (kq K 15)] (some (.int (qh_objectCount σ))) σ := mc_of (ov := ovI) (X := (shP σ) (qh_objectCount σ)) (by decide +kernel) (Nat.le_of_ble_eq_true rfl) (fun _ => rfl) rfl (fun Γ e1 e2 C => by subst e1; subst e2; exact w_qh_objectCount C σ)
theorem qh_objectCount_I : ck_V qh_objectCount_y qh_objectCount_c 1 (some .int) 0 := ⟨k_434, k_96, by decide +kernel, k_432, k_433⟩
theorem w_qw_contentOf {Γ : cx_T} (C : cx_C Γ qw_w qcl qw_R qw_contentOf_c 2 (some .long) (0, 0)) (a0 : Int64) : J Γ qw_w qcl (QF Γ qw_w qcl ovL) ((shP ()) (qw_contentOf a0)) () 0 [(0, .long a0)] [] := by
  unfold qw_contentOf
  refine j_lload_n C d_qw_contentOf_0 rfl 0 rfl ?_
  refine j_iconst C d_qw_contentOf_1 rfl kc_i_4 ?_
  refine j_lshr C d_qw_contentOf_2 rfl (kc_shr_4 _) ?_
  exact j_lret C d_qw_contentOf_3
theorem mc_qw_contentOf (l : Launch) (K : kk_T) (a0 : Int64) : MC l qw_contentOf_y qw_contentOf_c 2 (some .long) (0, 0) K qw_w qcl () [.long a0] (some (.long (qw_contentOf a0))) () := mc_of (ov := ovL) (X := (shP ()) (qw_contentOf a0)) (by decide +kernel) (Nat.le_of_ble_eq_true rfl) (fun _ => rfl) rfl (fun Γ e1 e2 C => by subst e1; subst e2; exact w_qw_contentOf C a0)
theorem qw_contentOf_I : ck_S qw_contentOf_y qw_contentOf_c 2 (some .long) 1 := ⟨k_452, k_97, by decide +kernel, k_451⟩
theorem w_qh_lengthOf_L5 {Γ : cx_T} (C : cx_C Γ (qh_w (gK Γ)) qcl qh_R qh_lengthOf_c 6 (some .int) (2, 43)) (N : Nat) : ∀ (k : Nat) (σ : qh_S) (x3 : Int64) (x5 : Int32), J Γ (qh_w (gK Γ)) qcl (QF Γ (qh_w (gK Γ)) qcl ovI) ((shR σ) (qh_lengthOf_L5 N k σ x3 x5)) σ 5 [(0, .ref (kq (gK Γ) 15)), (3, .long x3), (5, .int x5)] [] := by
  intro k
  induction k with
  | zero => intro σ x3 x5; exact J.none rfl
  | succ k ih =>
    intro σ x3 x5
    rw [qh_lengthOf_L5]
    refine j_iload C d_qh_lengthOf_5 rfl 2 rfl ?_
    refine j_sipush C d_qh_lengthOf_7 rfl kc_s_4100 ?_
    refine j_icmp_gt C d_qh_lengthOf_10 (tgt := 46) (by decide) rfl (fun c_1 => ?_) (fun c_1 => ?_)
    · refine J.pos (shR σ) c_1 ?_
      refine j_iconst C d_qh_lengthOf_46 rfl kc_i_m1 ?_
      exact j_iret C d_qh_lengthOf_47
    · refine J.neg (shR σ) c_1 ?_
      refine j_lload_n C d_qh_lengthOf_13 rfl 1 rfl ?_
      refine j_ldc2 C d_qh_lengthOf_14 rfl k_141 ?_
      refine j_lcmp_ne C d_qh_lengthOf_17 d_qh_lengthOf_18 (tgt := 24) (by decide) rfl (fun c_2 => ?_) (fun c_2 => ?_)
      · refine J.neg (shR σ) c_2 ?_
        refine j_lload_n C d_qh_lengthOf_24 rfl 1 rfl ?_
        refine cs_qh C (mc_qw_kindOf (gl Γ) (gK Γ) x3) qw_kindOf_I k_465 (by decide) d_qh_lengthOf_25 rfl (rest := []) rfl (Nat.le_of_ble_eq_true rfl) ?_
        refine j_iconst C d_qh_lengthOf_28 rfl kc_i_4 ?_
        refine j_icmp_eq C d_qh_lengthOf_29 (tgt := 34) (by decide) rfl (fun c_3 => ?_) (fun c_3 => ?_)
        · refine J.pos (shR σ) c_3 ?_
          refine j_aload_n C d_qh_lengthOf_34 rfl 0 rfl ?_
          refine j_lload_n C d_qh_lengthOf_35 rfl 1 rfl ?_
          refine cvr_qh_qh C (mc_qh_cdrOf (gl Γ) (gK Γ) σ x3) qh_cdrOf_I k_466 (by decide) d_qh_lengthOf_36 rfl (rest := []) rfl ⟨rfl, Nat.le_of_ble_eq_true rfl⟩ ?_
          refine j_lstore_n C (lv' := [(3, .long (qh_cdrOf σ x3)), (0, .ref (kq (gK Γ) 15)), (5, .int x5)]) d_qh_lengthOf_39 rfl rfl (by decide) rfl ?_
          refine j_iinc C (v := (x5 + (1 : Int32))) (lv' := [(5, .int (x5 + (1 : Int32))), (3, .long (qh_cdrOf σ x3)), (0, .ref (kq (gK Γ) 15))]) d_qh_lengthOf_40 rfl 2 rfl (kc_inc_1 _) (by decide) rfl ?_
          refine j_goto C d_qh_lengthOf_43 (tgt := 5) (by decide) ?_
          refine J.loc (lv' := [(0, .ref (kq (gK Γ) 15)), (3, .long (qh_cdrOf σ x3)), (5, .int (x5 + (1 : Int32)))]) [2, 1, 0] rfl ?_
          exact ih σ (qh_cdrOf σ x3) (x5 + (1 : Int32))
        · refine J.neg (shR σ) c_3 ?_
          refine j_iconst C d_qh_lengthOf_32 rfl kc_i_m1 ?_
          exact j_iret C d_qh_lengthOf_33
      · refine J.pos (shR σ) c_2 ?_
        refine j_iload C d_qh_lengthOf_21 rfl 2 rfl ?_
        exact j_iret C d_qh_lengthOf_23
theorem w_qh_lengthOf {Γ : cx_T} (C : cx_C Γ (qh_w (gK Γ)) qcl qh_R qh_lengthOf_c 6 (some .int) (2, 43)) (N : Nat) (σ : qh_S) (a1 : Int64) : J Γ (qh_w (gK Γ)) qcl (QF Γ (qh_w (gK Γ)) qcl ovI) ((shR σ) (qh_lengthOf N σ a1)) σ 0 [(0, .ref (kq (gK Γ) 15)), (1, .long a1)] [] := by
  unfold qh_lengthOf
  refine j_lload_n C d_qh_lengthOf_0 rfl 1 rfl ?_
  refine j_lstore_n C (lv' := [(3, .long a1), (0, .ref (kq (gK Γ) 15)), (1, .long a1)]) d_qh_lengthOf_1 rfl rfl (by decide) rfl ?_
  refine j_iconst C d_qh_lengthOf_2 rfl kc_i_0 ?_
  refine j_istore C (lv' := [(5, .int (0 : Int32)), (3, .long a1), (0, .ref (kq (gK Γ) 15)), (1, .long a1)]) d_qh_lengthOf_3 rfl (by decide) rfl ?_
  refine J.loc (lv' := [(0, .ref (kq (gK Γ) 15)), (3, .long a1), (5, .int (0 : Int32))]) [2, 1, 0] rfl ?_
  exact w_qh_lengthOf_L5 C N N σ a1 (0 : Int32)
theorem mc_qh_lengthOf (l : Launch) (K : kk_T) (N : Nat) (σ : qh_S) (a1 : Int64) (r : Int32) (h : qh_lengthOf N σ a1 = some r) : MC l qh_lengthOf_y qh_lengthOf_c 6 (some .int) (2, 43) K (qh_w K) qcl σ [.ref (kq K 15), .long a1] (some (.int r)) σ := mc_of (ov := ovI) (X := (shR σ) (qh_lengthOf N σ a1)) (by decide +kernel) (Nat.le_of_ble_eq_true rfl) (fun _ => rfl) (by rw [h]; rfl) (fun Γ e1 e2 C => by subst e1; subst e2; exact w_qh_lengthOf C N σ a1)
theorem qh_lengthOf_I : ck_V qh_lengthOf_y qh_lengthOf_c 6 (some .int) 1 := ⟨k_464, k_96, by decide +kernel, k_462, k_463⟩
theorem w_qh_countBindings_L8 {Γ : cx_T} (C : cx_C Γ (qh_w (gK Γ)) qcl qh_R qh_countBindings_c 4 (some .int) (2, 42)) (N : Nat) : ∀ (k : Nat) (σ : qh_S) (x2 : Int32) (x3 : Int32), J Γ (qh_w (gK Γ)) qcl (QF Γ (qh_w (gK Γ)) qcl ovI) ((shR σ) (qh_countBindings_L8 N k σ x2 x3)) σ 8 [(0, .ref (kq (gK Γ) 15)), (2, .int x2), (3, .int x3)] [] := by
  intro k
  induction k with
  | zero => intro σ x2 x3; exact J.none rfl
  | succ k ih =>
    intro σ x2 x3
    rw [qh_countBindings_L8]
    refine j_iload_n C d_qh_countBindings_8 rfl 2 rfl ?_
    refine j_iconst C d_qh_countBindings_9 rfl kc_i_m1 ?_
    refine j_icmp_eq C d_qh_countBindings_10 (tgt := 35) (by decide) rfl (fun c_1 => ?_) (fun c_1 => ?_)
    · refine J.pos (shR σ) c_1 ?_
      refine j_iload_n C d_qh_countBindings_35 rfl 1 rfl ?_
      exact j_iret C d_qh_countBindings_36
    · refine J.neg (shR σ) c_1 ?_
      refine j_iload_n C d_qh_countBindings_13 rfl 1 rfl ?_
      refine j_sipush C d_qh_countBindings_14 rfl kc_s_4100 ?_
      refine j_icmp_ge C d_qh_countBindings_17 (tgt := 35) (by decide) rfl (fun c_2 => ?_) (fun c_2 => ?_)
      · refine J.pos (shR σ) c_2 ?_
        refine j_iload_n C d_qh_countBindings_35 rfl 1 rfl ?_
        exact j_iret C d_qh_countBindings_36
      · refine J.neg (shR σ) c_2 ?_
        refine j_iinc C (v := (x2 + (1 : Int32))) (lv' := [(2, .int (x2 + (1 : Int32))), (0, .ref (kq (gK Γ) 15)), (3, .int x3)]) d_qh_countBindings_20 rfl 1 rfl (kc_inc_1 _) (by decide) rfl ?_
        refine j_aload_n C d_qh_countBindings_23 rfl 1 rfl ?_
        refine j_iload_n C d_qh_countBindings_24 rfl 2 rfl ?_
        refine cvr_qh_qh C (mc_qh_secondAt (gl Γ) (gK Γ) σ x3) qh_secondAt_I k_137 (by decide) d_qh_countBindings_25 rfl (rest := []) rfl ⟨rfl, Nat.le_of_ble_eq_true rfl⟩ ?_
        refine cs_qh C (mc_qh_nextIn (gl Γ) (gK Γ) (qh_secondAt σ x3)) qh_nextIn_I k_391 (by decide) d_qh_countBindings_28 rfl (rest := []) rfl (Nat.le_of_ble_eq_true rfl) ?_
        refine j_istore_n C (lv' := [(3, .int (qh_nextIn (qh_secondAt σ x3))), (2, .int (x2 + (1 : Int32))), (0, .ref (kq (gK Γ) 15))]) d_qh_countBindings_31 rfl rfl (by decide) rfl ?_
        refine j_goto C d_qh_countBindings_32 (tgt := 8) (by decide) ?_
        refine J.loc (lv' := [(0, .ref (kq (gK Γ) 15)), (2, .int (x2 + (1 : Int32))), (3, .int (qh_nextIn (qh_secondAt σ x3)))]) [2, 1, 0] rfl ?_
        exact ih σ (x2 + (1 : Int32)) (qh_nextIn (qh_secondAt σ x3))
theorem w_qh_countBindings {Γ : cx_T} (C : cx_C Γ (qh_w (gK Γ)) qcl qh_R qh_countBindings_c 4 (some .int) (2, 42)) (N : Nat) (σ : qh_S) (a1 : Int32) : J Γ (qh_w (gK Γ)) qcl (QF Γ (qh_w (gK Γ)) qcl ovI) ((shR σ) (qh_countBindings N σ a1)) σ 0 [(0, .ref (kq (gK Γ) 15)), (1, .int a1)] [] := by
  unfold qh_countBindings
  refine j_iconst C d_qh_countBindings_0 rfl kc_i_0 ?_
  refine j_istore_n C (lv' := [(2, .int (0 : Int32)), (0, .ref (kq (gK Γ) 15)), (1, .int a1)]) d_qh_countBindings_1 rfl rfl (by decide) rfl ?_
  refine j_aload_n C d_qh_countBindings_2 rfl 1 rfl ?_
  refine j_iload_n C d_qh_countBindings_3 rfl 2 rfl ?_
  refine cvr_qh_qh C (mc_qh_latestBindingOf (gl Γ) (gK Γ) σ a1) qh_latestBindingOf_I k_133 (by decide) d_qh_countBindings_4 rfl (rest := []) rfl ⟨rfl, Nat.le_of_ble_eq_true rfl⟩ ?_
  refine j_istore_n C (lv' := [(3, .int (qh_latestBindingOf σ a1)), (2, .int (0 : Int32)), (0, .ref (kq (gK Γ) 15)), (1, .int a1)]) d_qh_countBindings_7 rfl rfl (by decide) rfl ?_
  refine J.loc (lv' := [(0, .ref (kq (gK Γ) 15)), (2, .int (0 : Int32)), (3, .int (qh_latestBindingOf σ a1))]) [2, 1, 0] rfl ?_
  exact w_qh_countBindings_L8 C N N σ (0 : Int32) (qh_latestBindingOf σ a1)
theorem mc_qh_countBindings (l : Launch) (K : kk_T) (N : Nat) (σ : qh_S) (a1 : Int32) (r : Int32) (h : qh_countBindings N σ a1 = some r) : MC l qh_countBindings_y qh_countBindings_c 4 (some .int) (2, 42) K (qh_w K) qcl σ [.ref (kq K 15), .int a1] (some (.int r)) σ := mc_of (ov := ovI) (X := (shR σ) (qh_countBindings N σ a1)) (by decide +kernel) (Nat.le_of_ble_eq_true rfl) (fun _ => rfl) (by rw [h]; rfl) (fun Γ e1 e2 C => by subst e1; subst e2; exact w_qh_countBindings C N σ a1)
theorem qh_countBindings_I : ck_V qh_countBindings_y qh_countBindings_c 4 (some .int) 1 := ⟨k_474, k_96, by decide +kernel, k_472, k_473⟩
theorem w_qh_isPrimitive {Γ : cx_T} (C : cx_C Γ qw_w qcl qh_R qh_isPrimitive_c 1 (some .boolean) (0, 0)) (a0 : Int32) : J Γ qw_w qcl (QF Γ qw_w qcl ovI) ((shP ()) (qh_isPrimitive a0)) () 0 [(0, .int a0)] [] := by
  unfold qh_isPrimitive
  refine j_iload_n C d_qh_isPrimitive_0 rfl 0 rfl ?_
  refine j_bipush C d_qh_isPrimitive_1 rfl kc_b_100 ?_
  refine j_icmp_ge C d_qh_isPrimitive_3 (tgt := 10) (by decide) rfl (fun c_1 => ?_) (fun c_1 => ?_)
  · refine J.pos (shP ()) c_1 ?_
    refine j_iconst C d_qh_isPrimitive_10 rfl kc_i_0 ?_
    exact j_zret C rfl d_qh_isPrimitive_11
  · refine J.neg (shP ()) c_1 ?_
    refine j_iconst C d_qh_isPrimitive_6 rfl kc_i_1 ?_
    refine j_goto C d_qh_isPrimitive_7 (tgt := 11) (by decide) ?_
    exact j_zret C rfl d_qh_isPrimitive_11
theorem mc_qh_isPrimitive (l : Launch) (K : kk_T) (a0 : Int32) : MC l qh_isPrimitive_y qh_isPrimitive_c 1 (some .boolean) (0, 0) K qw_w qcl () [.int a0] (some (.int (qh_isPrimitive a0))) () := mc_of (ov := ovI) (X := (shP ()) (qh_isPrimitive a0)) (by decide +kernel) (Nat.le_of_ble_eq_true rfl) (fun _ => rfl) rfl (fun Γ e1 e2 C => by subst e1; subst e2; exact w_qh_isPrimitive C a0)
theorem qh_isPrimitive_I : ck_S qh_isPrimitive_y qh_isPrimitive_c 1 (some .boolean) 1 := ⟨k_544, k_96, by decide +kernel, k_543⟩
theorem w_qh_parametersOf {Γ : cx_T} (C : cx_C Γ (qh_w (gK Γ)) qcl qh_R qh_parametersOf_c 2 (some .long) (1, 21)) (σ : qh_S) (a1 : Int32) : J Γ (qh_w (gK Γ)) qcl (QF Γ (qh_w (gK Γ)) qcl ovL) ((shP σ) (qh_parametersOf σ a1)) σ 0 [(0, .ref (kq (gK Γ) 15)), (1, .int a1)] [] := by
  unfold qh_parametersOf
  refine j_aload_n C d_qh_parametersOf_0 rfl 0 rfl ?_
  refine j_iload_n C d_qh_parametersOf_1 rfl 1 rfl ?_
  refine cvr_qh_qh C (mc_qh_secondAt (gl Γ) (gK Γ) σ a1) qh_secondAt_I k_137 (by decide) d_qh_parametersOf_2 rfl (rest := []) rfl ⟨rfl, Nat.le_of_ble_eq_true rfl⟩ ?_
  refine j_bipush C d_qh_parametersOf_5 rfl kc_b_20 ?_
  refine j_lshr C d_qh_parametersOf_7 rfl (kc_shr_20 _) ?_
  exact j_lret C d_qh_parametersOf_8
theorem mc_qh_parametersOf (l : Launch) (K : kk_T) (σ : qh_S) (a1 : Int32) : MC l qh_parametersOf_y qh_parametersOf_c 2 (some .long) (1, 21) K (qh_w K) qcl σ [.ref (kq K 15), .int a1] (some (.long (qh_parametersOf σ a1))) σ := mc_of (ov := ovL) (X := (shP σ) (qh_parametersOf σ a1)) (by decide +kernel) (Nat.le_of_ble_eq_true rfl) (fun _ => rfl) rfl (fun Γ e1 e2 C => by subst e1; subst e2; exact w_qh_parametersOf C σ a1)
theorem qh_parametersOf_I : ck_V qh_parametersOf_y qh_parametersOf_c 2 (some .long) 1 := ⟨k_552, k_96, by decide +kernel, k_550, k_551⟩
theorem w_qh_scopeOf {Γ : cx_T} (C : cx_C Γ (qh_w (gK Γ)) qcl qh_R qh_scopeOf_c 2 (some .int) (1, 21)) (σ : qh_S) (a1 : Int32) : J Γ (qh_w (gK Γ)) qcl (QF Γ (qh_w (gK Γ)) qcl ovI) ((shP σ) (qh_scopeOf σ a1)) σ 0 [(0, .ref (kq (gK Γ) 15)), (1, .int a1)] [] := by
  unfold qh_scopeOf
  refine j_aload_n C d_qh_scopeOf_0 rfl 0 rfl ?_
  refine j_iload_n C d_qh_scopeOf_1 rfl 1 rfl ?_
  refine cvr_qh_qh C (mc_qh_secondAt (gl Γ) (gK Γ) σ a1) qh_secondAt_I k_137 (by decide) d_qh_scopeOf_2 rfl (rest := []) rfl ⟨rfl, Nat.le_of_ble_eq_true rfl⟩ ?_
  refine j_ldc2 C d_qh_scopeOf_5 rfl k_586 ?_
  refine j_land C d_qh_scopeOf_8 rfl ?_
  refine j_l2i C d_qh_scopeOf_9 rfl ?_
  exact j_iret C d_qh_scopeOf_10
theorem mc_qh_scopeOf (l : Launch) (K : kk_T) (σ : qh_S) (a1 : Int32) : MC l qh_scopeOf_y qh_scopeOf_c 2 (some .int) (1, 21) K (qh_w K) qcl σ [.ref (kq K 15), .int a1] (some (.int (qh_scopeOf σ a1))) σ := mc_of (ov := ovI) (X := (shP σ) (qh_scopeOf σ a1)) (by decide +kernel) (Nat.le_of_ble_eq_true rfl) (fun _ => rfl) rfl (fun Γ e1 e2 C => by subst e1; subst e2; exact w_qh_scopeOf C σ a1)
theorem qh_scopeOf_I : ck_V qh_scopeOf_y qh_scopeOf_c 2 (some .int) 1 := ⟨k_585, k_96, by decide +kernel, k_583, k_584⟩
theorem w_qh_addEnvironment {Γ : cx_T} (C : cx_C Γ (qh_w (gK Γ)) qcl qh_R qh_addEnvironment_c 2 (some .int) (1, 25)) (σ : qh_S) (a1 : Int32) : J Γ (qh_w (gK Γ)) qcl (QF Γ (qh_w (gK Γ)) qcl ovI) (shT (qh_addEnvironment σ a1)) σ 0 [(0, .ref (kq (gK Γ) 15)), (1, .int a1)] [] := by
  unfold qh_addEnvironment
  refine j_aload_n C d_qh_addEnvironment_0 rfl 0 rfl ?_
  refine j_iload_n C d_qh_addEnvironment_1 rfl 1 rfl ?_
  refine j_i2l C d_qh_addEnvironment_2 rfl ?_
  refine j_ldc2 C d_qh_addEnvironment_3 rfl k_121 ?_
  refine cv_qh_qh C (mc_qh_add (gl Γ) (gK Γ) σ (Int32.toInt64 a1) (-1 : Int64)) qh_add_I k_407 (by decide) d_qh_addEnvironment_6 rfl (rest := []) rfl ⟨rfl, Nat.le_of_ble_eq_true rfl⟩ ?_
  exact j_iret C d_qh_addEnvironment_9
theorem mc_qh_addEnvironment (l : Launch) (K : kk_T) (σ : qh_S) (a1 : Int32) : MC l qh_addEnvironment_y qh_addEnvironment_c 2 (some .int) (1, 25) K (qh_w K) qcl σ [.ref (kq K 15), .int a1] (some (.int (qh_addEnvironment σ a1).1)) (qh_addEnvironment σ a1).2 := mc_of (ov := ovI) (X := shT (qh_addEnvironment σ a1)) (by decide +kernel) (Nat.le_of_ble_eq_true rfl) (fun _ => rfl) rfl (fun Γ e1 e2 C => by subst e1; subst e2; exact w_qh_addEnvironment C σ a1)
theorem qh_addEnvironment_I : ck_V qh_addEnvironment_y qh_addEnvironment_c 2 (some .int) 1 := ⟨k_590, k_96, by decide +kernel, k_588, k_589⟩
theorem w_qh_addBinding {Γ : cx_T} (C : cx_C Γ (qh_w (gK Γ)) qcl qh_R qh_addBinding_c 6 (some .boolean) (2, 42)) (σ : qh_S) (a1 : Int32) (a2 : Int32) (a3 : Int64) : J Γ (qh_w (gK Γ)) qcl (QF Γ (qh_w (gK Γ)) qcl ovI) (shT (qh_addBinding σ a1 a2 a3)) σ 0 [(0, .ref (kq (gK Γ) 15)), (1, .int a1), (2, .int a2), (3, .long a3)] [] := by
  unfold qh_addBinding
  refine j_aload_n C d_qh_addBinding_0 rfl 0 rfl ?_
  refine j_lload_n C d_qh_addBinding_1 rfl 3 rfl ?_
  refine j_iload_n C d_qh_addBinding_2 rfl 2 rfl ?_
  refine j_aload_n C d_qh_addBinding_3 rfl 0 rfl ?_
  refine j_iload_n C d_qh_addBinding_4 rfl 1 rfl ?_
  refine cvr_qh_qh C (mc_qh_latestBindingOf (gl Γ) (gK Γ) σ a1) qh_latestBindingOf_I k_133 (by decide) d_qh_addBinding_5 rfl (rest := [.int a2, .long a3, .ref (kq (gK Γ) 15)]) rfl ⟨rfl, Nat.le_of_ble_eq_true rfl⟩ ?_
  refine cs_qh C (mc_qh_packLink (gl Γ) (gK Γ) a2 (qh_latestBindingOf σ a1)) qh_packLink_I k_142 (by decide) d_qh_addBinding_8 rfl (rest := [.long a3, .ref (kq (gK Γ) 15)]) rfl (Nat.le_of_ble_eq_true rfl) ?_
  refine cv_qh_qh C (mc_qh_add (gl Γ) (gK Γ) σ a3 (qh_packLink a2 (qh_latestBindingOf σ a1))) qh_add_I k_407 (by decide) d_qh_addBinding_11 rfl (rest := []) rfl ⟨rfl, Nat.le_of_ble_eq_true rfl⟩ ?_
  refine j_istore C (lv' := [(5, .int (qh_add σ a3 (qh_packLink a2 (qh_latestBindingOf σ a1))).1), (0, .ref (kq (gK Γ) 15)), (1, .int a1), (2, .int a2), (3, .long a3)]) d_qh_addBinding_14 rfl (by decide) rfl ?_
  refine j_iload C d_qh_addBinding_16 rfl 0 rfl ?_
  refine j_iconst C d_qh_addBinding_18 rfl kc_i_m1 ?_
  refine j_icmp_ne C d_qh_addBinding_19 (tgt := 24) (by decide) rfl (fun c_1 => ?_) (fun c_1 => ?_)
  · refine J.neg shT c_1 ?_
    refine j_aload_n C d_qh_addBinding_24 rfl 1 rfl ?_
    refine j_iload_n C d_qh_addBinding_25 rfl 2 rfl ?_
    refine j_aload_n C d_qh_addBinding_26 rfl 1 rfl ?_
    refine j_iload_n C d_qh_addBinding_27 rfl 2 rfl ?_
    refine cvr_qh_qh C (mc_qh_firstAt (gl Γ) (gK Γ) (qh_add σ a3 (qh_packLink a2 (qh_latestBindingOf σ a1))).2 a1) qh_firstAt_I k_350 (by decide) d_qh_addBinding_28 rfl (rest := [.int a1, .ref (kq (gK Γ) 15)]) rfl ⟨rfl, Nat.le_of_ble_eq_true rfl⟩ ?_
    refine j_iload C d_qh_addBinding_31 rfl 0 rfl ?_
    refine j_i2l C d_qh_addBinding_33 rfl ?_
    refine cv0_qh_qh C (mc_qh_write (gl Γ) (gK Γ) (qh_add σ a3 (qh_packLink a2 (qh_latestBindingOf σ a1))).2 a1 (qh_firstAt (qh_add σ a3 (qh_packLink a2 (qh_latestBindingOf σ a1))).2 a1) (Int32.toInt64 (qh_add σ a3 (qh_packLink a2 (qh_latestBindingOf σ a1))).1)) qh_write_I k_122 (by decide) d_qh_addBinding_34 rfl (rest := []) rfl ⟨rfl, Nat.le_of_ble_eq_true rfl⟩ ?_
    refine j_iconst C d_qh_addBinding_37 rfl kc_i_1 ?_
    exact j_zret C rfl d_qh_addBinding_38
  · refine J.pos shT c_1 ?_
    refine j_iconst C d_qh_addBinding_22 rfl kc_i_0 ?_
    exact j_zret C rfl d_qh_addBinding_23
theorem mc_qh_addBinding (l : Launch) (K : kk_T) (σ : qh_S) (a1 : Int32) (a2 : Int32) (a3 : Int64) : MC l qh_addBinding_y qh_addBinding_c 6 (some .boolean) (2, 42) K (qh_w K) qcl σ [.ref (kq K 15), .int a1, .int a2, .long a3] (some (.int (qh_addBinding σ a1 a2 a3).1)) (qh_addBinding σ a1 a2 a3).2 := mc_of (ov := ovI) (X := shT (qh_addBinding σ a1 a2 a3)) (by decide +kernel) (Nat.le_of_ble_eq_true rfl) (fun _ => rfl) rfl (fun Γ e1 e2 C => by subst e1; subst e2; exact w_qh_addBinding C σ a1 a2 a3)
theorem qh_addBinding_I : ck_V qh_addBinding_y qh_addBinding_c 6 (some .boolean) 3 := ⟨k_598, k_96, by decide +kernel, k_596, k_597⟩
theorem w_qh_environmentSymbolOf {Γ : cx_T} (C : cx_C Γ (qh_w (gK Γ)) qcl qh_R qh_environmentSymbolOf_c 2 (some .int) (1, 21)) (σ : qh_S) (a1 : Int32) : J Γ (qh_w (gK Γ)) qcl (QF Γ (qh_w (gK Γ)) qcl ovI) ((shP σ) (qh_environmentSymbolOf σ a1)) σ 0 [(0, .ref (kq (gK Γ) 15)), (1, .int a1)] [] := by
  unfold qh_environmentSymbolOf
  refine j_aload_n C d_qh_environmentSymbolOf_0 rfl 0 rfl ?_
  refine j_iload_n C d_qh_environmentSymbolOf_1 rfl 1 rfl ?_
  refine cvr_qh_qh C (mc_qh_secondAt (gl Γ) (gK Γ) σ a1) qh_secondAt_I k_137 (by decide) d_qh_environmentSymbolOf_2 rfl (rest := []) rfl ⟨rfl, Nat.le_of_ble_eq_true rfl⟩ ?_
  refine j_bipush C d_qh_environmentSymbolOf_5 rfl kc_b_13 ?_
  refine j_lshr C d_qh_environmentSymbolOf_7 rfl (kc_shr_13 _) ?_
  refine j_ldc2 C d_qh_environmentSymbolOf_8 rfl k_390 ?_
  refine j_land C d_qh_environmentSymbolOf_11 rfl ?_
  refine j_l2i C d_qh_environmentSymbolOf_12 rfl ?_
  exact j_iret C d_qh_environmentSymbolOf_13
theorem mc_qh_environmentSymbolOf (l : Launch) (K : kk_T) (σ : qh_S) (a1 : Int32) : MC l qh_environmentSymbolOf_y qh_environmentSymbolOf_c 2 (some .int) (1, 21) K (qh_w K) qcl σ [.ref (kq K 15), .int a1] (some (.int (qh_environmentSymbolOf σ a1))) σ := mc_of (ov := ovI) (X := (shP σ) (qh_environmentSymbolOf σ a1)) (by decide +kernel) (Nat.le_of_ble_eq_true rfl) (fun _ => rfl) rfl (fun Γ e1 e2 C => by subst e1; subst e2; exact w_qh_environmentSymbolOf C σ a1)
theorem qh_environmentSymbolOf_I : ck_V qh_environmentSymbolOf_y qh_environmentSymbolOf_c 2 (some .int) 1 := ⟨k_602, k_96, by decide +kernel, k_600, k_601⟩
theorem w_qh_bodyOf {Γ : cx_T} (C : cx_C Γ (qh_w (gK Γ)) qcl qh_R qh_bodyOf_c 2 (some .long) (1, 21)) (σ : qh_S) (a1 : Int32) : J Γ (qh_w (gK Γ)) qcl (QF Γ (qh_w (gK Γ)) qcl ovL) ((shP σ) (qh_bodyOf σ a1)) σ 0 [(0, .ref (kq (gK Γ) 15)), (1, .int a1)] [] := by
  unfold qh_bodyOf
  refine j_aload_n C d_qh_bodyOf_0 rfl 0 rfl ?_
  refine j_iload_n C d_qh_bodyOf_1 rfl 1 rfl ?_
  refine cvr_qh_qh C (mc_qh_firstAt (gl Γ) (gK Γ) σ a1) qh_firstAt_I k_350 (by decide) d_qh_bodyOf_2 rfl (rest := []) rfl ⟨rfl, Nat.le_of_ble_eq_true rfl⟩ ?_
  exact j_lret C d_qh_bodyOf_5
theorem mc_qh_bodyOf (l : Launch) (K : kk_T) (σ : qh_S) (a1 : Int32) : MC l qh_bodyOf_y qh_bodyOf_c 2 (some .long) (1, 21) K (qh_w K) qcl σ [.ref (kq K 15), .int a1] (some (.long (qh_bodyOf σ a1))) σ := mc_of (ov := ovL) (X := (shP σ) (qh_bodyOf σ a1)) (by decide +kernel) (Nat.le_of_ble_eq_true rfl) (fun _ => rfl) rfl (fun Γ e1 e2 C => by subst e1; subst e2; exact w_qh_bodyOf C σ a1)
theorem qh_bodyOf_I : ck_V qh_bodyOf_y qh_bodyOf_c 2 (some .long) 1 := ⟨k_611, k_96, by decide +kernel, k_609, k_610⟩
theorem w_qh_elementOf_L6 {Γ : cx_T} (C : cx_C Γ (qh_w (gK Γ)) qcl qh_R qh_elementOf_c 7 (some .long) (1, 21)) (N : Nat) : ∀ (k : Nat) (σ : qh_S) (x3 : Int32) (x4 : Int64) (x6 : Int32), J Γ (qh_w (gK Γ)) qcl (QF Γ (qh_w (gK Γ)) qcl ovL) ((shR σ) (qh_elementOf_L6 N k σ x3 x4 x6)) σ 6 [(0, .ref (kq (gK Γ) 15)), (3, .int x3), (4, .long x4), (6, .int x6)] [] := by
  intro k
  induction k with
  | zero => intro σ x3 x4 x6; exact J.none rfl
  | succ k ih =>
    intro σ x3 x4 x6
    rw [qh_elementOf_L6]
    refine j_iload C d_qh_elementOf_6 rfl 3 rfl ?_
    refine j_iload_n C d_qh_elementOf_8 rfl 1 rfl ?_
    refine j_icmp_ge C d_qh_elementOf_9 (tgt := 29) (by decide) rfl (fun c_1 => ?_) (fun c_1 => ?_)
    · refine J.pos (shR σ) c_1 ?_
      refine j_aload_n C d_qh_elementOf_29 rfl 0 rfl ?_
      refine j_lload C d_qh_elementOf_30 rfl 2 rfl ?_
      refine cs_qh C (mc_qw_rowOf (gl Γ) (gK Γ) x4) qw_rowOf_I k_347 (by decide) d_qh_elementOf_32 rfl (rest := [.ref (kq (gK Γ) 15)]) rfl (Nat.le_of_ble_eq_true rfl) ?_
      refine cvr_qh_qh C (mc_qh_firstAt (gl Γ) (gK Γ) σ (qw_rowOf x4)) qh_firstAt_I k_350 (by decide) d_qh_elementOf_35 rfl (rest := []) rfl ⟨rfl, Nat.le_of_ble_eq_true rfl⟩ ?_
      exact j_lret C d_qh_elementOf_38
    · refine J.neg (shR σ) c_1 ?_
      refine j_aload_n C d_qh_elementOf_12 rfl 0 rfl ?_
      refine j_lload C d_qh_elementOf_13 rfl 2 rfl ?_
      refine cs_qh C (mc_qw_rowOf (gl Γ) (gK Γ) x4) qw_rowOf_I k_347 (by decide) d_qh_elementOf_15 rfl (rest := [.ref (kq (gK Γ) 15)]) rfl (Nat.le_of_ble_eq_true rfl) ?_
      refine cvr_qh_qh C (mc_qh_secondAt (gl Γ) (gK Γ) σ (qw_rowOf x4)) qh_secondAt_I k_137 (by decide) d_qh_elementOf_18 rfl (rest := []) rfl ⟨rfl, Nat.le_of_ble_eq_true rfl⟩ ?_
      refine j_lstore C (lv' := [(4, .long (qh_secondAt σ (qw_rowOf x4))), (0, .ref (kq (gK Γ) 15)), (3, .int x3), (6, .int x6)]) d_qh_elementOf_21 rfl (by decide) rfl ?_
      refine j_iinc C (v := (x6 + (1 : Int32))) (lv' := [(6, .int (x6 + (1 : Int32))), (4, .long (qh_secondAt σ (qw_rowOf x4))), (0, .ref (kq (gK Γ) 15)), (3, .int x3)]) d_qh_elementOf_23 rfl 3 rfl (kc_inc_1 _) (by decide) rfl ?_
      refine j_goto C d_qh_elementOf_26 (tgt := 6) (by decide) ?_
      refine J.loc (lv' := [(0, .ref (kq (gK Γ) 15)), (3, .int x3), (4, .long (qh_secondAt σ (qw_rowOf x4))), (6, .int (x6 + (1 : Int32)))]) [2, 3, 1, 0] rfl ?_
      exact ih σ x3 (qh_secondAt σ (qw_rowOf x4)) (x6 + (1 : Int32))
theorem w_qh_elementOf {Γ : cx_T} (C : cx_C Γ (qh_w (gK Γ)) qcl qh_R qh_elementOf_c 7 (some .long) (1, 21)) (N : Nat) (σ : qh_S) (a1 : Int64) (a3 : Int32) : J Γ (qh_w (gK Γ)) qcl (QF Γ (qh_w (gK Γ)) qcl ovL) ((shR σ) (qh_elementOf N σ a1 a3)) σ 0 [(0, .ref (kq (gK Γ) 15)), (1, .long a1), (3, .int a3)] [] := by
  unfold qh_elementOf
  refine j_lload_n C d_qh_elementOf_0 rfl 1 rfl ?_
  refine j_lstore C (lv' := [(4, .long a1), (0, .ref (kq (gK Γ) 15)), (1, .long a1), (3, .int a3)]) d_qh_elementOf_1 rfl (by decide) rfl ?_
  refine j_iconst C d_qh_elementOf_3 rfl kc_i_0 ?_
  refine j_istore C (lv' := [(6, .int (0 : Int32)), (4, .long a1), (0, .ref (kq (gK Γ) 15)), (1, .long a1), (3, .int a3)]) d_qh_elementOf_4 rfl (by decide) rfl ?_
  refine J.loc (lv' := [(0, .ref (kq (gK Γ) 15)), (3, .int a3), (4, .long a1), (6, .int (0 : Int32))]) [2, 4, 1, 0] rfl ?_
  exact w_qh_elementOf_L6 C N N σ a3 a1 (0 : Int32)
theorem mc_qh_elementOf (l : Launch) (K : kk_T) (N : Nat) (σ : qh_S) (a1 : Int64) (a3 : Int32) (r : Int64) (h : qh_elementOf N σ a1 a3 = some r) : MC l qh_elementOf_y qh_elementOf_c 7 (some .long) (1, 21) K (qh_w K) qcl σ [.ref (kq K 15), .long a1, .int a3] (some (.long r)) σ := mc_of (ov := ovL) (X := (shR σ) (qh_elementOf N σ a1 a3)) (by decide +kernel) (Nat.le_of_ble_eq_true rfl) (fun _ => rfl) (by rw [h]; rfl) (fun Γ e1 e2 C => by subst e1; subst e2; exact w_qh_elementOf C N σ a1 a3)
theorem qh_elementOf_I : ck_V qh_elementOf_y qh_elementOf_c 7 (some .long) 2 := ⟨k_633, k_96, by decide +kernel, k_631, k_632⟩
theorem w_qw_isCombiner {Γ : cx_T} (C : cx_C Γ qw_w qcl qw_R qw_isCombiner_c 2 (some .boolean) (1, 21)) (a0 : Int64) : J Γ qw_w qcl (QF Γ qw_w qcl ovI) ((shP ()) (qw_isCombiner a0)) () 0 [(0, .long a0)] [] := by
  unfold qw_isCombiner
  refine j_lload_n C d_qw_isCombiner_0 rfl 0 rfl ?_
  refine cs_qw C (mc_qw_kindOf (gl Γ) (gK Γ) a0) qw_kindOf_I k_659 (by decide) d_qw_isCombiner_1 rfl (rest := []) rfl (Nat.le_of_ble_eq_true rfl) ?_
  refine j_iconst C d_qw_isCombiner_4 rfl kc_i_5 ?_
  refine j_icmp_eq C d_qw_isCombiner_5 (tgt := 17) (by decide) rfl (fun c_1 => ?_) (fun c_1 => ?_)
  · refine J.pos (shP ()) c_1 ?_
    refine j_iconst C d_qw_isCombiner_17 rfl kc_i_1 ?_
    refine j_goto C d_qw_isCombiner_18 (tgt := 22) (by decide) ?_
    exact j_zret C rfl d_qw_isCombiner_22
  · refine J.neg (shP ()) c_1 ?_
    refine j_lload_n C d_qw_isCombiner_8 rfl 0 rfl ?_
    refine cs_qw C (mc_qw_kindOf (gl Γ) (gK Γ) a0) qw_kindOf_I k_659 (by decide) d_qw_isCombiner_9 rfl (rest := []) rfl (Nat.le_of_ble_eq_true rfl) ?_
    refine j_bipush C d_qw_isCombiner_12 rfl kc_b_6 ?_
    refine j_icmp_ne C d_qw_isCombiner_14 (tgt := 21) (by decide) rfl (fun c_2 => ?_) (fun c_2 => ?_)
    · refine J.neg (shP ()) c_2 ?_
      refine j_iconst C d_qw_isCombiner_21 rfl kc_i_0 ?_
      exact j_zret C rfl d_qw_isCombiner_22
    · refine J.pos (shP ()) c_2 ?_
      refine j_iconst C d_qw_isCombiner_17 rfl kc_i_1 ?_
      refine j_goto C d_qw_isCombiner_18 (tgt := 22) (by decide) ?_
      exact j_zret C rfl d_qw_isCombiner_22
theorem mc_qw_isCombiner (l : Launch) (K : kk_T) (a0 : Int64) : MC l qw_isCombiner_y qw_isCombiner_c 2 (some .boolean) (1, 21) K qw_w qcl () [.long a0] (some (.int (qw_isCombiner a0))) () := mc_of (ov := ovI) (X := (shP ()) (qw_isCombiner a0)) (by decide +kernel) (Nat.le_of_ble_eq_true rfl) (fun _ => rfl) rfl (fun Γ e1 e2 C => by subst e1; subst e2; exact w_qw_isCombiner C a0)
theorem qw_isCombiner_I : ck_S qw_isCombiner_y qw_isCombiner_c 2 (some .boolean) 1 := ⟨k_658, k_97, by decide +kernel, k_657⟩
theorem w_qh_addOperative {Γ : cx_T} (C : cx_C Γ (qh_w (gK Γ)) qcl qh_R qh_addOperative_c 9 (some .int) (1, 25)) (σ : qh_S) (a1 : Int64) (a3 : Int32) (a4 : Int64) (a6 : Int32) : J Γ (qh_w (gK Γ)) qcl (QF Γ (qh_w (gK Γ)) qcl ovI) (shT (qh_addOperative σ a1 a3 a4 a6)) σ 0 [(0, .ref (kq (gK Γ) 15)), (1, .long a1), (3, .int a3), (4, .long a4), (6, .int a6)] [] := by
  unfold qh_addOperative
  refine j_lload_n C d_qh_addOperative_0 rfl 1 rfl ?_
  refine j_bipush C d_qh_addOperative_1 rfl kc_b_7 ?_
  refine j_lshl C d_qh_addOperative_3 rfl (kc_shl_7 _) ?_
  refine j_iload_n C d_qh_addOperative_4 rfl 2 rfl ?_
  refine j_i2l C d_qh_addOperative_5 rfl ?_
  refine j_lor C d_qh_addOperative_6 rfl ?_
  refine j_lstore C (lv' := [(7, .long ((a1 <<< 7) ||| (Int32.toInt64 a3))), (0, .ref (kq (gK Γ) 15)), (1, .long a1), (3, .int a3), (4, .long a4), (6, .int a6)]) d_qh_addOperative_7 rfl (by decide) rfl ?_
  refine j_aload_n C d_qh_addOperative_9 rfl 1 rfl ?_
  refine j_lload C d_qh_addOperative_10 rfl 4 rfl ?_
  refine j_lload C d_qh_addOperative_12 rfl 0 rfl ?_
  refine j_bipush C d_qh_addOperative_14 rfl kc_b_13 ?_
  refine j_lshl C d_qh_addOperative_16 rfl (kc_shl_13 _) ?_
  refine j_iload C d_qh_addOperative_17 rfl 5 rfl ?_
  refine j_i2l C d_qh_addOperative_19 rfl ?_
  refine j_lor C d_qh_addOperative_20 rfl ?_
  refine cv_qh_qh C (mc_qh_add (gl Γ) (gK Γ) σ a4 ((((a1 <<< 7) ||| (Int32.toInt64 a3)) <<< 13) ||| (Int32.toInt64 a6))) qh_add_I k_407 (by decide) d_qh_addOperative_21 rfl (rest := []) rfl ⟨rfl, Nat.le_of_ble_eq_true rfl⟩ ?_
  exact j_iret C d_qh_addOperative_24
theorem mc_qh_addOperative (l : Launch) (K : kk_T) (σ : qh_S) (a1 : Int64) (a3 : Int32) (a4 : Int64) (a6 : Int32) : MC l qh_addOperative_y qh_addOperative_c 9 (some .int) (1, 25) K (qh_w K) qcl σ [.ref (kq K 15), .long a1, .int a3, .long a4, .int a6] (some (.int (qh_addOperative σ a1 a3 a4 a6).1)) (qh_addOperative σ a1 a3 a4 a6).2 := mc_of (ov := ovI) (X := shT (qh_addOperative σ a1 a3 a4 a6)) (by decide +kernel) (Nat.le_of_ble_eq_true rfl) (fun _ => rfl) rfl (fun Γ e1 e2 C => by subst e1; subst e2; exact w_qh_addOperative C σ a1 a3 a4 a6)
theorem qh_addOperative_I : ck_V qh_addOperative_y qh_addOperative_c 9 (some .int) 4 := ⟨k_671, k_96, by decide +kernel, k_669, k_670⟩
theorem w_qh_addApplicative {Γ : cx_T} (C : cx_C Γ (qh_w (gK Γ)) qcl qh_R qh_addApplicative_c 3 (some .int) (1, 25)) (σ : qh_S) (a1 : Int64) : J Γ (qh_w (gK Γ)) qcl (QF Γ (qh_w (gK Γ)) qcl ovI) (shT (qh_addApplicative σ a1)) σ 0 [(0, .ref (kq (gK Γ) 15)), (1, .long a1)] [] := by
  unfold qh_addApplicative
  refine j_aload_n C d_qh_addApplicative_0 rfl 0 rfl ?_
  refine j_lload_n C d_qh_addApplicative_1 rfl 1 rfl ?_
  refine j_lconst C d_qh_addApplicative_2 rfl kc_l_0 ?_
  refine cv_qh_qh C (mc_qh_add (gl Γ) (gK Γ) σ a1 (0 : Int64)) qh_add_I k_407 (by decide) d_qh_addApplicative_3 rfl (rest := []) rfl ⟨rfl, Nat.le_of_ble_eq_true rfl⟩ ?_
  exact j_iret C d_qh_addApplicative_6
theorem mc_qh_addApplicative (l : Launch) (K : kk_T) (σ : qh_S) (a1 : Int64) : MC l qh_addApplicative_y qh_addApplicative_c 3 (some .int) (1, 25) K (qh_w K) qcl σ [.ref (kq K 15), .long a1] (some (.int (qh_addApplicative σ a1).1)) (qh_addApplicative σ a1).2 := mc_of (ov := ovI) (X := shT (qh_addApplicative σ a1)) (by decide +kernel) (Nat.le_of_ble_eq_true rfl) (fun _ => rfl) rfl (fun Γ e1 e2 C => by subst e1; subst e2; exact w_qh_addApplicative C σ a1)
theorem qh_addApplicative_I : ck_V qh_addApplicative_y qh_addApplicative_c 3 (some .int) 1 := ⟨k_683, k_96, by decide +kernel, k_681, k_682⟩
theorem w_qw_product {Γ : cx_T} (C : cx_C Γ qw_w qcl qw_R qw_product_c 4 (some .long) (1, 17)) (a0 : Int64) (a2 : Int64) : J Γ qw_w qcl (QF Γ qw_w qcl ovL) ((shP ()) (qw_product a0 a2)) () 0 [(0, .long a0), (2, .long a2)] [] := by
  unfold qw_product
  refine j_lload_n C d_qw_product_0 rfl 0 rfl ?_
  refine j_lconst C d_qw_product_1 rfl kc_l_0 ?_
  refine j_lcmp_eq C d_qw_product_2 d_qw_product_3 (tgt := 26) (by decide) rfl (fun c_1 => ?_) (fun c_1 => ?_)
  · refine J.pos (shP ()) c_1 ?_
    refine j_lload_n C d_qw_product_26 rfl 0 rfl ?_
    refine j_lload_n C d_qw_product_27 rfl 1 rfl ?_
    refine j_lmul C d_qw_product_28 rfl ?_
    exact j_lret C d_qw_product_29
  · refine J.neg (shP ()) c_1 ?_
    refine j_lload_n C d_qw_product_6 rfl 1 rfl ?_
    refine j_abs C k_abs_ml k_abs_st k_abs_in k_abs_cd ⟨Nat.le_of_ble_eq_true rfl, Nat.le_of_ble_eq_true rfl⟩ d_qw_product_7 rfl ?_
    refine j_ldc2 C d_qw_product_10 rfl k_292 ?_
    refine j_lload_n C d_qw_product_13 rfl 0 rfl ?_
    refine j_abs C k_abs_ml k_abs_st k_abs_in k_abs_cd ⟨Nat.le_of_ble_eq_true rfl, Nat.le_of_ble_eq_true rfl⟩ d_qw_product_14 rfl ?_
    refine j_ldiv C d_qw_product_17 rfl (qabs_ne c_1) ?_
    refine j_lcmp_le C d_qw_product_18 d_qw_product_19 (tgt := 26) (by decide) rfl (fun c_2 => ?_) (fun c_2 => ?_)
    · refine J.neg (shP ()) c_2 ?_
      refine j_lload_n C d_qw_product_26 rfl 0 rfl ?_
      refine j_lload_n C d_qw_product_27 rfl 1 rfl ?_
      refine j_lmul C d_qw_product_28 rfl ?_
      exact j_lret C d_qw_product_29
    · refine J.pos (shP ()) c_2 ?_
      refine j_ldc2 C d_qw_product_22 rfl k_703 ?_
      exact j_lret C d_qw_product_25
theorem mc_qw_product (l : Launch) (K : kk_T) (a0 : Int64) (a2 : Int64) : MC l qw_product_y qw_product_c 4 (some .long) (1, 17) K qw_w qcl () [.long a0, .long a2] (some (.long (qw_product a0 a2))) () := mc_of (ov := ovL) (X := (shP ()) (qw_product a0 a2)) (by decide +kernel) (Nat.le_of_ble_eq_true rfl) (fun _ => rfl) rfl (fun Γ e1 e2 C => by subst e1; subst e2; exact w_qw_product C a0 a2)
theorem qw_product_I : ck_S qw_product_y qw_product_c 4 (some .long) 2 := ⟨k_699, k_97, by decide +kernel, k_698⟩
theorem w_qh_bind {Γ : cx_T} (C : cx_C Γ (qh_w (gK Γ)) qcl qh_R qh_bind_c 6 (some .boolean) (3, 68)) (N : Nat) (σ : qh_S) (a1 : Int32) (a2 : Int32) (a3 : Int64) : J Γ (qh_w (gK Γ)) qcl (QF Γ (qh_w (gK Γ)) qcl ovI) (shO (qh_bind N σ a1 a2 a3)) σ 0 [(0, .ref (kq (gK Γ) 15)), (1, .int a1), (2, .int a2), (3, .long a3)] [] := by
  unfold qh_bind
  refine j_aload_n C d_qh_bind_0 rfl 0 rfl ?_
  refine j_iload_n C d_qh_bind_1 rfl 1 rfl ?_
  refine j_iload_n C d_qh_bind_2 rfl 2 rfl ?_
  refine J.goO (fun r1 h_2 => ?_)
  refine cvr_qh_qh C (mc_qh_ownBinding (gl Γ) (gK Γ) N σ a1 a2 r1 h_2) qh_ownBinding_I k_383 (by decide) d_qh_bind_3 rfl (rest := []) rfl ⟨rfl, Nat.le_of_ble_eq_true rfl⟩ ?_
  refine j_istore C (lv' := [(5, .int r1), (0, .ref (kq (gK Γ) 15)), (1, .int a1), (2, .int a2), (3, .long a3)]) d_qh_bind_6 rfl (by decide) rfl ?_
  refine j_iload C d_qh_bind_8 rfl 0 rfl ?_
  refine j_iconst C d_qh_bind_10 rfl kc_i_m1 ?_
  refine j_icmp_eq C d_qh_bind_11 (tgt := 29) (by decide) rfl (fun c_3 => ?_) (fun c_3 => ?_)
  · refine J.pos shO c_3 ?_
    refine j_aload_n C d_qh_bind_29 rfl 1 rfl ?_
    refine j_iload_n C d_qh_bind_30 rfl 2 rfl ?_
    refine j_iload_n C d_qh_bind_31 rfl 3 rfl ?_
    refine j_lload_n C d_qh_bind_32 rfl 4 rfl ?_
    refine cv_qh_qh C (mc_qh_addBinding (gl Γ) (gK Γ) σ a1 a2 a3) qh_addBinding_I k_775 (by decide) d_qh_bind_33 rfl (rest := []) rfl ⟨rfl, Nat.le_of_ble_eq_true rfl⟩ ?_
    exact j_bret C d_qh_bind_36
  · refine J.neg shO c_3 ?_
    refine j_aload_n C d_qh_bind_14 rfl 1 rfl ?_
    refine j_iload C d_qh_bind_15 rfl 0 rfl ?_
    refine j_lload_n C d_qh_bind_17 rfl 4 rfl ?_
    refine j_aload_n C d_qh_bind_18 rfl 1 rfl ?_
    refine j_iload C d_qh_bind_19 rfl 0 rfl ?_
    refine cvr_qh_qh C (mc_qh_secondAt (gl Γ) (gK Γ) σ r1) qh_secondAt_I k_137 (by decide) d_qh_bind_21 rfl (rest := [.long a3, .int r1, .ref (kq (gK Γ) 15)]) rfl ⟨rfl, Nat.le_of_ble_eq_true rfl⟩ ?_
    refine cv0_qh_qh C (mc_qh_write (gl Γ) (gK Γ) σ r1 a3 (qh_secondAt σ r1)) qh_write_I k_122 (by decide) d_qh_bind_24 rfl (rest := []) rfl ⟨rfl, Nat.le_of_ble_eq_true rfl⟩ ?_
    refine j_iconst C d_qh_bind_27 rfl kc_i_1 ?_
    exact j_zret C rfl d_qh_bind_28
theorem mc_qh_bind (l : Launch) (K : kk_T) (N : Nat) (σ : qh_S) (a1 : Int32) (a2 : Int32) (a3 : Int64) (r : Int32 × qh_S) (h : qh_bind N σ a1 a2 a3 = some r) : MC l qh_bind_y qh_bind_c 6 (some .boolean) (3, 68) K (qh_w K) qcl σ [.ref (kq K 15), .int a1, .int a2, .long a3] (some (.int r.1)) r.2 := mc_of (ov := ovI) (X := shO (qh_bind N σ a1 a2 a3)) (by decide +kernel) (Nat.le_of_ble_eq_true rfl) (fun _ => rfl) (by rw [h]; rfl) (fun Γ e1 e2 C => by subst e1; subst e2; exact w_qh_bind C N σ a1 a2 a3)
theorem qh_bind_I : ck_V qh_bind_y qh_bind_c 6 (some .boolean) 3 := ⟨k_774, k_96, by decide +kernel, k_772, k_773⟩
end
