section
-- ===== PART A: goes FIRST, ahead of the names: the tables' words, and 'selects' of the private methods out of them =====
/-- a private method of a class that the tables say can be made, by its rows of tables_1 -/
def lw_okq (q : MethodName × Nat) : Prop := (q.1.cls ≠ "java/lang/invoke/MethodHandle" ∧ q.1.cls ≠ "java/lang/invoke/VarHandle") ∧ Cond.instantiable q.1.cls q.2 ∈ tables_1 ∧ Cond.privateMethod q.1 ∈ tables_1 ∧ Cond.instanceMethod q.1 ∈ tables_1
theorem lw_p0 : lw_okq (⟨"StrokeSeek$Parser", "advance", "(LStrokeSeek$Text;)V"⟩, 7) := ⟨⟨by decide +kernel, by decide +kernel⟩, List.mem_of_getElem? (i := 41) (by decide +kernel), List.mem_of_getElem? (i := 332) (by decide +kernel), List.mem_of_getElem? (i := 333) (by decide +kernel)⟩
theorem lw_p1 : lw_okq (⟨"StrokeSeek$Parser", "advanceOverNumber", "(LStrokeSeek$Text;)V"⟩, 7) := ⟨⟨by decide +kernel, by decide +kernel⟩, List.mem_of_getElem? (i := 41) (by decide +kernel), List.mem_of_getElem? (i := 339) (by decide +kernel), List.mem_of_getElem? (i := 340) (by decide +kernel)⟩
theorem lw_p2 : lw_okq (⟨"StrokeSeek$Parser", "takeStation", "(LStrokeSeek$Text;)Z"⟩, 7) := ⟨⟨by decide +kernel, by decide +kernel⟩, List.mem_of_getElem? (i := 41) (by decide +kernel), List.mem_of_getElem? (i := 346) (by decide +kernel), List.mem_of_getElem? (i := 347) (by decide +kernel)⟩
theorem lw_p3 : lw_okq (⟨"StrokeSeek$Parser", "takeNumber", "(LStrokeSeek$Text;I)Z"⟩, 7) := ⟨⟨by decide +kernel, by decide +kernel⟩, List.mem_of_getElem? (i := 41) (by decide +kernel), List.mem_of_getElem? (i := 350) (by decide +kernel), List.mem_of_getElem? (i := 351) (by decide +kernel)⟩
theorem lw_p4 : lw_okq (⟨"StrokeSeek$Parser", "takeSemicolon", "(LStrokeSeek$Text;)Z"⟩, 7) := ⟨⟨by decide +kernel, by decide +kernel⟩, List.mem_of_getElem? (i := 41) (by decide +kernel), List.mem_of_getElem? (i := 357) (by decide +kernel), List.mem_of_getElem? (i := 358) (by decide +kernel)⟩
theorem lw_p5 : lw_okq (⟨"StrokeSeek$Parser", "takeReading", "(LStrokeSeek$Text;)Z"⟩, 7) := ⟨⟨by decide +kernel, by decide +kernel⟩, List.mem_of_getElem? (i := 41) (by decide +kernel), List.mem_of_getElem? (i := 365) (by decide +kernel), List.mem_of_getElem? (i := 366) (by decide +kernel)⟩
theorem lw_p6 : lw_okq (⟨"StrokeSeek", "hasStation", "(I)Z"⟩, 11) := ⟨⟨by decide +kernel, by decide +kernel⟩, List.mem_of_getElem? (i := 16) (by decide +kernel), List.mem_of_getElem? (i := 389) (by decide +kernel), List.mem_of_getElem? (i := 390) (by decide +kernel)⟩
theorem lw_p7 : lw_okq (⟨"StrokeSeek", "hasReading", "(I)Z"⟩, 11) := ⟨⟨by decide +kernel, by decide +kernel⟩, List.mem_of_getElem? (i := 16) (by decide +kernel), List.mem_of_getElem? (i := 397) (by decide +kernel), List.mem_of_getElem? (i := 398) (by decide +kernel)⟩
theorem lw_p8 : lw_okq (⟨"StrokeSeek", "regroup", "()V"⟩, 11) := ⟨⟨by decide +kernel, by decide +kernel⟩, List.mem_of_getElem? (i := 16) (by decide +kernel), List.mem_of_getElem? (i := 405) (by decide +kernel), List.mem_of_getElem? (i := 406) (by decide +kernel)⟩
theorem lw_p9 : lw_okq (⟨"StrokeSeek$Groups", "sort", "(LStrokeSeek$Points;)V"⟩, 4) := ⟨⟨by decide +kernel, by decide +kernel⟩, List.mem_of_getElem? (i := 183) (by decide +kernel), List.mem_of_getElem? (i := 418) (by decide +kernel), List.mem_of_getElem? (i := 419) (by decide +kernel)⟩
theorem lw_p10 : lw_okq (⟨"StrokeSeek$Groups", "firstFitting", "(LStrokeSeek$Points;I)I"⟩, 4) := ⟨⟨by decide +kernel, by decide +kernel⟩, List.mem_of_getElem? (i := 183) (by decide +kernel), List.mem_of_getElem? (i := 425) (by decide +kernel), List.mem_of_getElem? (i := 426) (by decide +kernel)⟩
theorem lw_p11 : lw_okq (⟨"StrokeSeek$Groups", "fits", "(LStrokeSeek$Points;II)Z"⟩, 4) := ⟨⟨by decide +kernel, by decide +kernel⟩, List.mem_of_getElem? (i := 183) (by decide +kernel), List.mem_of_getElem? (i := 429) (by decide +kernel), List.mem_of_getElem? (i := 430) (by decide +kernel)⟩
theorem lw_p12 : lw_okq (⟨"StrokeSeek$Solver", "load", "(I)V"⟩, 8) := ⟨⟨by decide +kernel, by decide +kernel⟩, List.mem_of_getElem? (i := 205) (by decide +kernel), List.mem_of_getElem? (i := 478) (by decide +kernel), List.mem_of_getElem? (i := 479) (by decide +kernel)⟩
theorem lw_p13 : lw_okq (⟨"StrokeSeek$Solver", "firstOf", "(I)I"⟩, 8) := ⟨⟨by decide +kernel, by decide +kernel⟩, List.mem_of_getElem? (i := 205) (by decide +kernel), List.mem_of_getElem? (i := 482) (by decide +kernel), List.mem_of_getElem? (i := 483) (by decide +kernel)⟩
theorem lw_p14 : lw_okq (⟨"StrokeSeek$Solver", "loadEquation", "([JII)V"⟩, 8) := ⟨⟨by decide +kernel, by decide +kernel⟩, List.mem_of_getElem? (i := 205) (by decide +kernel), List.mem_of_getElem? (i := 487) (by decide +kernel), List.mem_of_getElem? (i := 488) (by decide +kernel)⟩
theorem lw_p15 : lw_okq (⟨"StrokeSeek$Solver", "squares", "(I)I"⟩, 8) := ⟨⟨by decide +kernel, by decide +kernel⟩, List.mem_of_getElem? (i := 205) (by decide +kernel), List.mem_of_getElem? (i := 491) (by decide +kernel), List.mem_of_getElem? (i := 492) (by decide +kernel)⟩
def lw_privs_1 : List (MethodName × Nat) := [(⟨"StrokeSeek$Parser", "advance", "(LStrokeSeek$Text;)V"⟩, 7), (⟨"StrokeSeek$Parser", "advanceOverNumber", "(LStrokeSeek$Text;)V"⟩, 7), (⟨"StrokeSeek$Parser", "takeStation", "(LStrokeSeek$Text;)Z"⟩, 7), (⟨"StrokeSeek$Parser", "takeNumber", "(LStrokeSeek$Text;I)Z"⟩, 7), (⟨"StrokeSeek$Parser", "takeSemicolon", "(LStrokeSeek$Text;)Z"⟩, 7), (⟨"StrokeSeek$Parser", "takeReading", "(LStrokeSeek$Text;)Z"⟩, 7), (⟨"StrokeSeek", "hasStation", "(I)Z"⟩, 11), (⟨"StrokeSeek", "hasReading", "(I)Z"⟩, 11), (⟨"StrokeSeek", "regroup", "()V"⟩, 11), (⟨"StrokeSeek$Groups", "sort", "(LStrokeSeek$Points;)V"⟩, 4), (⟨"StrokeSeek$Groups", "firstFitting", "(LStrokeSeek$Points;I)I"⟩, 4), (⟨"StrokeSeek$Groups", "fits", "(LStrokeSeek$Points;II)Z"⟩, 4), (⟨"StrokeSeek$Solver", "load", "(I)V"⟩, 8), (⟨"StrokeSeek$Solver", "firstOf", "(I)I"⟩, 8), (⟨"StrokeSeek$Solver", "loadEquation", "([JII)V"⟩, 8), (⟨"StrokeSeek$Solver", "squares", "(I)I"⟩, 8)]
theorem lw_r1 : ∀ q ∈ lw_privs_1, lw_okq q := List.forall_mem_cons.mpr ⟨lw_p0, List.forall_mem_cons.mpr ⟨lw_p1, List.forall_mem_cons.mpr ⟨lw_p2, List.forall_mem_cons.mpr ⟨lw_p3, List.forall_mem_cons.mpr ⟨lw_p4, List.forall_mem_cons.mpr ⟨lw_p5, List.forall_mem_cons.mpr ⟨lw_p6, List.forall_mem_cons.mpr ⟨lw_p7, List.forall_mem_cons.mpr ⟨lw_p8, List.forall_mem_cons.mpr ⟨lw_p9, List.forall_mem_cons.mpr ⟨lw_p10, List.forall_mem_cons.mpr ⟨lw_p11, List.forall_mem_cons.mpr ⟨lw_p12, List.forall_mem_cons.mpr ⟨lw_p13, List.forall_mem_cons.mpr ⟨lw_p14, List.forall_mem_cons.mpr ⟨lw_p15, fun _ h => absurd h List.not_mem_nil⟩⟩⟩⟩⟩⟩⟩⟩⟩⟩⟩⟩⟩⟩⟩⟩
theorem lw_p16 : lw_okq (⟨"StrokeSeek$Solver", "eliminate", "()V"⟩, 8) := ⟨⟨by decide +kernel, by decide +kernel⟩, List.mem_of_getElem? (i := 205) (by decide +kernel), List.mem_of_getElem? (i := 495) (by decide +kernel), List.mem_of_getElem? (i := 496) (by decide +kernel)⟩
theorem lw_p17 : lw_okq (⟨"StrokeSeek$Solver", "pivotOf", "(I)I"⟩, 8) := ⟨⟨by decide +kernel, by decide +kernel⟩, List.mem_of_getElem? (i := 205) (by decide +kernel), List.mem_of_getElem? (i := 499) (by decide +kernel), List.mem_of_getElem? (i := 500) (by decide +kernel)⟩
theorem lw_p18 : lw_okq (⟨"StrokeSeek$Solver", "swap", "(II)V"⟩, 8) := ⟨⟨by decide +kernel, by decide +kernel⟩, List.mem_of_getElem? (i := 205) (by decide +kernel), List.mem_of_getElem? (i := 503) (by decide +kernel), List.mem_of_getElem? (i := 504) (by decide +kernel)⟩
theorem lw_p19 : lw_okq (⟨"StrokeSeek$Solver", "agree", "()Z"⟩, 8) := ⟨⟨by decide +kernel, by decide +kernel⟩, List.mem_of_getElem? (i := 205) (by decide +kernel), List.mem_of_getElem? (i := 516) (by decide +kernel), List.mem_of_getElem? (i := 517) (by decide +kernel)⟩
theorem lw_p20 : lw_okq (⟨"StrokeSeek$Finder", "worstOf", "(I)I"⟩, 6) := ⟨⟨by decide +kernel, by decide +kernel⟩, List.mem_of_getElem? (i := 246) (by decide +kernel), List.mem_of_getElem? (i := 543) (by decide +kernel), List.mem_of_getElem? (i := 544) (by decide +kernel)⟩
theorem lw_p21 : lw_okq (⟨"StrokeSeek$Finder", "offerFour", "(II)V"⟩, 6) := ⟨⟨by decide +kernel, by decide +kernel⟩, List.mem_of_getElem? (i := 246) (by decide +kernel), List.mem_of_getElem? (i := 559) (by decide +kernel), List.mem_of_getElem? (i := 560) (by decide +kernel)⟩
theorem lw_p22 : lw_okq (⟨"StrokeSeek$Finder", "strokeTime", "(III)I"⟩, 6) := ⟨⟨by decide +kernel, by decide +kernel⟩, List.mem_of_getElem? (i := 246) (by decide +kernel), List.mem_of_getElem? (i := 567) (by decide +kernel), List.mem_of_getElem? (i := 568) (by decide +kernel)⟩
theorem lw_p23 : lw_okq (⟨"StrokeSeek", "sureGroups", "()I"⟩, 11) := ⟨⟨by decide +kernel, by decide +kernel⟩, List.mem_of_getElem? (i := 16) (by decide +kernel), List.mem_of_getElem? (i := 626) (by decide +kernel), List.mem_of_getElem? (i := 627) (by decide +kernel)⟩
theorem lw_p24 : lw_okq (⟨"StrokeSeekModel", "blanks", "()V"⟩, 31) := ⟨⟨by decide +kernel, by decide +kernel⟩, List.mem_of_getElem? (i := 630) (by decide +kernel), List.mem_of_getElem? (i := 745) (by decide +kernel), List.mem_of_getElem? (i := 746) (by decide +kernel)⟩
theorem lw_p25 : lw_okq (⟨"StrokeSeekModel", "next", "()V"⟩, 31) := ⟨⟨by decide +kernel, by decide +kernel⟩, List.mem_of_getElem? (i := 630) (by decide +kernel), List.mem_of_getElem? (i := 749) (by decide +kernel), List.mem_of_getElem? (i := 750) (by decide +kernel)⟩
theorem lw_p26 : lw_okq (⟨"StrokeSeekModel", "isFigure", "()Z"⟩, 31) := ⟨⟨by decide +kernel, by decide +kernel⟩, List.mem_of_getElem? (i := 630) (by decide +kernel), List.mem_of_getElem? (i := 753) (by decide +kernel), List.mem_of_getElem? (i := 754) (by decide +kernel)⟩
theorem lw_p27 : lw_okq (⟨"StrokeSeekModel", "readsStation", "()Z"⟩, 31) := ⟨⟨by decide +kernel, by decide +kernel⟩, List.mem_of_getElem? (i := 630) (by decide +kernel), List.mem_of_getElem? (i := 757) (by decide +kernel), List.mem_of_getElem? (i := 758) (by decide +kernel)⟩
theorem lw_p28 : lw_okq (⟨"StrokeSeekModel", "fails", "()Z"⟩, 31) := ⟨⟨by decide +kernel, by decide +kernel⟩, List.mem_of_getElem? (i := 630) (by decide +kernel), List.mem_of_getElem? (i := 761) (by decide +kernel), List.mem_of_getElem? (i := 762) (by decide +kernel)⟩
theorem lw_p29 : lw_okq (⟨"StrokeSeekModel", "number", "(I)Z"⟩, 31) := ⟨⟨by decide +kernel, by decide +kernel⟩, List.mem_of_getElem? (i := 630) (by decide +kernel), List.mem_of_getElem? (i := 765) (by decide +kernel), List.mem_of_getElem? (i := 766) (by decide +kernel)⟩
theorem lw_p30 : lw_okq (⟨"StrokeSeekModel", "ends", "()Z"⟩, 31) := ⟨⟨by decide +kernel, by decide +kernel⟩, List.mem_of_getElem? (i := 630) (by decide +kernel), List.mem_of_getElem? (i := 772) (by decide +kernel), List.mem_of_getElem? (i := 773) (by decide +kernel)⟩
theorem lw_p31 : lw_okq (⟨"StrokeSeekModel", "readsReading", "()Z"⟩, 31) := ⟨⟨by decide +kernel, by decide +kernel⟩, List.mem_of_getElem? (i := 630) (by decide +kernel), List.mem_of_getElem? (i := 776) (by decide +kernel), List.mem_of_getElem? (i := 777) (by decide +kernel)⟩
def lw_privs_2 : List (MethodName × Nat) := [(⟨"StrokeSeek$Solver", "eliminate", "()V"⟩, 8), (⟨"StrokeSeek$Solver", "pivotOf", "(I)I"⟩, 8), (⟨"StrokeSeek$Solver", "swap", "(II)V"⟩, 8), (⟨"StrokeSeek$Solver", "agree", "()Z"⟩, 8), (⟨"StrokeSeek$Finder", "worstOf", "(I)I"⟩, 6), (⟨"StrokeSeek$Finder", "offerFour", "(II)V"⟩, 6), (⟨"StrokeSeek$Finder", "strokeTime", "(III)I"⟩, 6), (⟨"StrokeSeek", "sureGroups", "()I"⟩, 11), (⟨"StrokeSeekModel", "blanks", "()V"⟩, 31), (⟨"StrokeSeekModel", "next", "()V"⟩, 31), (⟨"StrokeSeekModel", "isFigure", "()Z"⟩, 31), (⟨"StrokeSeekModel", "readsStation", "()Z"⟩, 31), (⟨"StrokeSeekModel", "fails", "()Z"⟩, 31), (⟨"StrokeSeekModel", "number", "(I)Z"⟩, 31), (⟨"StrokeSeekModel", "ends", "()Z"⟩, 31), (⟨"StrokeSeekModel", "readsReading", "()Z"⟩, 31)]
theorem lw_r2 : ∀ q ∈ lw_privs_2, lw_okq q := List.forall_mem_cons.mpr ⟨lw_p16, List.forall_mem_cons.mpr ⟨lw_p17, List.forall_mem_cons.mpr ⟨lw_p18, List.forall_mem_cons.mpr ⟨lw_p19, List.forall_mem_cons.mpr ⟨lw_p20, List.forall_mem_cons.mpr ⟨lw_p21, List.forall_mem_cons.mpr ⟨lw_p22, List.forall_mem_cons.mpr ⟨lw_p23, List.forall_mem_cons.mpr ⟨lw_p24, List.forall_mem_cons.mpr ⟨lw_p25, List.forall_mem_cons.mpr ⟨lw_p26, List.forall_mem_cons.mpr ⟨lw_p27, List.forall_mem_cons.mpr ⟨lw_p28, List.forall_mem_cons.mpr ⟨lw_p29, List.forall_mem_cons.mpr ⟨lw_p30, List.forall_mem_cons.mpr ⟨lw_p31, fun _ h => absurd h List.not_mem_nil⟩⟩⟩⟩⟩⟩⟩⟩⟩⟩⟩⟩⟩⟩⟩⟩
theorem lw_p32 : lw_okq (⟨"StrokeSeekModel", "isStation", "(I)Z"⟩, 31) := ⟨⟨by decide +kernel, by decide +kernel⟩, List.mem_of_getElem? (i := 630) (by decide +kernel), List.mem_of_getElem? (i := 784) (by decide +kernel), List.mem_of_getElem? (i := 785) (by decide +kernel)⟩
theorem lw_p33 : lw_okq (⟨"StrokeSeekModel", "isReading", "(I)Z"⟩, 31) := ⟨⟨by decide +kernel, by decide +kernel⟩, List.mem_of_getElem? (i := 630) (by decide +kernel), List.mem_of_getElem? (i := 792) (by decide +kernel), List.mem_of_getElem? (i := 793) (by decide +kernel)⟩
theorem lw_p34 : lw_okq (⟨"StrokeSeekModel", "timeOf", "(I)I"⟩, 31) := ⟨⟨by decide +kernel, by decide +kernel⟩, List.mem_of_getElem? (i := 630) (by decide +kernel), List.mem_of_getElem? (i := 797) (by decide +kernel), List.mem_of_getElem? (i := 798) (by decide +kernel)⟩
theorem lw_p35 : lw_okq (⟨"StrokeSeekModel", "groupOf", "(I)I"⟩, 31) := ⟨⟨by decide +kernel, by decide +kernel⟩, List.mem_of_getElem? (i := 630) (by decide +kernel), List.mem_of_getElem? (i := 801) (by decide +kernel), List.mem_of_getElem? (i := 802) (by decide +kernel)⟩
theorem lw_p36 : lw_okq (⟨"StrokeSeekModel", "layGroups", "()V"⟩, 31) := ⟨⟨by decide +kernel, by decide +kernel⟩, List.mem_of_getElem? (i := 630) (by decide +kernel), List.mem_of_getElem? (i := 805) (by decide +kernel), List.mem_of_getElem? (i := 806) (by decide +kernel)⟩
theorem lw_p37 : lw_okq (⟨"StrokeSeekModel", "isAhead", "(II)Z"⟩, 31) := ⟨⟨by decide +kernel, by decide +kernel⟩, List.mem_of_getElem? (i := 630) (by decide +kernel), List.mem_of_getElem? (i := 812) (by decide +kernel), List.mem_of_getElem? (i := 813) (by decide +kernel)⟩
theorem lw_p38 : lw_okq (⟨"StrokeSeekModel", "isTogether", "(II)Z"⟩, 31) := ⟨⟨by decide +kernel, by decide +kernel⟩, List.mem_of_getElem? (i := 630) (by decide +kernel), List.mem_of_getElem? (i := 816) (by decide +kernel), List.mem_of_getElem? (i := 817) (by decide +kernel)⟩
theorem lw_p39 : lw_okq (⟨"StrokeSeekModel", "xOf", "(I)I"⟩, 31) := ⟨⟨by decide +kernel, by decide +kernel⟩, List.mem_of_getElem? (i := 630) (by decide +kernel), List.mem_of_getElem? (i := 823) (by decide +kernel), List.mem_of_getElem? (i := 824) (by decide +kernel)⟩
theorem lw_p40 : lw_okq (⟨"StrokeSeekModel", "yOf", "(I)I"⟩, 31) := ⟨⟨by decide +kernel, by decide +kernel⟩, List.mem_of_getElem? (i := 630) (by decide +kernel), List.mem_of_getElem? (i := 827) (by decide +kernel), List.mem_of_getElem? (i := 828) (by decide +kernel)⟩
theorem lw_p41 : lw_okq (⟨"StrokeSeekModel", "remember", "()V"⟩, 31) := ⟨⟨by decide +kernel, by decide +kernel⟩, List.mem_of_getElem? (i := 630) (by decide +kernel), List.mem_of_getElem? (i := 835) (by decide +kernel), List.mem_of_getElem? (i := 836) (by decide +kernel)⟩
theorem lw_p42 : lw_okq (⟨"StrokeSeekModel", "verdictOf", "(I)I"⟩, 31) := ⟨⟨by decide +kernel, by decide +kernel⟩, List.mem_of_getElem? (i := 630) (by decide +kernel), List.mem_of_getElem? (i := 855) (by decide +kernel), List.mem_of_getElem? (i := 856) (by decide +kernel)⟩
theorem lw_p43 : lw_okq (⟨"StrokeSeekModel", "rankOf", "(I)I"⟩, 31) := ⟨⟨by decide +kernel, by decide +kernel⟩, List.mem_of_getElem? (i := 630) (by decide +kernel), List.mem_of_getElem? (i := 859) (by decide +kernel), List.mem_of_getElem? (i := 860) (by decide +kernel)⟩
theorem lw_p44 : lw_okq (⟨"StrokeSeekModel", "layRows", "(I)V"⟩, 31) := ⟨⟨by decide +kernel, by decide +kernel⟩, List.mem_of_getElem? (i := 630) (by decide +kernel), List.mem_of_getElem? (i := 863) (by decide +kernel), List.mem_of_getElem? (i := 864) (by decide +kernel)⟩
theorem lw_p45 : lw_okq (⟨"StrokeSeekModel", "firstOf", "(I)I"⟩, 31) := ⟨⟨by decide +kernel, by decide +kernel⟩, List.mem_of_getElem? (i := 630) (by decide +kernel), List.mem_of_getElem? (i := 867) (by decide +kernel), List.mem_of_getElem? (i := 868) (by decide +kernel)⟩
theorem lw_p46 : lw_okq (⟨"StrokeSeekModel", "cellAt", "(II)J"⟩, 31) := ⟨⟨by decide +kernel, by decide +kernel⟩, List.mem_of_getElem? (i := 630) (by decide +kernel), List.mem_of_getElem? (i := 871) (by decide +kernel), List.mem_of_getElem? (i := 872) (by decide +kernel)⟩
theorem lw_p47 : lw_okq (⟨"StrokeSeekModel", "two", "(IIII)J"⟩, 31) := ⟨⟨by decide +kernel, by decide +kernel⟩, List.mem_of_getElem? (i := 630) (by decide +kernel), List.mem_of_getElem? (i := 875) (by decide +kernel), List.mem_of_getElem? (i := 876) (by decide +kernel)⟩
def lw_privs_3 : List (MethodName × Nat) := [(⟨"StrokeSeekModel", "isStation", "(I)Z"⟩, 31), (⟨"StrokeSeekModel", "isReading", "(I)Z"⟩, 31), (⟨"StrokeSeekModel", "timeOf", "(I)I"⟩, 31), (⟨"StrokeSeekModel", "groupOf", "(I)I"⟩, 31), (⟨"StrokeSeekModel", "layGroups", "()V"⟩, 31), (⟨"StrokeSeekModel", "isAhead", "(II)Z"⟩, 31), (⟨"StrokeSeekModel", "isTogether", "(II)Z"⟩, 31), (⟨"StrokeSeekModel", "xOf", "(I)I"⟩, 31), (⟨"StrokeSeekModel", "yOf", "(I)I"⟩, 31), (⟨"StrokeSeekModel", "remember", "()V"⟩, 31), (⟨"StrokeSeekModel", "verdictOf", "(I)I"⟩, 31), (⟨"StrokeSeekModel", "rankOf", "(I)I"⟩, 31), (⟨"StrokeSeekModel", "layRows", "(I)V"⟩, 31), (⟨"StrokeSeekModel", "firstOf", "(I)I"⟩, 31), (⟨"StrokeSeekModel", "cellAt", "(II)J"⟩, 31), (⟨"StrokeSeekModel", "two", "(IIII)J"⟩, 31)]
theorem lw_r3 : ∀ q ∈ lw_privs_3, lw_okq q := List.forall_mem_cons.mpr ⟨lw_p32, List.forall_mem_cons.mpr ⟨lw_p33, List.forall_mem_cons.mpr ⟨lw_p34, List.forall_mem_cons.mpr ⟨lw_p35, List.forall_mem_cons.mpr ⟨lw_p36, List.forall_mem_cons.mpr ⟨lw_p37, List.forall_mem_cons.mpr ⟨lw_p38, List.forall_mem_cons.mpr ⟨lw_p39, List.forall_mem_cons.mpr ⟨lw_p40, List.forall_mem_cons.mpr ⟨lw_p41, List.forall_mem_cons.mpr ⟨lw_p42, List.forall_mem_cons.mpr ⟨lw_p43, List.forall_mem_cons.mpr ⟨lw_p44, List.forall_mem_cons.mpr ⟨lw_p45, List.forall_mem_cons.mpr ⟨lw_p46, List.forall_mem_cons.mpr ⟨lw_p47, fun _ h => absurd h List.not_mem_nil⟩⟩⟩⟩⟩⟩⟩⟩⟩⟩⟩⟩⟩⟩⟩⟩
theorem lw_p48 : lw_okq (⟨"StrokeSeekModel", "three", "(IIIIII)J"⟩, 31) := ⟨⟨by decide +kernel, by decide +kernel⟩, List.mem_of_getElem? (i := 630) (by decide +kernel), List.mem_of_getElem? (i := 879) (by decide +kernel), List.mem_of_getElem? (i := 880) (by decide +kernel)⟩
theorem lw_p49 : lw_okq (⟨"StrokeSeekModel", "isOpen", "(I)Z"⟩, 31) := ⟨⟨by decide +kernel, by decide +kernel⟩, List.mem_of_getElem? (i := 630) (by decide +kernel), List.mem_of_getElem? (i := 883) (by decide +kernel), List.mem_of_getElem? (i := 884) (by decide +kernel)⟩
theorem lw_p50 : lw_okq (⟨"StrokeSeekModel", "solves", "()V"⟩, 31) := ⟨⟨by decide +kernel, by decide +kernel⟩, List.mem_of_getElem? (i := 630) (by decide +kernel), List.mem_of_getElem? (i := 887) (by decide +kernel), List.mem_of_getElem? (i := 888) (by decide +kernel)⟩
theorem lw_p51 : lw_okq (⟨"StrokeSeekModel", "isFilled", "()Z"⟩, 31) := ⟨⟨by decide +kernel, by decide +kernel⟩, List.mem_of_getElem? (i := 630) (by decide +kernel), List.mem_of_getElem? (i := 892) (by decide +kernel), List.mem_of_getElem? (i := 893) (by decide +kernel)⟩
theorem lw_p52 : lw_okq (⟨"StrokeSeekModel", "differs", "(I)J"⟩, 31) := ⟨⟨by decide +kernel, by decide +kernel⟩, List.mem_of_getElem? (i := 630) (by decide +kernel), List.mem_of_getElem? (i := 896) (by decide +kernel), List.mem_of_getElem? (i := 897) (by decide +kernel)⟩
theorem lw_p53 : lw_okq (⟨"StrokeSeekModel", "outOf", "(I)I"⟩, 31) := ⟨⟨by decide +kernel, by decide +kernel⟩, List.mem_of_getElem? (i := 630) (by decide +kernel), List.mem_of_getElem? (i := 904) (by decide +kernel), List.mem_of_getElem? (i := 905) (by decide +kernel)⟩
theorem lw_p54 : lw_okq (⟨"StrokeSeekModel", "fourOf", "(I)I"⟩, 31) := ⟨⟨by decide +kernel, by decide +kernel⟩, List.mem_of_getElem? (i := 630) (by decide +kernel), List.mem_of_getElem? (i := 911) (by decide +kernel), List.mem_of_getElem? (i := 912) (by decide +kernel)⟩
theorem lw_p55 : lw_okq (⟨"StrokeSeekModel", "worstOf", "(I)I"⟩, 31) := ⟨⟨by decide +kernel, by decide +kernel⟩, List.mem_of_getElem? (i := 630) (by decide +kernel), List.mem_of_getElem? (i := 915) (by decide +kernel), List.mem_of_getElem? (i := 916) (by decide +kernel)⟩
theorem lw_p56 : lw_okq (⟨"StrokeSeekModel", "layCan", "(I)V"⟩, 31) := ⟨⟨by decide +kernel, by decide +kernel⟩, List.mem_of_getElem? (i := 630) (by decide +kernel), List.mem_of_getElem? (i := 921) (by decide +kernel), List.mem_of_getElem? (i := 922) (by decide +kernel)⟩
theorem lw_p57 : lw_okq (⟨"StrokeSeekModel", "sureMany", "()I"⟩, 31) := ⟨⟨by decide +kernel, by decide +kernel⟩, List.mem_of_getElem? (i := 630) (by decide +kernel), List.mem_of_getElem? (i := 956) (by decide +kernel), List.mem_of_getElem? (i := 957) (by decide +kernel)⟩
def lw_privs_4 : List (MethodName × Nat) := [(⟨"StrokeSeekModel", "three", "(IIIIII)J"⟩, 31), (⟨"StrokeSeekModel", "isOpen", "(I)Z"⟩, 31), (⟨"StrokeSeekModel", "solves", "()V"⟩, 31), (⟨"StrokeSeekModel", "isFilled", "()Z"⟩, 31), (⟨"StrokeSeekModel", "differs", "(I)J"⟩, 31), (⟨"StrokeSeekModel", "outOf", "(I)I"⟩, 31), (⟨"StrokeSeekModel", "fourOf", "(I)I"⟩, 31), (⟨"StrokeSeekModel", "worstOf", "(I)I"⟩, 31), (⟨"StrokeSeekModel", "layCan", "(I)V"⟩, 31), (⟨"StrokeSeekModel", "sureMany", "()I"⟩, 31)]
theorem lw_r4 : ∀ q ∈ lw_privs_4, lw_okq q := List.forall_mem_cons.mpr ⟨lw_p48, List.forall_mem_cons.mpr ⟨lw_p49, List.forall_mem_cons.mpr ⟨lw_p50, List.forall_mem_cons.mpr ⟨lw_p51, List.forall_mem_cons.mpr ⟨lw_p52, List.forall_mem_cons.mpr ⟨lw_p53, List.forall_mem_cons.mpr ⟨lw_p54, List.forall_mem_cons.mpr ⟨lw_p55, List.forall_mem_cons.mpr ⟨lw_p56, List.forall_mem_cons.mpr ⟨lw_p57, fun _ h => absurd h List.not_mem_nil⟩⟩⟩⟩⟩⟩⟩⟩⟩⟩
def lw_privs : List (MethodName × Nat) := lw_privs_1 ++ (lw_privs_2 ++ (lw_privs_3 ++ (lw_privs_4)))
def lw_tbl : List Cond := k2_sels lw_privs ++ tables_1
theorem lw_privs_ok : ∀ q ∈ lw_privs, lw_okq q := by
  show ∀ q ∈ lw_privs_1 ++ (lw_privs_2 ++ (lw_privs_3 ++ (lw_privs_4))), lw_okq q
  exact List.forall_mem_append.mpr ⟨lw_r1, List.forall_mem_append.mpr ⟨lw_r2, List.forall_mem_append.mpr ⟨lw_r3, lw_r4⟩⟩⟩
end
section
def RX0 : String := "StrokeSeek$Finder"
def TX0 : u_T := fun k => match k with
  | 0 => ("StrokeSeek$Finder", "points", "LStrokeSeek$Points;", true)
  | 1 => ("StrokeSeek$Finder", "solver", "LStrokeSeek$Solver;", true)
  | 2 => ("StrokeSeek$Finder", "four", "I", false)
  | 3 => ("StrokeSeek$Finder", "worst", "I", false)
  | 4 => ("StrokeSeek$Finder", "places", "I", false)
  | _ => ("StrokeSeek$Finder", "firstPlace", "I", false)
def tyX0 : Nat → FieldType := fun k => match k with
  | 0 => .object "StrokeSeek$Points"
  | 1 => .object "StrokeSeek$Solver"
  | 2 => .int
  | 3 => .int
  | 4 => .int
  | _ => .int
theorem nmX0 : ∀ a, a < 6 → ∀ b, b < 6 → a ≠ b → (TX0 a).2.1 ≠ (TX0 b).2.1 := by decide +kernel
theorem tyX0_ok : ∀ k, k < 6 → parseFieldDescriptor (TX0 k).2.2.1 = some (tyX0 k) := by decide +kernel
abbrev cX0_init : ByteArray := prog_2_method_1_code
def yX0_init : MethodName := ⟨RX0, "<init>", "(LStrokeSeek$Points;LStrokeSeek$Solver;)V"⟩
abbrev cX0_leastOut : ByteArray := prog_2_method_2_code
def yX0_leastOut : MethodName := ⟨RX0, "leastOut", "(I)I"⟩
abbrev cX0_isPart : ByteArray := prog_2_method_3_code
def yX0_isPart : MethodName := ⟨RX0, "isPart", "(III)Z"⟩
abbrev cX0_seekFour : ByteArray := prog_2_method_4_code
def yX0_seekFour : MethodName := ⟨RX0, "seekFour", "(I)V"⟩
abbrev cX0_offerFour : ByteArray := prog_2_method_5_code
def yX0_offerFour : MethodName := ⟨RX0, "offerFour", "(II)V"⟩
abbrev cX0_worstOf : ByteArray := prog_2_method_6_code
def yX0_worstOf : MethodName := ⟨RX0, "worstOf", "(I)I"⟩
abbrev cX0_seekPlaces : ByteArray := prog_2_method_7_code
def yX0_seekPlaces : MethodName := ⟨RX0, "seekPlaces", "(I)V"⟩
abbrev cX0_strokeTime : ByteArray := prog_2_method_8_code
def yX0_strokeTime : MethodName := ⟨RX0, "strokeTime", "(III)I"⟩
abbrev cX0_sureCases : ByteArray := prog_2_method_9_code
def yX0_sureCases : MethodName := ⟨RX0, "sureCases", "(II)J"⟩
def RX1 : String := "StrokeSeek$Groups"
def TX1 : u_T := fun k => match k with
  | 0 => ("StrokeSeek$Groups", "sets", "[I", true)
  | 1 => ("StrokeSeek$Groups", "of", "[I", true)
  | 2 => ("StrokeSeek$Groups", "size", "I", false)
  | _ => ("StrokeSeek$Groups", "order", "[I", true)
def tyX1 : Nat → FieldType := fun k => match k with
  | 0 => .array .int
  | 1 => .array .int
  | 2 => .int
  | _ => .array .int
theorem nmX1 : ∀ a, a < 4 → ∀ b, b < 4 → a ≠ b → (TX1 a).2.1 ≠ (TX1 b).2.1 := by decide +kernel
theorem tyX1_ok : ∀ k, k < 4 → parseFieldDescriptor (TX1 k).2.2.1 = some (tyX1 k) := by decide +kernel
abbrev cX1_init : ByteArray := prog_3_method_1_code
def yX1_init : MethodName := ⟨RX1, "<init>", "()V"⟩
abbrev cX1_make : ByteArray := prog_3_method_2_code
def yX1_make : MethodName := ⟨RX1, "make", "(LStrokeSeek$Points;)V"⟩
abbrev cX1_sort : ByteArray := prog_3_method_3_code
def yX1_sort : MethodName := ⟨RX1, "sort", "(LStrokeSeek$Points;)V"⟩
abbrev cX1_isBefore : ByteArray := prog_3_method_4_code
def yX1_isBefore : MethodName := ⟨RX1, "isBefore", "(LStrokeSeek$Points;II)Z"⟩
abbrev cX1_firstFitting : ByteArray := prog_3_method_5_code
def yX1_firstFitting : MethodName := ⟨RX1, "firstFitting", "(LStrokeSeek$Points;I)I"⟩
abbrev cX1_fits : ByteArray := prog_3_method_6_code
def yX1_fits : MethodName := ⟨RX1, "fits", "(LStrokeSeek$Points;II)Z"⟩
abbrev cX1_goTogether : ByteArray := prog_3_method_7_code
def yX1_goTogether : MethodName := ⟨RX1, "goTogether", "(LStrokeSeek$Points;II)Z"⟩
def RX2 : String := "StrokeSeek$Log"
def TX2 : u_T := fun k => match k with
  | 0 => ("StrokeSeek$Log", "by", "[I", true)
  | 1 => ("StrokeSeek$Log", "told", "[I", true)
  | 2 => ("StrokeSeek$Log", "clock", "[I", true)
  | _ => ("StrokeSeek$Log", "size", "I", false)
def tyX2 : Nat → FieldType := fun k => match k with
  | 0 => .array .int
  | 1 => .array .int
  | 2 => .array .int
  | _ => .int
theorem nmX2 : ∀ a, a < 4 → ∀ b, b < 4 → a ≠ b → (TX2 a).2.1 ≠ (TX2 b).2.1 := by decide +kernel
theorem tyX2_ok : ∀ k, k < 4 → parseFieldDescriptor (TX2 k).2.2.1 = some (tyX2 k) := by decide +kernel
abbrev cX2_init : ByteArray := prog_4_method_1_code
def yX2_init : MethodName := ⟨RX2, "<init>", "()V"⟩
abbrev cX2_copy : ByteArray := prog_4_method_2_code
def yX2_copy : MethodName := ⟨RX2, "copy", "(LStrokeSeek$Log;)V"⟩
abbrev cX2_append : ByteArray := prog_4_method_3_code
def yX2_append : MethodName := ⟨RX2, "append", "(II)V"⟩
abbrev cX2_remove : ByteArray := prog_4_method_4_code
def yX2_remove : MethodName := ⟨RX2, "remove", "(I)V"⟩
def RX3 : String := "StrokeSeek$Parser"
def TX3 : u_T := fun k => match k with
  | 0 => ("StrokeSeek$Parser", "site", "LStrokeSeek$Site;", true)
  | 1 => ("StrokeSeek$Parser", "log", "LStrokeSeek$Log;", true)
  | 2 => ("StrokeSeek$Parser", "items", "I", false)
  | 3 => ("StrokeSeek$Parser", "at", "I", false)
  | 4 => ("StrokeSeek$Parser", "start", "I", false)
  | 5 => ("StrokeSeek$Parser", "kind", "I", false)
  | _ => ("StrokeSeek$Parser", "value", "I", false)
def tyX3 : Nat → FieldType := fun k => match k with
  | 0 => .object "StrokeSeek$Site"
  | 1 => .object "StrokeSeek$Log"
  | 2 => .int
  | 3 => .int
  | 4 => .int
  | 5 => .int
  | _ => .int
theorem nmX3 : ∀ a, a < 7 → ∀ b, b < 7 → a ≠ b → (TX3 a).2.1 ≠ (TX3 b).2.1 := by decide +kernel
theorem tyX3_ok : ∀ k, k < 7 → parseFieldDescriptor (TX3 k).2.2.1 = some (tyX3 k) := by decide +kernel
abbrev cX3_init : ByteArray := prog_5_method_1_code
def yX3_init : MethodName := ⟨RX3, "<init>", "()V"⟩
abbrev cX3_parse : ByteArray := prog_5_method_2_code
def yX3_parse : MethodName := ⟨RX3, "parse", "(LStrokeSeek$Text;)I"⟩
abbrev cX3_takeStation : ByteArray := prog_5_method_3_code
def yX3_takeStation : MethodName := ⟨RX3, "takeStation", "(LStrokeSeek$Text;)Z"⟩
abbrev cX3_takeReading : ByteArray := prog_5_method_4_code
def yX3_takeReading : MethodName := ⟨RX3, "takeReading", "(LStrokeSeek$Text;)Z"⟩
abbrev cX3_takeNumber : ByteArray := prog_5_method_5_code
def yX3_takeNumber : MethodName := ⟨RX3, "takeNumber", "(LStrokeSeek$Text;I)Z"⟩
abbrev cX3_takeSemicolon : ByteArray := prog_5_method_6_code
def yX3_takeSemicolon : MethodName := ⟨RX3, "takeSemicolon", "(LStrokeSeek$Text;)Z"⟩
abbrev cX3_clockOf : ByteArray := prog_5_method_7_code
def yX3_clockOf : MethodName := ⟨RX3, "clockOf", "(I)I"⟩
abbrev cX3_advance : ByteArray := prog_5_method_8_code
def yX3_advance : MethodName := ⟨RX3, "advance", "(LStrokeSeek$Text;)V"⟩
abbrev cX3_advanceOverNumber : ByteArray := prog_5_method_9_code
def yX3_advanceOverNumber : MethodName := ⟨RX3, "advanceOverNumber", "(LStrokeSeek$Text;)V"⟩
abbrev cX3_isDigit : ByteArray := prog_5_method_10_code
def yX3_isDigit : MethodName := ⟨RX3, "isDigit", "(I)Z"⟩
def RX4 : String := "StrokeSeek$Past"
def TX4 : u_T := fun k => match k with
  | 0 => ("StrokeSeek$Past", "ring", "[LStrokeSeek$Log;", true)
  | 1 => ("StrokeSeek$Past", "next", "I", false)
  | _ => ("StrokeSeek$Past", "size", "I", false)
def tyX4 : Nat → FieldType := fun k => match k with
  | 0 => .array (.object "StrokeSeek$Log")
  | 1 => .int
  | _ => .int
theorem nmX4 : ∀ a, a < 3 → ∀ b, b < 3 → a ≠ b → (TX4 a).2.1 ≠ (TX4 b).2.1 := by decide +kernel
theorem tyX4_ok : ∀ k, k < 3 → parseFieldDescriptor (TX4 k).2.2.1 = some (tyX4 k) := by decide +kernel
abbrev cX4_init : ByteArray := prog_6_method_1_code
def yX4_init : MethodName := ⟨RX4, "<init>", "()V"⟩
abbrev cX4_push : ByteArray := prog_6_method_2_code
def yX4_push : MethodName := ⟨RX4, "push", "(LStrokeSeek$Log;)V"⟩
abbrev cX4_pop : ByteArray := prog_6_method_3_code
def yX4_pop : MethodName := ⟨RX4, "pop", "(LStrokeSeek$Log;)V"⟩
def RX5 : String := "StrokeSeek$Points"
def TX5 : u_T := fun k => match k with
  | 0 => ("StrokeSeek$Points", "by", "[I", true)
  | 1 => ("StrokeSeek$Points", "x", "[I", true)
  | 2 => ("StrokeSeek$Points", "y", "[I", true)
  | 3 => ("StrokeSeek$Points", "t", "[I", true)
  | _ => ("StrokeSeek$Points", "size", "I", false)
def tyX5 : Nat → FieldType := fun k => match k with
  | 0 => .array .int
  | 1 => .array .int
  | 2 => .array .int
  | 3 => .array .int
  | _ => .int
theorem nmX5 : ∀ a, a < 5 → ∀ b, b < 5 → a ≠ b → (TX5 a).2.1 ≠ (TX5 b).2.1 := by decide +kernel
theorem tyX5_ok : ∀ k, k < 5 → parseFieldDescriptor (TX5 k).2.2.1 = some (tyX5 k) := by decide +kernel
abbrev cX5_init : ByteArray := prog_7_method_1_code
def yX5_init : MethodName := ⟨RX5, "<init>", "()V"⟩
abbrev cX5_take : ByteArray := prog_7_method_2_code
def yX5_take : MethodName := ⟨RX5, "take", "(LStrokeSeek$Site;LStrokeSeek$Log;)V"⟩
def RX6 : String := "StrokeSeek$Site"
def TX6 : u_T := fun k => match k with
  | 0 => ("StrokeSeek$Site", "x", "[I", true)
  | 1 => ("StrokeSeek$Site", "y", "[I", true)
  | _ => ("StrokeSeek$Site", "size", "I", false)
def tyX6 : Nat → FieldType := fun k => match k with
  | 0 => .array .int
  | 1 => .array .int
  | _ => .int
theorem nmX6 : ∀ a, a < 3 → ∀ b, b < 3 → a ≠ b → (TX6 a).2.1 ≠ (TX6 b).2.1 := by decide +kernel
theorem tyX6_ok : ∀ k, k < 3 → parseFieldDescriptor (TX6 k).2.2.1 = some (tyX6 k) := by decide +kernel
abbrev cX6_init : ByteArray := prog_8_method_1_code
def yX6_init : MethodName := ⟨RX6, "<init>", "()V"⟩
abbrev cX6_copy : ByteArray := prog_8_method_2_code
def yX6_copy : MethodName := ⟨RX6, "copy", "(LStrokeSeek$Site;)V"⟩
abbrev cX6_append : ByteArray := prog_8_method_3_code
def yX6_append : MethodName := ⟨RX6, "append", "(II)V"⟩
def RX7 : String := "StrokeSeek$Solver"
def TX7 : u_T := fun k => match k with
  | 0 => ("StrokeSeek$Solver", "points", "LStrokeSeek$Points;", true)
  | 1 => ("StrokeSeek$Solver", "rows", "[[J", true)
  | 2 => ("StrokeSeek$Solver", "size", "I", false)
  | 3 => ("StrokeSeek$Solver", "rank", "I", false)
  | 4 => ("StrokeSeek$Solver", "x", "J", false)
  | 5 => ("StrokeSeek$Solver", "y", "J", false)
  | 6 => ("StrokeSeek$Solver", "t", "J", false)
  | _ => ("StrokeSeek$Solver", "lower", "J", false)
def tyX7 : Nat → FieldType := fun k => match k with
  | 0 => .object "StrokeSeek$Points"
  | 1 => .array (.array .long)
  | 2 => .int
  | 3 => .int
  | 4 => .long
  | 5 => .long
  | 6 => .long
  | _ => .long
theorem nmX7 : ∀ a, a < 8 → ∀ b, b < 8 → a ≠ b → (TX7 a).2.1 ≠ (TX7 b).2.1 := by decide +kernel
theorem tyX7_ok : ∀ k, k < 8 → parseFieldDescriptor (TX7 k).2.2.1 = some (tyX7 k) := by decide +kernel
abbrev cX7_init : ByteArray := prog_9_method_1_code
def yX7_init : MethodName := ⟨RX7, "<init>", "(LStrokeSeek$Points;)V"⟩
abbrev cX7_judge : ByteArray := prog_9_method_2_code
def yX7_judge : MethodName := ⟨RX7, "judge", "(I)I"⟩
abbrev cX7_solve : ByteArray := prog_9_method_3_code
def yX7_solve : MethodName := ⟨RX7, "solve", "(I)V"⟩
abbrev cX7_miss : ByteArray := prog_9_method_4_code
def yX7_miss : MethodName := ⟨RX7, "miss", "(I)J"⟩
abbrev cX7_load : ByteArray := prog_9_method_5_code
def yX7_load : MethodName := ⟨RX7, "load", "(I)V"⟩
abbrev cX7_firstOf : ByteArray := prog_9_method_6_code
def yX7_firstOf : MethodName := ⟨RX7, "firstOf", "(I)I"⟩
abbrev cX7_loadEquation : ByteArray := prog_9_method_7_code
def yX7_loadEquation : MethodName := ⟨RX7, "loadEquation", "([JII)V"⟩
abbrev cX7_squares : ByteArray := prog_9_method_8_code
def yX7_squares : MethodName := ⟨RX7, "squares", "(I)I"⟩
abbrev cX7_eliminate : ByteArray := prog_9_method_9_code
def yX7_eliminate : MethodName := ⟨RX7, "eliminate", "()V"⟩
abbrev cX7_pivotOf : ByteArray := prog_9_method_10_code
def yX7_pivotOf : MethodName := ⟨RX7, "pivotOf", "(I)I"⟩
abbrev cX7_swap : ByteArray := prog_9_method_11_code
def yX7_swap : MethodName := ⟨RX7, "swap", "(II)V"⟩
abbrev cX7_reduce : ByteArray := prog_9_method_12_code
def yX7_reduce : MethodName := ⟨RX7, "reduce", "([J[JIJ)V"⟩
abbrev cX7_agree : ByteArray := prog_9_method_13_code
def yX7_agree : MethodName := ⟨RX7, "agree", "()Z"⟩
def RX8 : String := "StrokeSeek$Text"
def TX8 : u_T := fun k => match k with
  | 0 => ("StrokeSeek$Text", "letters", "[I", true)
  | _ => ("StrokeSeek$Text", "size", "I", false)
def tyX8 : Nat → FieldType := fun k => match k with
  | 0 => .array .int
  | _ => .int
theorem nmX8 : ∀ a, a < 2 → ∀ b, b < 2 → a ≠ b → (TX8 a).2.1 ≠ (TX8 b).2.1 := by decide +kernel
theorem tyX8_ok : ∀ k, k < 2 → parseFieldDescriptor (TX8 k).2.2.1 = some (tyX8 k) := by decide +kernel
abbrev cX8_init : ByteArray := prog_10_method_1_code
def yX8_init : MethodName := ⟨RX8, "<init>", "()V"⟩
abbrev cX8_append : ByteArray := prog_10_method_2_code
def yX8_append : MethodName := ⟨RX8, "append", "(I)Z"⟩
def RX9 : String := "StrokeSeek"
def TX9 : u_T := fun k => match k with
  | 0 => ("StrokeSeek", "text", "LStrokeSeek$Text;", true)
  | 1 => ("StrokeSeek", "parser", "LStrokeSeek$Parser;", true)
  | 2 => ("StrokeSeek", "site", "LStrokeSeek$Site;", true)
  | 3 => ("StrokeSeek", "log", "LStrokeSeek$Log;", true)
  | 4 => ("StrokeSeek", "past", "LStrokeSeek$Past;", true)
  | 5 => ("StrokeSeek", "images", "[LStrokeSeek$Log;", true)
  | 6 => ("StrokeSeek", "kept", "[Z", true)
  | 7 => ("StrokeSeek", "points", "LStrokeSeek$Points;", true)
  | 8 => ("StrokeSeek", "groups", "LStrokeSeek$Groups;", true)
  | 9 => ("StrokeSeek", "solver", "LStrokeSeek$Solver;", true)
  | _ => ("StrokeSeek", "finder", "LStrokeSeek$Finder;", true)
def tyX9 : Nat → FieldType := fun k => match k with
  | 0 => .object "StrokeSeek$Text"
  | 1 => .object "StrokeSeek$Parser"
  | 2 => .object "StrokeSeek$Site"
  | 3 => .object "StrokeSeek$Log"
  | 4 => .object "StrokeSeek$Past"
  | 5 => .array (.object "StrokeSeek$Log")
  | 6 => .array .boolean
  | 7 => .object "StrokeSeek$Points"
  | 8 => .object "StrokeSeek$Groups"
  | 9 => .object "StrokeSeek$Solver"
  | _ => .object "StrokeSeek$Finder"
theorem nmX9 : ∀ a, a < 11 → ∀ b, b < 11 → a ≠ b → (TX9 a).2.1 ≠ (TX9 b).2.1 := by decide +kernel
theorem tyX9_ok : ∀ k, k < 11 → parseFieldDescriptor (TX9 k).2.2.1 = some (tyX9 k) := by decide +kernel
abbrev cX9_init : ByteArray := prog_1_method_1_code
def yX9_init : MethodName := ⟨RX9, "<init>", "()V"⟩
abbrev cX9_type : ByteArray := prog_1_method_2_code
def yX9_type : MethodName := ⟨RX9, "type", "(I)I"⟩
abbrev cX9_clear : ByteArray := prog_1_method_3_code
def yX9_clear : MethodName := ⟨RX9, "clear", "()I"⟩
abbrev cX9_field : ByteArray := prog_1_method_4_code
def yX9_field : MethodName := ⟨RX9, "field", "()I"⟩
abbrev cX9_station : ByteArray := prog_1_method_5_code
def yX9_station : MethodName := ⟨RX9, "station", "(II)I"⟩
abbrev cX9_reading : ByteArray := prog_1_method_6_code
def yX9_reading : MethodName := ⟨RX9, "reading", "(II)I"⟩
abbrev cX9_hears : ByteArray := prog_1_method_7_code
def yX9_hears : MethodName := ⟨RX9, "hears", "(II)I"⟩
abbrev cX9_strikes : ByteArray := prog_1_method_8_code
def yX9_strikes : MethodName := ⟨RX9, "strikes", "(I)I"⟩
abbrev cX9_sets : ByteArray := prog_1_method_9_code
def yX9_sets : MethodName := ⟨RX9, "sets", "(II)I"⟩
abbrev cX9_undo : ByteArray := prog_1_method_10_code
def yX9_undo : MethodName := ⟨RX9, "undo", "()I"⟩
abbrev cX9_group : ByteArray := prog_1_method_11_code
def yX9_group : MethodName := ⟨RX9, "group", "(II)I"⟩
abbrev cX9_place : ByteArray := prog_1_method_12_code
def yX9_place : MethodName := ⟨RX9, "place", "(II)I"⟩
abbrev cX9_verdict : ByteArray := prog_1_method_13_code
def yX9_verdict : MethodName := ⟨RX9, "verdict", "(I)I"⟩
abbrev cX9_due : ByteArray := prog_1_method_14_code
def yX9_due : MethodName := ⟨RX9, "due", "(IIIII)I"⟩
abbrev cX9_odds : ByteArray := prog_1_method_15_code
def yX9_odds : MethodName := ⟨RX9, "odds", "(III)I"⟩
abbrev cX9_keep : ByteArray := prog_1_method_16_code
def yX9_keep : MethodName := ⟨RX9, "keep", "(I)I"⟩
abbrev cX9_back : ByteArray := prog_1_method_17_code
def yX9_back : MethodName := ⟨RX9, "back", "(I)I"⟩
abbrev cX9_count : ByteArray := prog_1_method_18_code
def yX9_count : MethodName := ⟨RX9, "count", "(I)I"⟩
abbrev cX9_regroup : ByteArray := prog_1_method_19_code
def yX9_regroup : MethodName := ⟨RX9, "regroup", "()V"⟩
abbrev cX9_sureGroups : ByteArray := prog_1_method_20_code
def yX9_sureGroups : MethodName := ⟨RX9, "sureGroups", "()I"⟩
abbrev cX9_hasStation : ByteArray := prog_1_method_21_code
def yX9_hasStation : MethodName := ⟨RX9, "hasStation", "(I)Z"⟩
abbrev cX9_hasReading : ByteArray := prog_1_method_22_code
def yX9_hasReading : MethodName := ⟨RX9, "hasReading", "(I)Z"⟩
abbrev cX9_within : ByteArray := prog_1_method_23_code
def yX9_within : MethodName := ⟨RX9, "within", "(II)Z"⟩
abbrev cX9_holds : ByteArray := prog_1_method_24_code
def yX9_holds : MethodName := ⟨RX9, "holds", "(II)Z"⟩
abbrev cX9_timeOf : ByteArray := prog_1_method_25_code
def yX9_timeOf : MethodName := ⟨RX9, "timeOf", "(II)I"⟩
abbrev cX9_toldAt : ByteArray := prog_1_method_26_code
def yX9_toldAt : MethodName := ⟨RX9, "toldAt", "(II)I"⟩
abbrev cX9_wholeWay : ByteArray := prog_1_method_27_code
def yX9_wholeWay : MethodName := ⟨RX9, "wholeWay", "(II)I"⟩
abbrev cX9_power : ByteArray := prog_1_method_28_code
def yX9_power : MethodName := ⟨RX9, "power", "(II)J"⟩
abbrev cX9_commonDivisor : ByteArray := prog_1_method_29_code
def yX9_commonDivisor : MethodName := ⟨RX9, "commonDivisor", "(JJ)J"⟩
abbrev cX9_upper : ByteArray := prog_1_method_30_code
def yX9_upper : MethodName := ⟨RX9, "upper", "(JJ)I"⟩
abbrev cX9_lower : ByteArray := prog_1_method_31_code
def yX9_lower : MethodName := ⟨RX9, "lower", "(JJ)I"⟩
def RX10 : String := "StrokeSeekModel"
def TX10 : u_T := fun k => match k with
  | 0 => ("StrokeSeekModel", "stationMany", "I", false)
  | 1 => ("StrokeSeekModel", "xs", "[I", true)
  | 2 => ("StrokeSeekModel", "ys", "[I", true)
  | 3 => ("StrokeSeekModel", "now", "[I", true)
  | 4 => ("StrokeSeekModel", "undoMany", "I", false)
  | 5 => ("StrokeSeekModel", "undoAt", "I", false)
  | 6 => ("StrokeSeekModel", "undos", "[I", true)
  | 7 => ("StrokeSeekModel", "isKept", "[Z", true)
  | 8 => ("StrokeSeekModel", "kept", "[I", true)
  | 9 => ("StrokeSeekModel", "letterMany", "I", false)
  | 10 => ("StrokeSeekModel", "text", "[I", true)
  | 11 => ("StrokeSeekModel", "readAt", "I", false)
  | 12 => ("StrokeSeekModel", "tokenAt", "I", false)
  | 13 => ("StrokeSeekModel", "token", "I", false)
  | 14 => ("StrokeSeekModel", "value", "I", false)
  | 15 => ("StrokeSeekModel", "faultAt", "I", false)
  | 16 => ("StrokeSeekModel", "readStations", "I", false)
  | 17 => ("StrokeSeekModel", "readX", "[I", true)
  | 18 => ("StrokeSeekModel", "readY", "[I", true)
  | 19 => ("StrokeSeekModel", "read", "[I", true)
  | 20 => ("StrokeSeekModel", "groupMany", "I", false)
  | 21 => ("StrokeSeekModel", "groups", "[I", true)
  | 22 => ("StrokeSeekModel", "rowMany", "I", false)
  | 23 => ("StrokeSeekModel", "rows", "[J", true)
  | 24 => ("StrokeSeekModel", "ux", "J", false)
  | 25 => ("StrokeSeekModel", "uy", "J", false)
  | 26 => ("StrokeSeekModel", "ut", "J", false)
  | 27 => ("StrokeSeekModel", "lower", "J", false)
  | 28 => ("StrokeSeekModel", "fourWorst", "I", false)
  | 29 => ("StrokeSeekModel", "canMany", "I", false)
  | _ => ("StrokeSeekModel", "canFirst", "I", false)
def tyX10 : Nat → FieldType := fun k => match k with
  | 0 => .int
  | 1 => .array .int
  | 2 => .array .int
  | 3 => .array .int
  | 4 => .int
  | 5 => .int
  | 6 => .array .int
  | 7 => .array .boolean
  | 8 => .array .int
  | 9 => .int
  | 10 => .array .int
  | 11 => .int
  | 12 => .int
  | 13 => .int
  | 14 => .int
  | 15 => .int
  | 16 => .int
  | 17 => .array .int
  | 18 => .array .int
  | 19 => .array .int
  | 20 => .int
  | 21 => .array .int
  | 22 => .int
  | 23 => .array .long
  | 24 => .long
  | 25 => .long
  | 26 => .long
  | 27 => .long
  | 28 => .int
  | 29 => .int
  | _ => .int
theorem nmX10 : ∀ a, a < 31 → ∀ b, b < 31 → a ≠ b → (TX10 a).2.1 ≠ (TX10 b).2.1 := by decide +kernel
theorem tyX10_ok : ∀ k, k < 31 → parseFieldDescriptor (TX10 k).2.2.1 = some (tyX10 k) := by decide +kernel
abbrev cX10_init : ByteArray := prog_12_method_1_code
def yX10_init : MethodName := ⟨RX10, "<init>", "()V"⟩
abbrev cX10_in : ByteArray := prog_12_method_2_code
def yX10_in : MethodName := ⟨RX10, "in", "(III)Z"⟩
abbrev cX10_has : ByteArray := prog_12_method_3_code
def yX10_has : MethodName := ⟨RX10, "has", "(II)Z"⟩
abbrev cX10_bits : ByteArray := prog_12_method_4_code
def yX10_bits : MethodName := ⟨RX10, "bits", "(I)I"⟩
abbrev cX10_type : ByteArray := prog_12_method_5_code
def yX10_type : MethodName := ⟨RX10, "type", "(I)I"⟩
abbrev cX10_clear : ByteArray := prog_12_method_6_code
def yX10_clear : MethodName := ⟨RX10, "clear", "()I"⟩
abbrev cX10_isFigure : ByteArray := prog_12_method_7_code
def yX10_isFigure : MethodName := ⟨RX10, "isFigure", "()Z"⟩
abbrev cX10_blanks : ByteArray := prog_12_method_8_code
def yX10_blanks : MethodName := ⟨RX10, "blanks", "()V"⟩
abbrev cX10_next : ByteArray := prog_12_method_9_code
def yX10_next : MethodName := ⟨RX10, "next", "()V"⟩
abbrev cX10_fails : ByteArray := prog_12_method_10_code
def yX10_fails : MethodName := ⟨RX10, "fails", "()Z"⟩
abbrev cX10_number : ByteArray := prog_12_method_11_code
def yX10_number : MethodName := ⟨RX10, "number", "(I)Z"⟩
abbrev cX10_ends : ByteArray := prog_12_method_12_code
def yX10_ends : MethodName := ⟨RX10, "ends", "()Z"⟩
abbrev cX10_clockOf : ByteArray := prog_12_method_13_code
def yX10_clockOf : MethodName := ⟨RX10, "clockOf", "(I)I"⟩
abbrev cX10_readsStation : ByteArray := prog_12_method_14_code
def yX10_readsStation : MethodName := ⟨RX10, "readsStation", "()Z"⟩
abbrev cX10_readsReading : ByteArray := prog_12_method_15_code
def yX10_readsReading : MethodName := ⟨RX10, "readsReading", "()Z"⟩
abbrev cX10_field : ByteArray := prog_12_method_16_code
def yX10_field : MethodName := ⟨RX10, "field", "()I"⟩
abbrev cX10_isStation : ByteArray := prog_12_method_17_code
def yX10_isStation : MethodName := ⟨RX10, "isStation", "(I)Z"⟩
abbrev cX10_isReading : ByteArray := prog_12_method_18_code
def yX10_isReading : MethodName := ⟨RX10, "isReading", "(I)Z"⟩
abbrev cX10_timeOf : ByteArray := prog_12_method_19_code
def yX10_timeOf : MethodName := ⟨RX10, "timeOf", "(I)I"⟩
abbrev cX10_xOf : ByteArray := prog_12_method_20_code
def yX10_xOf : MethodName := ⟨RX10, "xOf", "(I)I"⟩
abbrev cX10_yOf : ByteArray := prog_12_method_21_code
def yX10_yOf : MethodName := ⟨RX10, "yOf", "(I)I"⟩
abbrev cX10_square : ByteArray := prog_12_method_22_code
def yX10_square : MethodName := ⟨RX10, "square", "(I)I"⟩
abbrev cX10_isTogether : ByteArray := prog_12_method_23_code
def yX10_isTogether : MethodName := ⟨RX10, "isTogether", "(II)Z"⟩
abbrev cX10_isAhead : ByteArray := prog_12_method_24_code
def yX10_isAhead : MethodName := ⟨RX10, "isAhead", "(II)Z"⟩
abbrev cX10_layGroups : ByteArray := prog_12_method_25_code
def yX10_layGroups : MethodName := ⟨RX10, "layGroups", "()V"⟩
abbrev cX10_groupOf : ByteArray := prog_12_method_26_code
def yX10_groupOf : MethodName := ⟨RX10, "groupOf", "(I)I"⟩
abbrev cX10_station : ByteArray := prog_12_method_27_code
def yX10_station : MethodName := ⟨RX10, "station", "(II)I"⟩
abbrev cX10_reading : ByteArray := prog_12_method_28_code
def yX10_reading : MethodName := ⟨RX10, "reading", "(II)I"⟩
abbrev cX10_remember : ByteArray := prog_12_method_29_code
def yX10_remember : MethodName := ⟨RX10, "remember", "()V"⟩
abbrev cX10_hears : ByteArray := prog_12_method_30_code
def yX10_hears : MethodName := ⟨RX10, "hears", "(II)I"⟩
abbrev cX10_strikes : ByteArray := prog_12_method_31_code
def yX10_strikes : MethodName := ⟨RX10, "strikes", "(I)I"⟩
abbrev cX10_sets : ByteArray := prog_12_method_32_code
def yX10_sets : MethodName := ⟨RX10, "sets", "(II)I"⟩
abbrev cX10_undo : ByteArray := prog_12_method_33_code
def yX10_undo : MethodName := ⟨RX10, "undo", "()I"⟩
abbrev cX10_cellAt : ByteArray := prog_12_method_34_code
def yX10_cellAt : MethodName := ⟨RX10, "cellAt", "(II)J"⟩
abbrev cX10_firstOf : ByteArray := prog_12_method_35_code
def yX10_firstOf : MethodName := ⟨RX10, "firstOf", "(I)I"⟩
abbrev cX10_layRows : ByteArray := prog_12_method_36_code
def yX10_layRows : MethodName := ⟨RX10, "layRows", "(I)V"⟩
abbrev cX10_three : ByteArray := prog_12_method_37_code
def yX10_three : MethodName := ⟨RX10, "three", "(IIIIII)J"⟩
abbrev cX10_two : ByteArray := prog_12_method_38_code
def yX10_two : MethodName := ⟨RX10, "two", "(IIII)J"⟩
abbrev cX10_rankOf : ByteArray := prog_12_method_39_code
def yX10_rankOf : MethodName := ⟨RX10, "rankOf", "(I)I"⟩
abbrev cX10_solves : ByteArray := prog_12_method_40_code
def yX10_solves : MethodName := ⟨RX10, "solves", "()V"⟩
abbrev cX10_isFilled : ByteArray := prog_12_method_41_code
def yX10_isFilled : MethodName := ⟨RX10, "isFilled", "()Z"⟩
abbrev cX10_differs : ByteArray := prog_12_method_42_code
def yX10_differs : MethodName := ⟨RX10, "differs", "(I)J"⟩
abbrev cX10_verdictOf : ByteArray := prog_12_method_43_code
def yX10_verdictOf : MethodName := ⟨RX10, "verdictOf", "(I)I"⟩
abbrev cX10_isOpen : ByteArray := prog_12_method_44_code
def yX10_isOpen : MethodName := ⟨RX10, "isOpen", "(I)Z"⟩
abbrev cX10_verdict : ByteArray := prog_12_method_45_code
def yX10_verdict : MethodName := ⟨RX10, "verdict", "(I)I"⟩
abbrev cX10_outOf : ByteArray := prog_12_method_46_code
def yX10_outOf : MethodName := ⟨RX10, "outOf", "(I)I"⟩
abbrev cX10_worstOf : ByteArray := prog_12_method_47_code
def yX10_worstOf : MethodName := ⟨RX10, "worstOf", "(I)I"⟩
abbrev cX10_fourOf : ByteArray := prog_12_method_48_code
def yX10_fourOf : MethodName := ⟨RX10, "fourOf", "(I)I"⟩
abbrev cX10_root : ByteArray := prog_12_method_49_code
def yX10_root : MethodName := ⟨RX10, "root", "(I)I"⟩
abbrev cX10_layCan : ByteArray := prog_12_method_50_code
def yX10_layCan : MethodName := ⟨RX10, "layCan", "(I)V"⟩
abbrev cX10_group : ByteArray := prog_12_method_51_code
def yX10_group : MethodName := ⟨RX10, "group", "(II)I"⟩
abbrev cX10_lowest : ByteArray := prog_12_method_52_code
def yX10_lowest : MethodName := ⟨RX10, "lowest", "(JJZ)I"⟩
abbrev cX10_place : ByteArray := prog_12_method_53_code
def yX10_place : MethodName := ⟨RX10, "place", "(II)I"⟩
abbrev cX10_due : ByteArray := prog_12_method_54_code
def yX10_due : MethodName := ⟨RX10, "due", "(IIIII)I"⟩
abbrev cX10_odds : ByteArray := prog_12_method_55_code
def yX10_odds : MethodName := ⟨RX10, "odds", "(III)I"⟩
abbrev cX10_keep : ByteArray := prog_12_method_56_code
def yX10_keep : MethodName := ⟨RX10, "keep", "(I)I"⟩
abbrev cX10_back : ByteArray := prog_12_method_57_code
def yX10_back : MethodName := ⟨RX10, "back", "(I)I"⟩
abbrev cX10_sureMany : ByteArray := prog_12_method_58_code
def yX10_sureMany : MethodName := ⟨RX10, "sureMany", "()I"⟩
abbrev cX10_count : ByteArray := prog_12_method_59_code
def yX10_count : MethodName := ⟨RX10, "count", "(I)I"⟩
def RJ6 : String := "java/lang/Integer"
def TJ6 : u_T := fun k => match k with
  | _ => ("", "", "", false)
def tyJ6 : Nat → FieldType := fun k => match k with
  | _ => .int
theorem nmJ6 : ∀ a, a < 0 → ∀ b, b < 0 → a ≠ b → (TJ6 a).2.1 ≠ (TJ6 b).2.1 := by decide +kernel
theorem tyJ6_ok : ∀ k, k < 0 → parseFieldDescriptor (TJ6 k).2.2.1 = some (tyJ6 k) := by decide +kernel
abbrev cJ6_bitCount_0f7a4 : ByteArray := prog_13_method_49_code
def yJ6_bitCount_0f7a4 : MethodName := ⟨RJ6, "bitCount", "(I)I"⟩
def RJ9 : String := "java/lang/Math"
def TJ9 : u_T := fun k => match k with
  | _ => ("", "", "", false)
def tyJ9 : Nat → FieldType := fun k => match k with
  | _ => .int
theorem nmJ9 : ∀ a, a < 0 → ∀ b, b < 0 → a ≠ b → (TJ9 a).2.1 ≠ (TJ9 b).2.1 := by decide +kernel
theorem tyJ9_ok : ∀ k, k < 0 → parseFieldDescriptor (TJ9 k).2.2.1 = some (tyJ9 k) := by decide +kernel
abbrev cJ9_abs_067f4 : ByteArray := prog_14_method_61_code
def yJ9_abs_067f4 : MethodName := ⟨RJ9, "abs", "(J)J"⟩
abbrev cJ9_max_f86c9 : ByteArray := prog_14_method_66_code
def yJ9_max_f86c9 : MethodName := ⟨RJ9, "max", "(JJ)J"⟩
abbrev cJ9_min_7cf53 : ByteArray := prog_14_method_69_code
def yJ9_min_7cf53 : MethodName := ⟨RJ9, "min", "(II)I"⟩
abbrev cJ9_min_f86c9 : ByteArray := prog_14_method_70_code
def yJ9_min_f86c9 : MethodName := ⟨RJ9, "min", "(JJ)J"⟩
def RJ10 : String := "java/lang/System"
def TJ10 : u_T := fun k => match k with
  | _ => ("", "", "", false)
def tyJ10 : Nat → FieldType := fun k => match k with
  | _ => .int
theorem nmJ10 : ∀ a, a < 0 → ∀ b, b < 0 → a ≠ b → (TJ10 a).2.1 ≠ (TJ10 b).2.1 := by decide +kernel
theorem tyJ10_ok : ∀ k, k < 0 → parseFieldDescriptor (TJ10 k).2.2.1 = some (tyJ10 k) := by decide +kernel
def RL : String := "StrokeSeekLaw"
abbrev cL_law : ByteArray := code
def yL_law : MethodName := ⟨RL, "law", "([I)Z"⟩
abbrev vwCl : List vw_C := [(RX0, TX0, 6), (RX1, TX1, 4), (RX2, TX2, 4), (RX3, TX3, 7), (RX4, TX4, 3), (RX5, TX5, 5), (RX6, TX6, 3), (RX7, TX7, 8), (RX8, TX8, 2), (RX9, TX9, 11), (RX10, TX10, 31)]
end
section
theorem dX0_init_0 : decode cX0_init 0 = .ok (.aload_n 0, 1) := by decide +kernel
theorem dX0_init_1 : decode cX0_init 1 = .ok (.invokespecial 3, 3) := by decide +kernel
theorem dX0_init_4 : decode cX0_init 4 = .ok (.aload_n 0, 1) := by decide +kernel
theorem dX0_init_5 : decode cX0_init 5 = .ok (.aload_n 1, 1) := by decide +kernel
theorem dX0_init_6 : decode cX0_init 6 = .ok (.putfield 9, 3) := by decide +kernel
theorem dX0_init_9 : decode cX0_init 9 = .ok (.aload_n 0, 1) := by decide +kernel
theorem dX0_init_10 : decode cX0_init 10 = .ok (.aload_n 2, 1) := by decide +kernel
theorem dX0_init_11 : decode cX0_init 11 = .ok (.putfield 15, 3) := by decide +kernel
theorem dX0_init_14 : decode cX0_init 14 = .ok (.return_, 1) := by decide +kernel
theorem dX0_leastOut_0 : decode cX0_leastOut 0 = .ok (.iconst 0, 1) := by decide +kernel
theorem dX0_leastOut_1 : decode cX0_leastOut 1 = .ok (.istore_n 2, 1) := by decide +kernel
theorem dX0_leastOut_2 : decode cX0_leastOut 2 = .ok (.iload_n 2, 1) := by decide +kernel
theorem dX0_leastOut_3 : decode cX0_leastOut 3 = .ok (.iconst 2, 1) := by decide +kernel
theorem dX0_leastOut_4 : decode cX0_leastOut 4 = .ok (.if_icmp .gt 50, 3) := by decide +kernel
theorem dX0_leastOut_7 : decode cX0_leastOut 7 = .ok (.iconst 0, 1) := by decide +kernel
theorem dX0_leastOut_8 : decode cX0_leastOut 8 = .ok (.istore_n 3, 1) := by decide +kernel
theorem dX0_leastOut_9 : decode cX0_leastOut 9 = .ok (.iload_n 3, 1) := by decide +kernel
theorem dX0_leastOut_10 : decode cX0_leastOut 10 = .ok (.sipush 512, 3) := by decide +kernel
theorem dX0_leastOut_13 : decode cX0_leastOut 13 = .ok (.if_icmp .ge 35, 3) := by decide +kernel
theorem dX0_leastOut_16 : decode cX0_leastOut 16 = .ok (.iload_n 3, 1) := by decide +kernel
theorem dX0_leastOut_17 : decode cX0_leastOut 17 = .ok (.iload_n 1, 1) := by decide +kernel
theorem dX0_leastOut_18 : decode cX0_leastOut 18 = .ok (.iload_n 2, 1) := by decide +kernel
theorem dX0_leastOut_19 : decode cX0_leastOut 19 = .ok (.invokestatic 19, 3) := by decide +kernel
theorem dX0_leastOut_22 : decode cX0_leastOut 22 = .ok (.ifCond .eq 20, 3) := by decide +kernel
theorem dX0_leastOut_25 : decode cX0_leastOut 25 = .ok (.aload_n 0, 1) := by decide +kernel
theorem dX0_leastOut_26 : decode cX0_leastOut 26 = .ok (.getfield 15, 3) := by decide +kernel
theorem dX0_leastOut_29 : decode cX0_leastOut 29 = .ok (.iload_n 1, 1) := by decide +kernel
theorem dX0_leastOut_30 : decode cX0_leastOut 30 = .ok (.iload_n 3, 1) := by decide +kernel
theorem dX0_leastOut_31 : decode cX0_leastOut 31 = .ok (.iconst (-1), 1) := by decide +kernel
theorem dX0_leastOut_32 : decode cX0_leastOut 32 = .ok (.ixor, 1) := by decide +kernel
theorem dX0_leastOut_33 : decode cX0_leastOut 33 = .ok (.iand, 1) := by decide +kernel
theorem dX0_leastOut_34 : decode cX0_leastOut 34 = .ok (.invokevirtual 23, 3) := by decide +kernel
theorem dX0_leastOut_37 : decode cX0_leastOut 37 = .ok (.ifCond .ne 5, 3) := by decide +kernel
theorem dX0_leastOut_40 : decode cX0_leastOut 40 = .ok (.iload_n 3, 1) := by decide +kernel
theorem dX0_leastOut_41 : decode cX0_leastOut 41 = .ok (.ireturn, 1) := by decide +kernel
theorem dX0_leastOut_42 : decode cX0_leastOut 42 = .ok (.iinc 3 1, 3) := by decide +kernel
theorem dX0_leastOut_45 : decode cX0_leastOut 45 = .ok (.goto (-36), 3) := by decide +kernel
theorem dX0_leastOut_48 : decode cX0_leastOut 48 = .ok (.iinc 2 1, 3) := by decide +kernel
theorem dX0_leastOut_51 : decode cX0_leastOut 51 = .ok (.goto (-49), 3) := by decide +kernel
theorem dX0_leastOut_54 : decode cX0_leastOut 54 = .ok (.bipush (-9), 2) := by decide +kernel
theorem dX0_leastOut_56 : decode cX0_leastOut 56 = .ok (.ireturn, 1) := by decide +kernel
theorem dX0_isPart_0 : decode cX0_isPart 0 = .ok (.iload_n 0, 1) := by decide +kernel
theorem dX0_isPart_1 : decode cX0_isPart 1 = .ok (.iload_n 1, 1) := by decide +kernel
theorem dX0_isPart_2 : decode cX0_isPart 2 = .ok (.iconst (-1), 1) := by decide +kernel
theorem dX0_isPart_3 : decode cX0_isPart 3 = .ok (.ixor, 1) := by decide +kernel
theorem dX0_isPart_4 : decode cX0_isPart 4 = .ok (.iand, 1) := by decide +kernel
theorem dX0_isPart_5 : decode cX0_isPart 5 = .ok (.ifCond .ne 15, 3) := by decide +kernel
theorem dX0_isPart_8 : decode cX0_isPart 8 = .ok (.iload_n 0, 1) := by decide +kernel
theorem dX0_isPart_9 : decode cX0_isPart 9 = .ok (.invokestatic 29, 3) := by decide +kernel
theorem dX0_isPart_12 : decode cX0_isPart 12 = .ok (.iload_n 2, 1) := by decide +kernel
theorem dX0_isPart_13 : decode cX0_isPart 13 = .ok (.if_icmp .ne 7, 3) := by decide +kernel
theorem dX0_isPart_16 : decode cX0_isPart 16 = .ok (.iconst 1, 1) := by decide +kernel
theorem dX0_isPart_17 : decode cX0_isPart 17 = .ok (.goto 4, 3) := by decide +kernel
theorem dX0_isPart_20 : decode cX0_isPart 20 = .ok (.iconst 0, 1) := by decide +kernel
theorem dX0_isPart_21 : decode cX0_isPart 21 = .ok (.ireturn, 1) := by decide +kernel
theorem dX0_seekFour_0 : decode cX0_seekFour 0 = .ok (.aload_n 0, 1) := by decide +kernel
theorem dX0_seekFour_1 : decode cX0_seekFour 1 = .ok (.bipush (-9), 2) := by decide +kernel
theorem dX0_seekFour_3 : decode cX0_seekFour 3 = .ok (.putfield 34, 3) := by decide +kernel
theorem dX0_seekFour_6 : decode cX0_seekFour 6 = .ok (.aload_n 0, 1) := by decide +kernel
theorem dX0_seekFour_7 : decode cX0_seekFour 7 = .ok (.bipush (-9), 2) := by decide +kernel
theorem dX0_seekFour_9 : decode cX0_seekFour 9 = .ok (.putfield 38, 3) := by decide +kernel
theorem dX0_seekFour_12 : decode cX0_seekFour 12 = .ok (.iconst 0, 1) := by decide +kernel
theorem dX0_seekFour_13 : decode cX0_seekFour 13 = .ok (.istore_n 2, 1) := by decide +kernel
theorem dX0_seekFour_14 : decode cX0_seekFour 14 = .ok (.iload_n 2, 1) := by decide +kernel
theorem dX0_seekFour_15 : decode cX0_seekFour 15 = .ok (.sipush 512, 3) := by decide +kernel
theorem dX0_seekFour_18 : decode cX0_seekFour 18 = .ok (.if_icmp .ge 47, 3) := by decide +kernel
theorem dX0_seekFour_21 : decode cX0_seekFour 21 = .ok (.iload_n 2, 1) := by decide +kernel
theorem dX0_seekFour_22 : decode cX0_seekFour 22 = .ok (.iload_n 1, 1) := by decide +kernel
theorem dX0_seekFour_23 : decode cX0_seekFour 23 = .ok (.iconst 4, 1) := by decide +kernel
theorem dX0_seekFour_24 : decode cX0_seekFour 24 = .ok (.invokestatic 19, 3) := by decide +kernel
theorem dX0_seekFour_27 : decode cX0_seekFour 27 = .ok (.ifCond .eq 32, 3) := by decide +kernel
theorem dX0_seekFour_30 : decode cX0_seekFour 30 = .ok (.aload_n 0, 1) := by decide +kernel
theorem dX0_seekFour_31 : decode cX0_seekFour 31 = .ok (.getfield 15, 3) := by decide +kernel
theorem dX0_seekFour_34 : decode cX0_seekFour 34 = .ok (.iload_n 2, 1) := by decide +kernel
theorem dX0_seekFour_35 : decode cX0_seekFour 35 = .ok (.invokevirtual 41, 3) := by decide +kernel
theorem dX0_seekFour_38 : decode cX0_seekFour 38 = .ok (.aload_n 0, 1) := by decide +kernel
theorem dX0_seekFour_39 : decode cX0_seekFour 39 = .ok (.getfield 15, 3) := by decide +kernel
theorem dX0_seekFour_42 : decode cX0_seekFour 42 = .ok (.getfield 45, 3) := by decide +kernel
theorem dX0_seekFour_45 : decode cX0_seekFour 45 = .ok (.iconst 3, 1) := by decide +kernel
theorem dX0_seekFour_46 : decode cX0_seekFour 46 = .ok (.if_icmp .ne 13, 3) := by decide +kernel
theorem dX0_seekFour_49 : decode cX0_seekFour 49 = .ok (.aload_n 0, 1) := by decide +kernel
theorem dX0_seekFour_50 : decode cX0_seekFour 50 = .ok (.iload_n 2, 1) := by decide +kernel
theorem dX0_seekFour_51 : decode cX0_seekFour 51 = .ok (.aload_n 0, 1) := by decide +kernel
theorem dX0_seekFour_52 : decode cX0_seekFour 52 = .ok (.iload_n 1, 1) := by decide +kernel
theorem dX0_seekFour_53 : decode cX0_seekFour 53 = .ok (.invokevirtual 48, 3) := by decide +kernel
theorem dX0_seekFour_56 : decode cX0_seekFour 56 = .ok (.invokevirtual 51, 3) := by decide +kernel
theorem dX0_seekFour_59 : decode cX0_seekFour 59 = .ok (.iinc 2 1, 3) := by decide +kernel
theorem dX0_seekFour_62 : decode cX0_seekFour 62 = .ok (.goto (-48), 3) := by decide +kernel
theorem dX0_seekFour_65 : decode cX0_seekFour 65 = .ok (.return_, 1) := by decide +kernel
theorem dX0_offerFour_0 : decode cX0_offerFour 0 = .ok (.aload_n 0, 1) := by decide +kernel
theorem dX0_offerFour_1 : decode cX0_offerFour 1 = .ok (.getfield 34, 3) := by decide +kernel
theorem dX0_offerFour_4 : decode cX0_offerFour 4 = .ok (.bipush (-9), 2) := by decide +kernel
theorem dX0_offerFour_6 : decode cX0_offerFour 6 = .ok (.if_icmp .eq 11, 3) := by decide +kernel
theorem dX0_offerFour_9 : decode cX0_offerFour 9 = .ok (.iload_n 2, 1) := by decide +kernel
theorem dX0_offerFour_10 : decode cX0_offerFour 10 = .ok (.aload_n 0, 1) := by decide +kernel
theorem dX0_offerFour_11 : decode cX0_offerFour 11 = .ok (.getfield 38, 3) := by decide +kernel
theorem dX0_offerFour_14 : decode cX0_offerFour 14 = .ok (.if_icmp .ge 13, 3) := by decide +kernel
theorem dX0_offerFour_17 : decode cX0_offerFour 17 = .ok (.aload_n 0, 1) := by decide +kernel
theorem dX0_offerFour_18 : decode cX0_offerFour 18 = .ok (.iload_n 1, 1) := by decide +kernel
theorem dX0_offerFour_19 : decode cX0_offerFour 19 = .ok (.putfield 34, 3) := by decide +kernel
theorem dX0_offerFour_22 : decode cX0_offerFour 22 = .ok (.aload_n 0, 1) := by decide +kernel
theorem dX0_offerFour_23 : decode cX0_offerFour 23 = .ok (.iload_n 2, 1) := by decide +kernel
theorem dX0_offerFour_24 : decode cX0_offerFour 24 = .ok (.putfield 38, 3) := by decide +kernel
theorem dX0_offerFour_27 : decode cX0_offerFour 27 = .ok (.return_, 1) := by decide +kernel
theorem dX0_worstOf_0 : decode cX0_worstOf 0 = .ok (.lconst 0, 1) := by decide +kernel
theorem dX0_worstOf_1 : decode cX0_worstOf 1 = .ok (.lstore_n 2, 1) := by decide +kernel
theorem dX0_worstOf_2 : decode cX0_worstOf 2 = .ok (.iconst 0, 1) := by decide +kernel
theorem dX0_worstOf_3 : decode cX0_worstOf 3 = .ok (.istore 4, 2) := by decide +kernel
theorem dX0_worstOf_5 : decode cX0_worstOf 5 = .ok (.iload 4, 2) := by decide +kernel
theorem dX0_worstOf_7 : decode cX0_worstOf 7 = .ok (.aload_n 0, 1) := by decide +kernel
theorem dX0_worstOf_8 : decode cX0_worstOf 8 = .ok (.getfield 9, 3) := by decide +kernel
theorem dX0_worstOf_11 : decode cX0_worstOf 11 = .ok (.getfield 55, 3) := by decide +kernel
theorem dX0_worstOf_14 : decode cX0_worstOf 14 = .ok (.if_icmp .ge 35, 3) := by decide +kernel
theorem dX0_worstOf_17 : decode cX0_worstOf 17 = .ok (.iload_n 1, 1) := by decide +kernel
theorem dX0_worstOf_18 : decode cX0_worstOf 18 = .ok (.iload 4, 2) := by decide +kernel
theorem dX0_worstOf_20 : decode cX0_worstOf 20 = .ok (.invokestatic 60, 3) := by decide +kernel
theorem dX0_worstOf_23 : decode cX0_worstOf 23 = .ok (.ifCond .eq 20, 3) := by decide +kernel
theorem dX0_worstOf_26 : decode cX0_worstOf 26 = .ok (.lload_n 2, 1) := by decide +kernel
theorem dX0_worstOf_27 : decode cX0_worstOf 27 = .ok (.aload_n 0, 1) := by decide +kernel
theorem dX0_worstOf_28 : decode cX0_worstOf 28 = .ok (.getfield 15, 3) := by decide +kernel
theorem dX0_worstOf_31 : decode cX0_worstOf 31 = .ok (.iload 4, 2) := by decide +kernel
theorem dX0_worstOf_33 : decode cX0_worstOf 33 = .ok (.invokevirtual 64, 3) := by decide +kernel
theorem dX0_worstOf_36 : decode cX0_worstOf 36 = .ok (.invokestatic 68, 3) := by decide +kernel
theorem dX0_worstOf_39 : decode cX0_worstOf 39 = .ok (.invokestatic 74, 3) := by decide +kernel
theorem dX0_worstOf_42 : decode cX0_worstOf 42 = .ok (.lstore_n 2, 1) := by decide +kernel
theorem dX0_worstOf_43 : decode cX0_worstOf 43 = .ok (.iinc 4 1, 3) := by decide +kernel
theorem dX0_worstOf_46 : decode cX0_worstOf 46 = .ok (.goto (-41), 3) := by decide +kernel
theorem dX0_worstOf_49 : decode cX0_worstOf 49 = .ok (.aload_n 0, 1) := by decide +kernel
theorem dX0_worstOf_50 : decode cX0_worstOf 50 = .ok (.getfield 15, 3) := by decide +kernel
theorem dX0_worstOf_53 : decode cX0_worstOf 53 = .ok (.getfield 78, 3) := by decide +kernel
theorem dX0_worstOf_56 : decode cX0_worstOf 56 = .ok (.aload_n 0, 1) := by decide +kernel
theorem dX0_worstOf_57 : decode cX0_worstOf 57 = .ok (.getfield 15, 3) := by decide +kernel
theorem dX0_worstOf_60 : decode cX0_worstOf 60 = .ok (.getfield 78, 3) := by decide +kernel
theorem dX0_worstOf_63 : decode cX0_worstOf 63 = .ok (.lmul, 1) := by decide +kernel
theorem dX0_worstOf_64 : decode cX0_worstOf 64 = .ok (.lstore 4, 2) := by decide +kernel
theorem dX0_worstOf_66 : decode cX0_worstOf 66 = .ok (.lload 4, 2) := by decide +kernel
theorem dX0_worstOf_68 : decode cX0_worstOf 68 = .ok (.lconst 0, 1) := by decide +kernel
theorem dX0_worstOf_69 : decode cX0_worstOf 69 = .ok (.lcmp, 1) := by decide +kernel
theorem dX0_worstOf_70 : decode cX0_worstOf 70 = .ok (.ifCond .ne 7, 3) := by decide +kernel
theorem dX0_worstOf_73 : decode cX0_worstOf 73 = .ok (.iconst 0, 1) := by decide +kernel
theorem dX0_worstOf_74 : decode cX0_worstOf 74 = .ok (.goto 14, 3) := by decide +kernel
theorem dX0_worstOf_77 : decode cX0_worstOf 77 = .ok (.lload_n 2, 1) := by decide +kernel
theorem dX0_worstOf_78 : decode cX0_worstOf 78 = .ok (.lload 4, 2) := by decide +kernel
theorem dX0_worstOf_80 : decode cX0_worstOf 80 = .ok (.ldiv, 1) := by decide +kernel
theorem dX0_worstOf_81 : decode cX0_worstOf 81 = .ok (.ldc2_w 82, 3) := by decide +kernel
theorem dX0_worstOf_84 : decode cX0_worstOf 84 = .ok (.invokestatic 84, 3) := by decide +kernel
theorem dX0_worstOf_87 : decode cX0_worstOf 87 = .ok (.l2i, 1) := by decide +kernel
theorem dX0_worstOf_88 : decode cX0_worstOf 88 = .ok (.ireturn, 1) := by decide +kernel
theorem dX0_seekPlaces_0 : decode cX0_seekPlaces 0 = .ok (.aload_n 0, 1) := by decide +kernel
theorem dX0_seekPlaces_1 : decode cX0_seekPlaces 1 = .ok (.iconst 0, 1) := by decide +kernel
theorem dX0_seekPlaces_2 : decode cX0_seekPlaces 2 = .ok (.putfield 87, 3) := by decide +kernel
theorem dX0_seekPlaces_5 : decode cX0_seekPlaces 5 = .ok (.aload_n 0, 1) := by decide +kernel
theorem dX0_seekPlaces_6 : decode cX0_seekPlaces 6 = .ok (.bipush (-9), 2) := by decide +kernel
theorem dX0_seekPlaces_8 : decode cX0_seekPlaces 8 = .ok (.putfield 90, 3) := by decide +kernel
theorem dX0_seekPlaces_11 : decode cX0_seekPlaces 11 = .ok (.iconst 0, 1) := by decide +kernel
theorem dX0_seekPlaces_12 : decode cX0_seekPlaces 12 = .ok (.istore_n 2, 1) := by decide +kernel
theorem dX0_seekPlaces_13 : decode cX0_seekPlaces 13 = .ok (.iload_n 2, 1) := by decide +kernel
theorem dX0_seekPlaces_14 : decode cX0_seekPlaces 14 = .ok (.bipush 29, 2) := by decide +kernel
theorem dX0_seekPlaces_16 : decode cX0_seekPlaces 16 = .ok (.if_icmp .gt 76, 3) := by decide +kernel
theorem dX0_seekPlaces_19 : decode cX0_seekPlaces 19 = .ok (.iconst 0, 1) := by decide +kernel
theorem dX0_seekPlaces_20 : decode cX0_seekPlaces 20 = .ok (.istore_n 3, 1) := by decide +kernel
theorem dX0_seekPlaces_21 : decode cX0_seekPlaces 21 = .ok (.iload_n 3, 1) := by decide +kernel
theorem dX0_seekPlaces_22 : decode cX0_seekPlaces 22 = .ok (.bipush 29, 2) := by decide +kernel
theorem dX0_seekPlaces_24 : decode cX0_seekPlaces 24 = .ok (.if_icmp .gt 62, 3) := by decide +kernel
theorem dX0_seekPlaces_27 : decode cX0_seekPlaces 27 = .ok (.aload_n 0, 1) := by decide +kernel
theorem dX0_seekPlaces_28 : decode cX0_seekPlaces 28 = .ok (.iload_n 1, 1) := by decide +kernel
theorem dX0_seekPlaces_29 : decode cX0_seekPlaces 29 = .ok (.iload_n 2, 1) := by decide +kernel
theorem dX0_seekPlaces_30 : decode cX0_seekPlaces 30 = .ok (.iload_n 3, 1) := by decide +kernel
theorem dX0_seekPlaces_31 : decode cX0_seekPlaces 31 = .ok (.invokevirtual 93, 3) := by decide +kernel
theorem dX0_seekPlaces_34 : decode cX0_seekPlaces 34 = .ok (.istore 4, 2) := by decide +kernel
theorem dX0_seekPlaces_36 : decode cX0_seekPlaces 36 = .ok (.iload 4, 2) := by decide +kernel
theorem dX0_seekPlaces_38 : decode cX0_seekPlaces 38 = .ok (.bipush 60, 2) := by decide +kernel
theorem dX0_seekPlaces_40 : decode cX0_seekPlaces 40 = .ok (.invokestatic 97, 3) := by decide +kernel
theorem dX0_seekPlaces_43 : decode cX0_seekPlaces 43 = .ok (.ifCond .eq 37, 3) := by decide +kernel
theorem dX0_seekPlaces_46 : decode cX0_seekPlaces 46 = .ok (.aload_n 0, 1) := by decide +kernel
theorem dX0_seekPlaces_47 : decode cX0_seekPlaces 47 = .ok (.getfield 87, 3) := by decide +kernel
theorem dX0_seekPlaces_50 : decode cX0_seekPlaces 50 = .ok (.ifCond .ne 20, 3) := by decide +kernel
theorem dX0_seekPlaces_53 : decode cX0_seekPlaces 53 = .ok (.aload_n 0, 1) := by decide +kernel
theorem dX0_seekPlaces_54 : decode cX0_seekPlaces 54 = .ok (.sipush 10000, 3) := by decide +kernel
theorem dX0_seekPlaces_57 : decode cX0_seekPlaces 57 = .ok (.iload_n 2, 1) := by decide +kernel
theorem dX0_seekPlaces_58 : decode cX0_seekPlaces 58 = .ok (.imul, 1) := by decide +kernel
theorem dX0_seekPlaces_59 : decode cX0_seekPlaces 59 = .ok (.bipush 100, 2) := by decide +kernel
theorem dX0_seekPlaces_61 : decode cX0_seekPlaces 61 = .ok (.iload_n 3, 1) := by decide +kernel
theorem dX0_seekPlaces_62 : decode cX0_seekPlaces 62 = .ok (.imul, 1) := by decide +kernel
theorem dX0_seekPlaces_63 : decode cX0_seekPlaces 63 = .ok (.iadd, 1) := by decide +kernel
theorem dX0_seekPlaces_64 : decode cX0_seekPlaces 64 = .ok (.iload 4, 2) := by decide +kernel
theorem dX0_seekPlaces_66 : decode cX0_seekPlaces 66 = .ok (.iadd, 1) := by decide +kernel
theorem dX0_seekPlaces_67 : decode cX0_seekPlaces 67 = .ok (.putfield 90, 3) := by decide +kernel
theorem dX0_seekPlaces_70 : decode cX0_seekPlaces 70 = .ok (.aload_n 0, 1) := by decide +kernel
theorem dX0_seekPlaces_71 : decode cX0_seekPlaces 71 = .ok (.dup, 1) := by decide +kernel
theorem dX0_seekPlaces_72 : decode cX0_seekPlaces 72 = .ok (.getfield 87, 3) := by decide +kernel
theorem dX0_seekPlaces_75 : decode cX0_seekPlaces 75 = .ok (.iconst 1, 1) := by decide +kernel
theorem dX0_seekPlaces_76 : decode cX0_seekPlaces 76 = .ok (.iadd, 1) := by decide +kernel
theorem dX0_seekPlaces_77 : decode cX0_seekPlaces 77 = .ok (.putfield 87, 3) := by decide +kernel
theorem dX0_seekPlaces_80 : decode cX0_seekPlaces 80 = .ok (.iinc 3 1, 3) := by decide +kernel
theorem dX0_seekPlaces_83 : decode cX0_seekPlaces 83 = .ok (.goto (-62), 3) := by decide +kernel
theorem dX0_seekPlaces_86 : decode cX0_seekPlaces 86 = .ok (.iinc 2 1, 3) := by decide +kernel
theorem dX0_seekPlaces_89 : decode cX0_seekPlaces 89 = .ok (.goto (-76), 3) := by decide +kernel
theorem dX0_seekPlaces_92 : decode cX0_seekPlaces 92 = .ok (.return_, 1) := by decide +kernel
theorem dX0_strokeTime_0 : decode cX0_strokeTime 0 = .ok (.iconst (-1), 1) := by decide +kernel
theorem dX0_strokeTime_1 : decode cX0_strokeTime 1 = .ok (.istore 4, 2) := by decide +kernel
theorem dX0_strokeTime_3 : decode cX0_strokeTime 3 = .ok (.iconst 0, 1) := by decide +kernel
theorem dX0_strokeTime_4 : decode cX0_strokeTime 4 = .ok (.istore 5, 2) := by decide +kernel
theorem dX0_strokeTime_6 : decode cX0_strokeTime 6 = .ok (.iload 5, 2) := by decide +kernel
theorem dX0_strokeTime_8 : decode cX0_strokeTime 8 = .ok (.aload_n 0, 1) := by decide +kernel
theorem dX0_strokeTime_9 : decode cX0_strokeTime 9 = .ok (.getfield 9, 3) := by decide +kernel
theorem dX0_strokeTime_12 : decode cX0_strokeTime 12 = .ok (.getfield 55, 3) := by decide +kernel
theorem dX0_strokeTime_15 : decode cX0_strokeTime 15 = .ok (.if_icmp .ge 90, 3) := by decide +kernel
theorem dX0_strokeTime_18 : decode cX0_strokeTime 18 = .ok (.iload_n 1, 1) := by decide +kernel
theorem dX0_strokeTime_19 : decode cX0_strokeTime 19 = .ok (.iload 5, 2) := by decide +kernel
theorem dX0_strokeTime_21 : decode cX0_strokeTime 21 = .ok (.invokestatic 60, 3) := by decide +kernel
theorem dX0_strokeTime_24 : decode cX0_strokeTime 24 = .ok (.ifCond .eq 75, 3) := by decide +kernel
theorem dX0_strokeTime_27 : decode cX0_strokeTime 27 = .ok (.iload_n 2, 1) := by decide +kernel
theorem dX0_strokeTime_28 : decode cX0_strokeTime 28 = .ok (.aload_n 0, 1) := by decide +kernel
theorem dX0_strokeTime_29 : decode cX0_strokeTime 29 = .ok (.getfield 9, 3) := by decide +kernel
theorem dX0_strokeTime_32 : decode cX0_strokeTime 32 = .ok (.getfield 100, 3) := by decide +kernel
theorem dX0_strokeTime_35 : decode cX0_strokeTime 35 = .ok (.iload 5, 2) := by decide +kernel
theorem dX0_strokeTime_37 : decode cX0_strokeTime 37 = .ok (.iaload, 1) := by decide +kernel
theorem dX0_strokeTime_38 : decode cX0_strokeTime 38 = .ok (.isub, 1) := by decide +kernel
theorem dX0_strokeTime_39 : decode cX0_strokeTime 39 = .ok (.iload_n 3, 1) := by decide +kernel
theorem dX0_strokeTime_40 : decode cX0_strokeTime 40 = .ok (.aload_n 0, 1) := by decide +kernel
theorem dX0_strokeTime_41 : decode cX0_strokeTime 41 = .ok (.getfield 9, 3) := by decide +kernel
theorem dX0_strokeTime_44 : decode cX0_strokeTime 44 = .ok (.getfield 104, 3) := by decide +kernel
theorem dX0_strokeTime_47 : decode cX0_strokeTime 47 = .ok (.iload 5, 2) := by decide +kernel
theorem dX0_strokeTime_49 : decode cX0_strokeTime 49 = .ok (.iaload, 1) := by decide +kernel
theorem dX0_strokeTime_50 : decode cX0_strokeTime 50 = .ok (.isub, 1) := by decide +kernel
theorem dX0_strokeTime_51 : decode cX0_strokeTime 51 = .ok (.invokestatic 107, 3) := by decide +kernel
theorem dX0_strokeTime_54 : decode cX0_strokeTime 54 = .ok (.istore 6, 2) := by decide +kernel
theorem dX0_strokeTime_56 : decode cX0_strokeTime 56 = .ok (.aload_n 0, 1) := by decide +kernel
theorem dX0_strokeTime_57 : decode cX0_strokeTime 57 = .ok (.getfield 9, 3) := by decide +kernel
theorem dX0_strokeTime_60 : decode cX0_strokeTime 60 = .ok (.getfield 111, 3) := by decide +kernel
theorem dX0_strokeTime_63 : decode cX0_strokeTime 63 = .ok (.iload 5, 2) := by decide +kernel
theorem dX0_strokeTime_65 : decode cX0_strokeTime 65 = .ok (.iaload, 1) := by decide +kernel
theorem dX0_strokeTime_66 : decode cX0_strokeTime 66 = .ok (.iload 6, 2) := by decide +kernel
theorem dX0_strokeTime_68 : decode cX0_strokeTime 68 = .ok (.isub, 1) := by decide +kernel
theorem dX0_strokeTime_69 : decode cX0_strokeTime 69 = .ok (.istore 7, 2) := by decide +kernel
theorem dX0_strokeTime_71 : decode cX0_strokeTime 71 = .ok (.iload 6, 2) := by decide +kernel
theorem dX0_strokeTime_73 : decode cX0_strokeTime 73 = .ok (.ifCond .lt 20, 3) := by decide +kernel
theorem dX0_strokeTime_76 : decode cX0_strokeTime 76 = .ok (.iload 7, 2) := by decide +kernel
theorem dX0_strokeTime_78 : decode cX0_strokeTime 78 = .ok (.ifCond .lt 15, 3) := by decide +kernel
theorem dX0_strokeTime_81 : decode cX0_strokeTime 81 = .ok (.iload 4, 2) := by decide +kernel
theorem dX0_strokeTime_83 : decode cX0_strokeTime 83 = .ok (.ifCond .lt 12, 3) := by decide +kernel
theorem dX0_strokeTime_86 : decode cX0_strokeTime 86 = .ok (.iload 7, 2) := by decide +kernel
theorem dX0_strokeTime_88 : decode cX0_strokeTime 88 = .ok (.iload 4, 2) := by decide +kernel
theorem dX0_strokeTime_90 : decode cX0_strokeTime 90 = .ok (.if_icmp .eq 5, 3) := by decide +kernel
theorem dX0_strokeTime_93 : decode cX0_strokeTime 93 = .ok (.iconst (-1), 1) := by decide +kernel
theorem dX0_strokeTime_94 : decode cX0_strokeTime 94 = .ok (.ireturn, 1) := by decide +kernel
theorem dX0_strokeTime_95 : decode cX0_strokeTime 95 = .ok (.iload 7, 2) := by decide +kernel
theorem dX0_strokeTime_97 : decode cX0_strokeTime 97 = .ok (.istore 4, 2) := by decide +kernel
theorem dX0_strokeTime_99 : decode cX0_strokeTime 99 = .ok (.iinc 5 1, 3) := by decide +kernel
theorem dX0_strokeTime_102 : decode cX0_strokeTime 102 = .ok (.goto (-96), 3) := by decide +kernel
theorem dX0_strokeTime_105 : decode cX0_strokeTime 105 = .ok (.iload 4, 2) := by decide +kernel
theorem dX0_strokeTime_107 : decode cX0_strokeTime 107 = .ok (.ireturn, 1) := by decide +kernel
theorem dX0_sureCases_0 : decode cX0_sureCases 0 = .ok (.iload_n 1, 1) := by decide +kernel
theorem dX0_sureCases_1 : decode cX0_sureCases 1 = .ok (.invokestatic 29, 3) := by decide +kernel
theorem dX0_sureCases_4 : decode cX0_sureCases 4 = .ok (.istore_n 3, 1) := by decide +kernel
theorem dX0_sureCases_5 : decode cX0_sureCases 5 = .ok (.lconst 0, 1) := by decide +kernel
theorem dX0_sureCases_6 : decode cX0_sureCases 6 = .ok (.lstore 4, 2) := by decide +kernel
theorem dX0_sureCases_8 : decode cX0_sureCases 8 = .ok (.iconst 0, 1) := by decide +kernel
theorem dX0_sureCases_9 : decode cX0_sureCases 9 = .ok (.istore 6, 2) := by decide +kernel
theorem dX0_sureCases_11 : decode cX0_sureCases 11 = .ok (.iload 6, 2) := by decide +kernel
theorem dX0_sureCases_13 : decode cX0_sureCases 13 = .ok (.sipush 512, 3) := by decide +kernel
theorem dX0_sureCases_16 : decode cX0_sureCases 16 = .ok (.if_icmp .ge 66, 3) := by decide +kernel
theorem dX0_sureCases_19 : decode cX0_sureCases 19 = .ok (.iload 6, 2) := by decide +kernel
theorem dX0_sureCases_21 : decode cX0_sureCases 21 = .ok (.invokestatic 29, 3) := by decide +kernel
theorem dX0_sureCases_24 : decode cX0_sureCases 24 = .ok (.istore 7, 2) := by decide +kernel
theorem dX0_sureCases_26 : decode cX0_sureCases 26 = .ok (.iload 7, 2) := by decide +kernel
theorem dX0_sureCases_28 : decode cX0_sureCases 28 = .ok (.iconst 4, 1) := by decide +kernel
theorem dX0_sureCases_29 : decode cX0_sureCases 29 = .ok (.if_icmp .lt 47, 3) := by decide +kernel
theorem dX0_sureCases_32 : decode cX0_sureCases 32 = .ok (.iload 6, 2) := by decide +kernel
theorem dX0_sureCases_34 : decode cX0_sureCases 34 = .ok (.iload_n 1, 1) := by decide +kernel
theorem dX0_sureCases_35 : decode cX0_sureCases 35 = .ok (.iconst (-1), 1) := by decide +kernel
theorem dX0_sureCases_36 : decode cX0_sureCases 36 = .ok (.ixor, 1) := by decide +kernel
theorem dX0_sureCases_37 : decode cX0_sureCases 37 = .ok (.iand, 1) := by decide +kernel
theorem dX0_sureCases_38 : decode cX0_sureCases 38 = .ok (.ifCond .ne 38, 3) := by decide +kernel
theorem dX0_sureCases_41 : decode cX0_sureCases 41 = .ok (.aload_n 0, 1) := by decide +kernel
theorem dX0_sureCases_42 : decode cX0_sureCases 42 = .ok (.getfield 15, 3) := by decide +kernel
theorem dX0_sureCases_45 : decode cX0_sureCases 45 = .ok (.iload 6, 2) := by decide +kernel
theorem dX0_sureCases_47 : decode cX0_sureCases 47 = .ok (.invokevirtual 23, 3) := by decide +kernel
theorem dX0_sureCases_50 : decode cX0_sureCases 50 = .ok (.ifCond .ne 26, 3) := by decide +kernel
theorem dX0_sureCases_53 : decode cX0_sureCases 53 = .ok (.lload 4, 2) := by decide +kernel
theorem dX0_sureCases_55 : decode cX0_sureCases 55 = .ok (.bipush 10, 2) := by decide +kernel
theorem dX0_sureCases_57 : decode cX0_sureCases 57 = .ok (.iload_n 2, 1) := by decide +kernel
theorem dX0_sureCases_58 : decode cX0_sureCases 58 = .ok (.isub, 1) := by decide +kernel
theorem dX0_sureCases_59 : decode cX0_sureCases 59 = .ok (.iload 7, 2) := by decide +kernel
theorem dX0_sureCases_61 : decode cX0_sureCases 61 = .ok (.invokestatic 114, 3) := by decide +kernel
theorem dX0_sureCases_64 : decode cX0_sureCases 64 = .ok (.iload_n 2, 1) := by decide +kernel
theorem dX0_sureCases_65 : decode cX0_sureCases 65 = .ok (.iload_n 3, 1) := by decide +kernel
theorem dX0_sureCases_66 : decode cX0_sureCases 66 = .ok (.iload 7, 2) := by decide +kernel
theorem dX0_sureCases_68 : decode cX0_sureCases 68 = .ok (.isub, 1) := by decide +kernel
theorem dX0_sureCases_69 : decode cX0_sureCases 69 = .ok (.invokestatic 114, 3) := by decide +kernel
theorem dX0_sureCases_72 : decode cX0_sureCases 72 = .ok (.lmul, 1) := by decide +kernel
theorem dX0_sureCases_73 : decode cX0_sureCases 73 = .ok (.ladd, 1) := by decide +kernel
theorem dX0_sureCases_74 : decode cX0_sureCases 74 = .ok (.lstore 4, 2) := by decide +kernel
theorem dX0_sureCases_76 : decode cX0_sureCases 76 = .ok (.iinc 6 1, 3) := by decide +kernel
theorem dX0_sureCases_79 : decode cX0_sureCases 79 = .ok (.goto (-68), 3) := by decide +kernel
theorem dX0_sureCases_82 : decode cX0_sureCases 82 = .ok (.lload 4, 2) := by decide +kernel
theorem dX0_sureCases_84 : decode cX0_sureCases 84 = .ok (.lreturn, 1) := by decide +kernel
end
section
theorem dX1_init_0 : decode cX1_init 0 = .ok (.aload_n 0, 1) := by decide +kernel
theorem dX1_init_1 : decode cX1_init 1 = .ok (.invokespecial 3, 3) := by decide +kernel
theorem dX1_init_4 : decode cX1_init 4 = .ok (.aload_n 0, 1) := by decide +kernel
theorem dX1_init_5 : decode cX1_init 5 = .ok (.bipush 9, 2) := by decide +kernel
theorem dX1_init_7 : decode cX1_init 7 = .ok (.newarray .int, 2) := by decide +kernel
theorem dX1_init_9 : decode cX1_init 9 = .ok (.putfield 9, 3) := by decide +kernel
theorem dX1_init_12 : decode cX1_init 12 = .ok (.aload_n 0, 1) := by decide +kernel
theorem dX1_init_13 : decode cX1_init 13 = .ok (.bipush 9, 2) := by decide +kernel
theorem dX1_init_15 : decode cX1_init 15 = .ok (.newarray .int, 2) := by decide +kernel
theorem dX1_init_17 : decode cX1_init 17 = .ok (.putfield 15, 3) := by decide +kernel
theorem dX1_init_20 : decode cX1_init 20 = .ok (.aload_n 0, 1) := by decide +kernel
theorem dX1_init_21 : decode cX1_init 21 = .ok (.bipush 9, 2) := by decide +kernel
theorem dX1_init_23 : decode cX1_init 23 = .ok (.newarray .int, 2) := by decide +kernel
theorem dX1_init_25 : decode cX1_init 25 = .ok (.putfield 18, 3) := by decide +kernel
theorem dX1_init_28 : decode cX1_init 28 = .ok (.return_, 1) := by decide +kernel
theorem dX1_make_0 : decode cX1_make 0 = .ok (.aload_n 0, 1) := by decide +kernel
theorem dX1_make_1 : decode cX1_make 1 = .ok (.aload_n 1, 1) := by decide +kernel
theorem dX1_make_2 : decode cX1_make 2 = .ok (.invokevirtual 21, 3) := by decide +kernel
theorem dX1_make_5 : decode cX1_make 5 = .ok (.aload_n 0, 1) := by decide +kernel
theorem dX1_make_6 : decode cX1_make 6 = .ok (.iconst 0, 1) := by decide +kernel
theorem dX1_make_7 : decode cX1_make 7 = .ok (.putfield 25, 3) := by decide +kernel
theorem dX1_make_10 : decode cX1_make 10 = .ok (.iconst 0, 1) := by decide +kernel
theorem dX1_make_11 : decode cX1_make 11 = .ok (.istore_n 2, 1) := by decide +kernel
theorem dX1_make_12 : decode cX1_make 12 = .ok (.iload_n 2, 1) := by decide +kernel
theorem dX1_make_13 : decode cX1_make 13 = .ok (.aload_n 1, 1) := by decide +kernel
theorem dX1_make_14 : decode cX1_make 14 = .ok (.getfield 29, 3) := by decide +kernel
theorem dX1_make_17 : decode cX1_make 17 = .ok (.if_icmp .ge 72, 3) := by decide +kernel
theorem dX1_make_20 : decode cX1_make 20 = .ok (.aload_n 0, 1) := by decide +kernel
theorem dX1_make_21 : decode cX1_make 21 = .ok (.getfield 18, 3) := by decide +kernel
theorem dX1_make_24 : decode cX1_make 24 = .ok (.iload_n 2, 1) := by decide +kernel
theorem dX1_make_25 : decode cX1_make 25 = .ok (.iaload, 1) := by decide +kernel
theorem dX1_make_26 : decode cX1_make 26 = .ok (.istore_n 3, 1) := by decide +kernel
theorem dX1_make_27 : decode cX1_make 27 = .ok (.aload_n 0, 1) := by decide +kernel
theorem dX1_make_28 : decode cX1_make 28 = .ok (.aload_n 1, 1) := by decide +kernel
theorem dX1_make_29 : decode cX1_make 29 = .ok (.iload_n 3, 1) := by decide +kernel
theorem dX1_make_30 : decode cX1_make 30 = .ok (.invokevirtual 32, 3) := by decide +kernel
theorem dX1_make_33 : decode cX1_make 33 = .ok (.istore 4, 2) := by decide +kernel
theorem dX1_make_35 : decode cX1_make 35 = .ok (.iload 4, 2) := by decide +kernel
theorem dX1_make_37 : decode cX1_make 37 = .ok (.aload_n 0, 1) := by decide +kernel
theorem dX1_make_38 : decode cX1_make 38 = .ok (.getfield 25, 3) := by decide +kernel
theorem dX1_make_41 : decode cX1_make 41 = .ok (.if_icmp .ne 21, 3) := by decide +kernel
theorem dX1_make_44 : decode cX1_make 44 = .ok (.aload_n 0, 1) := by decide +kernel
theorem dX1_make_45 : decode cX1_make 45 = .ok (.getfield 9, 3) := by decide +kernel
theorem dX1_make_48 : decode cX1_make 48 = .ok (.iload 4, 2) := by decide +kernel
theorem dX1_make_50 : decode cX1_make 50 = .ok (.iconst 0, 1) := by decide +kernel
theorem dX1_make_51 : decode cX1_make 51 = .ok (.iastore, 1) := by decide +kernel
theorem dX1_make_52 : decode cX1_make 52 = .ok (.aload_n 0, 1) := by decide +kernel
theorem dX1_make_53 : decode cX1_make 53 = .ok (.dup, 1) := by decide +kernel
theorem dX1_make_54 : decode cX1_make 54 = .ok (.getfield 25, 3) := by decide +kernel
theorem dX1_make_57 : decode cX1_make 57 = .ok (.iconst 1, 1) := by decide +kernel
theorem dX1_make_58 : decode cX1_make 58 = .ok (.iadd, 1) := by decide +kernel
theorem dX1_make_59 : decode cX1_make 59 = .ok (.putfield 25, 3) := by decide +kernel
theorem dX1_make_62 : decode cX1_make 62 = .ok (.aload_n 0, 1) := by decide +kernel
theorem dX1_make_63 : decode cX1_make 63 = .ok (.getfield 9, 3) := by decide +kernel
theorem dX1_make_66 : decode cX1_make 66 = .ok (.iload 4, 2) := by decide +kernel
theorem dX1_make_68 : decode cX1_make 68 = .ok (.dup2, 1) := by decide +kernel
theorem dX1_make_69 : decode cX1_make 69 = .ok (.iaload, 1) := by decide +kernel
theorem dX1_make_70 : decode cX1_make 70 = .ok (.iconst 1, 1) := by decide +kernel
theorem dX1_make_71 : decode cX1_make 71 = .ok (.iload_n 3, 1) := by decide +kernel
theorem dX1_make_72 : decode cX1_make 72 = .ok (.ishl, 1) := by decide +kernel
theorem dX1_make_73 : decode cX1_make 73 = .ok (.ior, 1) := by decide +kernel
theorem dX1_make_74 : decode cX1_make 74 = .ok (.iastore, 1) := by decide +kernel
theorem dX1_make_75 : decode cX1_make 75 = .ok (.aload_n 0, 1) := by decide +kernel
theorem dX1_make_76 : decode cX1_make 76 = .ok (.getfield 15, 3) := by decide +kernel
theorem dX1_make_79 : decode cX1_make 79 = .ok (.iload_n 3, 1) := by decide +kernel
theorem dX1_make_80 : decode cX1_make 80 = .ok (.iload 4, 2) := by decide +kernel
theorem dX1_make_82 : decode cX1_make 82 = .ok (.iastore, 1) := by decide +kernel
theorem dX1_make_83 : decode cX1_make 83 = .ok (.iinc 2 1, 3) := by decide +kernel
theorem dX1_make_86 : decode cX1_make 86 = .ok (.goto (-74), 3) := by decide +kernel
theorem dX1_make_89 : decode cX1_make 89 = .ok (.return_, 1) := by decide +kernel
theorem dX1_sort_0 : decode cX1_sort 0 = .ok (.iconst 0, 1) := by decide +kernel
theorem dX1_sort_1 : decode cX1_sort 1 = .ok (.istore_n 2, 1) := by decide +kernel
theorem dX1_sort_2 : decode cX1_sort 2 = .ok (.iload_n 2, 1) := by decide +kernel
theorem dX1_sort_3 : decode cX1_sort 3 = .ok (.aload_n 1, 1) := by decide +kernel
theorem dX1_sort_4 : decode cX1_sort 4 = .ok (.getfield 29, 3) := by decide +kernel
theorem dX1_sort_7 : decode cX1_sort 7 = .ok (.if_icmp .ge 58, 3) := by decide +kernel
theorem dX1_sort_10 : decode cX1_sort 10 = .ok (.iload_n 2, 1) := by decide +kernel
theorem dX1_sort_11 : decode cX1_sort 11 = .ok (.istore_n 3, 1) := by decide +kernel
theorem dX1_sort_12 : decode cX1_sort 12 = .ok (.iload_n 3, 1) := by decide +kernel
theorem dX1_sort_13 : decode cX1_sort 13 = .ok (.ifCond .le 39, 3) := by decide +kernel
theorem dX1_sort_16 : decode cX1_sort 16 = .ok (.aload_n 1, 1) := by decide +kernel
theorem dX1_sort_17 : decode cX1_sort 17 = .ok (.iload_n 2, 1) := by decide +kernel
theorem dX1_sort_18 : decode cX1_sort 18 = .ok (.aload_n 0, 1) := by decide +kernel
theorem dX1_sort_19 : decode cX1_sort 19 = .ok (.getfield 18, 3) := by decide +kernel
theorem dX1_sort_22 : decode cX1_sort 22 = .ok (.iload_n 3, 1) := by decide +kernel
theorem dX1_sort_23 : decode cX1_sort 23 = .ok (.iconst 1, 1) := by decide +kernel
theorem dX1_sort_24 : decode cX1_sort 24 = .ok (.isub, 1) := by decide +kernel
theorem dX1_sort_25 : decode cX1_sort 25 = .ok (.iaload, 1) := by decide +kernel
theorem dX1_sort_26 : decode cX1_sort 26 = .ok (.invokestatic 36, 3) := by decide +kernel
theorem dX1_sort_29 : decode cX1_sort 29 = .ok (.ifCond .eq 23, 3) := by decide +kernel
theorem dX1_sort_32 : decode cX1_sort 32 = .ok (.aload_n 0, 1) := by decide +kernel
theorem dX1_sort_33 : decode cX1_sort 33 = .ok (.getfield 18, 3) := by decide +kernel
theorem dX1_sort_36 : decode cX1_sort 36 = .ok (.iload_n 3, 1) := by decide +kernel
theorem dX1_sort_37 : decode cX1_sort 37 = .ok (.aload_n 0, 1) := by decide +kernel
theorem dX1_sort_38 : decode cX1_sort 38 = .ok (.getfield 18, 3) := by decide +kernel
theorem dX1_sort_41 : decode cX1_sort 41 = .ok (.iload_n 3, 1) := by decide +kernel
theorem dX1_sort_42 : decode cX1_sort 42 = .ok (.iconst 1, 1) := by decide +kernel
theorem dX1_sort_43 : decode cX1_sort 43 = .ok (.isub, 1) := by decide +kernel
theorem dX1_sort_44 : decode cX1_sort 44 = .ok (.iaload, 1) := by decide +kernel
theorem dX1_sort_45 : decode cX1_sort 45 = .ok (.iastore, 1) := by decide +kernel
theorem dX1_sort_46 : decode cX1_sort 46 = .ok (.iinc 3 (-1), 3) := by decide +kernel
theorem dX1_sort_49 : decode cX1_sort 49 = .ok (.goto (-37), 3) := by decide +kernel
theorem dX1_sort_52 : decode cX1_sort 52 = .ok (.aload_n 0, 1) := by decide +kernel
theorem dX1_sort_53 : decode cX1_sort 53 = .ok (.getfield 18, 3) := by decide +kernel
theorem dX1_sort_56 : decode cX1_sort 56 = .ok (.iload_n 3, 1) := by decide +kernel
theorem dX1_sort_57 : decode cX1_sort 57 = .ok (.iload_n 2, 1) := by decide +kernel
theorem dX1_sort_58 : decode cX1_sort 58 = .ok (.iastore, 1) := by decide +kernel
theorem dX1_sort_59 : decode cX1_sort 59 = .ok (.iinc 2 1, 3) := by decide +kernel
theorem dX1_sort_62 : decode cX1_sort 62 = .ok (.goto (-60), 3) := by decide +kernel
theorem dX1_sort_65 : decode cX1_sort 65 = .ok (.return_, 1) := by decide +kernel
theorem dX1_isBefore_0 : decode cX1_isBefore 0 = .ok (.aload_n 0, 1) := by decide +kernel
theorem dX1_isBefore_1 : decode cX1_isBefore 1 = .ok (.getfield 40, 3) := by decide +kernel
theorem dX1_isBefore_4 : decode cX1_isBefore 4 = .ok (.iload_n 1, 1) := by decide +kernel
theorem dX1_isBefore_5 : decode cX1_isBefore 5 = .ok (.iaload, 1) := by decide +kernel
theorem dX1_isBefore_6 : decode cX1_isBefore 6 = .ok (.aload_n 0, 1) := by decide +kernel
theorem dX1_isBefore_7 : decode cX1_isBefore 7 = .ok (.getfield 40, 3) := by decide +kernel
theorem dX1_isBefore_10 : decode cX1_isBefore 10 = .ok (.iload_n 2, 1) := by decide +kernel
theorem dX1_isBefore_11 : decode cX1_isBefore 11 = .ok (.iaload, 1) := by decide +kernel
theorem dX1_isBefore_12 : decode cX1_isBefore 12 = .ok (.isub, 1) := by decide +kernel
theorem dX1_isBefore_13 : decode cX1_isBefore 13 = .ok (.istore_n 3, 1) := by decide +kernel
theorem dX1_isBefore_14 : decode cX1_isBefore 14 = .ok (.iload_n 3, 1) := by decide +kernel
theorem dX1_isBefore_15 : decode cX1_isBefore 15 = .ok (.ifCond .lt 22, 3) := by decide +kernel
theorem dX1_isBefore_18 : decode cX1_isBefore 18 = .ok (.iload_n 3, 1) := by decide +kernel
theorem dX1_isBefore_19 : decode cX1_isBefore 19 = .ok (.ifCond .ne 22, 3) := by decide +kernel
theorem dX1_isBefore_22 : decode cX1_isBefore 22 = .ok (.aload_n 0, 1) := by decide +kernel
theorem dX1_isBefore_23 : decode cX1_isBefore 23 = .ok (.getfield 43, 3) := by decide +kernel
theorem dX1_isBefore_26 : decode cX1_isBefore 26 = .ok (.iload_n 1, 1) := by decide +kernel
theorem dX1_isBefore_27 : decode cX1_isBefore 27 = .ok (.iaload, 1) := by decide +kernel
theorem dX1_isBefore_28 : decode cX1_isBefore 28 = .ok (.aload_n 0, 1) := by decide +kernel
theorem dX1_isBefore_29 : decode cX1_isBefore 29 = .ok (.getfield 43, 3) := by decide +kernel
theorem dX1_isBefore_32 : decode cX1_isBefore 32 = .ok (.iload_n 2, 1) := by decide +kernel
theorem dX1_isBefore_33 : decode cX1_isBefore 33 = .ok (.iaload, 1) := by decide +kernel
theorem dX1_isBefore_34 : decode cX1_isBefore 34 = .ok (.if_icmp .ge 7, 3) := by decide +kernel
theorem dX1_isBefore_37 : decode cX1_isBefore 37 = .ok (.iconst 1, 1) := by decide +kernel
theorem dX1_isBefore_38 : decode cX1_isBefore 38 = .ok (.goto 4, 3) := by decide +kernel
theorem dX1_isBefore_41 : decode cX1_isBefore 41 = .ok (.iconst 0, 1) := by decide +kernel
theorem dX1_isBefore_42 : decode cX1_isBefore 42 = .ok (.ireturn, 1) := by decide +kernel
theorem dX1_firstFitting_0 : decode cX1_firstFitting 0 = .ok (.iconst 0, 1) := by decide +kernel
theorem dX1_firstFitting_1 : decode cX1_firstFitting 1 = .ok (.istore_n 3, 1) := by decide +kernel
theorem dX1_firstFitting_2 : decode cX1_firstFitting 2 = .ok (.iload_n 3, 1) := by decide +kernel
theorem dX1_firstFitting_3 : decode cX1_firstFitting 3 = .ok (.aload_n 0, 1) := by decide +kernel
theorem dX1_firstFitting_4 : decode cX1_firstFitting 4 = .ok (.getfield 25, 3) := by decide +kernel
theorem dX1_firstFitting_7 : decode cX1_firstFitting 7 = .ok (.if_icmp .ge 21, 3) := by decide +kernel
theorem dX1_firstFitting_10 : decode cX1_firstFitting 10 = .ok (.aload_n 0, 1) := by decide +kernel
theorem dX1_firstFitting_11 : decode cX1_firstFitting 11 = .ok (.aload_n 1, 1) := by decide +kernel
theorem dX1_firstFitting_12 : decode cX1_firstFitting 12 = .ok (.iload_n 3, 1) := by decide +kernel
theorem dX1_firstFitting_13 : decode cX1_firstFitting 13 = .ok (.iload_n 2, 1) := by decide +kernel
theorem dX1_firstFitting_14 : decode cX1_firstFitting 14 = .ok (.invokevirtual 46, 3) := by decide +kernel
theorem dX1_firstFitting_17 : decode cX1_firstFitting 17 = .ok (.ifCond .eq 5, 3) := by decide +kernel
theorem dX1_firstFitting_20 : decode cX1_firstFitting 20 = .ok (.iload_n 3, 1) := by decide +kernel
theorem dX1_firstFitting_21 : decode cX1_firstFitting 21 = .ok (.ireturn, 1) := by decide +kernel
theorem dX1_firstFitting_22 : decode cX1_firstFitting 22 = .ok (.iinc 3 1, 3) := by decide +kernel
theorem dX1_firstFitting_25 : decode cX1_firstFitting 25 = .ok (.goto (-23), 3) := by decide +kernel
theorem dX1_firstFitting_28 : decode cX1_firstFitting 28 = .ok (.aload_n 0, 1) := by decide +kernel
theorem dX1_firstFitting_29 : decode cX1_firstFitting 29 = .ok (.getfield 25, 3) := by decide +kernel
theorem dX1_firstFitting_32 : decode cX1_firstFitting 32 = .ok (.ireturn, 1) := by decide +kernel
theorem dX1_fits_0 : decode cX1_fits 0 = .ok (.iconst 0, 1) := by decide +kernel
theorem dX1_fits_1 : decode cX1_fits 1 = .ok (.istore 4, 2) := by decide +kernel
theorem dX1_fits_3 : decode cX1_fits 3 = .ok (.iload 4, 2) := by decide +kernel
theorem dX1_fits_5 : decode cX1_fits 5 = .ok (.aload_n 1, 1) := by decide +kernel
theorem dX1_fits_6 : decode cX1_fits 6 = .ok (.getfield 29, 3) := by decide +kernel
theorem dX1_fits_9 : decode cX1_fits 9 = .ok (.if_icmp .ge 35, 3) := by decide +kernel
theorem dX1_fits_12 : decode cX1_fits 12 = .ok (.aload_n 0, 1) := by decide +kernel
theorem dX1_fits_13 : decode cX1_fits 13 = .ok (.getfield 9, 3) := by decide +kernel
theorem dX1_fits_16 : decode cX1_fits 16 = .ok (.iload_n 2, 1) := by decide +kernel
theorem dX1_fits_17 : decode cX1_fits 17 = .ok (.iaload, 1) := by decide +kernel
theorem dX1_fits_18 : decode cX1_fits 18 = .ok (.iload 4, 2) := by decide +kernel
theorem dX1_fits_20 : decode cX1_fits 20 = .ok (.invokestatic 49, 3) := by decide +kernel
theorem dX1_fits_23 : decode cX1_fits 23 = .ok (.ifCond .eq 15, 3) := by decide +kernel
theorem dX1_fits_26 : decode cX1_fits 26 = .ok (.aload_n 1, 1) := by decide +kernel
theorem dX1_fits_27 : decode cX1_fits 27 = .ok (.iload 4, 2) := by decide +kernel
theorem dX1_fits_29 : decode cX1_fits 29 = .ok (.iload_n 3, 1) := by decide +kernel
theorem dX1_fits_30 : decode cX1_fits 30 = .ok (.invokestatic 53, 3) := by decide +kernel
theorem dX1_fits_33 : decode cX1_fits 33 = .ok (.ifCond .ne 5, 3) := by decide +kernel
theorem dX1_fits_36 : decode cX1_fits 36 = .ok (.iconst 0, 1) := by decide +kernel
theorem dX1_fits_37 : decode cX1_fits 37 = .ok (.ireturn, 1) := by decide +kernel
theorem dX1_fits_38 : decode cX1_fits 38 = .ok (.iinc 4 1, 3) := by decide +kernel
theorem dX1_fits_41 : decode cX1_fits 41 = .ok (.goto (-38), 3) := by decide +kernel
theorem dX1_fits_44 : decode cX1_fits 44 = .ok (.iconst 1, 1) := by decide +kernel
theorem dX1_fits_45 : decode cX1_fits 45 = .ok (.ireturn, 1) := by decide +kernel
theorem dX1_goTogether_0 : decode cX1_goTogether 0 = .ok (.aload_n 0, 1) := by decide +kernel
theorem dX1_goTogether_1 : decode cX1_goTogether 1 = .ok (.getfield 43, 3) := by decide +kernel
theorem dX1_goTogether_4 : decode cX1_goTogether 4 = .ok (.iload_n 1, 1) := by decide +kernel
theorem dX1_goTogether_5 : decode cX1_goTogether 5 = .ok (.iaload, 1) := by decide +kernel
theorem dX1_goTogether_6 : decode cX1_goTogether 6 = .ok (.aload_n 0, 1) := by decide +kernel
theorem dX1_goTogether_7 : decode cX1_goTogether 7 = .ok (.getfield 43, 3) := by decide +kernel
theorem dX1_goTogether_10 : decode cX1_goTogether 10 = .ok (.iload_n 2, 1) := by decide +kernel
theorem dX1_goTogether_11 : decode cX1_goTogether 11 = .ok (.iaload, 1) := by decide +kernel
theorem dX1_goTogether_12 : decode cX1_goTogether 12 = .ok (.if_icmp .ne 5, 3) := by decide +kernel
theorem dX1_goTogether_15 : decode cX1_goTogether 15 = .ok (.iconst 0, 1) := by decide +kernel
theorem dX1_goTogether_16 : decode cX1_goTogether 16 = .ok (.ireturn, 1) := by decide +kernel
theorem dX1_goTogether_17 : decode cX1_goTogether 17 = .ok (.aload_n 0, 1) := by decide +kernel
theorem dX1_goTogether_18 : decode cX1_goTogether 18 = .ok (.getfield 40, 3) := by decide +kernel
theorem dX1_goTogether_21 : decode cX1_goTogether 21 = .ok (.iload_n 1, 1) := by decide +kernel
theorem dX1_goTogether_22 : decode cX1_goTogether 22 = .ok (.iaload, 1) := by decide +kernel
theorem dX1_goTogether_23 : decode cX1_goTogether 23 = .ok (.aload_n 0, 1) := by decide +kernel
theorem dX1_goTogether_24 : decode cX1_goTogether 24 = .ok (.getfield 40, 3) := by decide +kernel
theorem dX1_goTogether_27 : decode cX1_goTogether 27 = .ok (.iload_n 2, 1) := by decide +kernel
theorem dX1_goTogether_28 : decode cX1_goTogether 28 = .ok (.iaload, 1) := by decide +kernel
theorem dX1_goTogether_29 : decode cX1_goTogether 29 = .ok (.isub, 1) := by decide +kernel
theorem dX1_goTogether_30 : decode cX1_goTogether 30 = .ok (.istore_n 3, 1) := by decide +kernel
theorem dX1_goTogether_31 : decode cX1_goTogether 31 = .ok (.aload_n 0, 1) := by decide +kernel
theorem dX1_goTogether_32 : decode cX1_goTogether 32 = .ok (.getfield 56, 3) := by decide +kernel
theorem dX1_goTogether_35 : decode cX1_goTogether 35 = .ok (.iload_n 1, 1) := by decide +kernel
theorem dX1_goTogether_36 : decode cX1_goTogether 36 = .ok (.iaload, 1) := by decide +kernel
theorem dX1_goTogether_37 : decode cX1_goTogether 37 = .ok (.aload_n 0, 1) := by decide +kernel
theorem dX1_goTogether_38 : decode cX1_goTogether 38 = .ok (.getfield 56, 3) := by decide +kernel
theorem dX1_goTogether_41 : decode cX1_goTogether 41 = .ok (.iload_n 2, 1) := by decide +kernel
theorem dX1_goTogether_42 : decode cX1_goTogether 42 = .ok (.iaload, 1) := by decide +kernel
theorem dX1_goTogether_43 : decode cX1_goTogether 43 = .ok (.isub, 1) := by decide +kernel
theorem dX1_goTogether_44 : decode cX1_goTogether 44 = .ok (.istore 4, 2) := by decide +kernel
theorem dX1_goTogether_46 : decode cX1_goTogether 46 = .ok (.aload_n 0, 1) := by decide +kernel
theorem dX1_goTogether_47 : decode cX1_goTogether 47 = .ok (.getfield 59, 3) := by decide +kernel
theorem dX1_goTogether_50 : decode cX1_goTogether 50 = .ok (.iload_n 1, 1) := by decide +kernel
theorem dX1_goTogether_51 : decode cX1_goTogether 51 = .ok (.iaload, 1) := by decide +kernel
theorem dX1_goTogether_52 : decode cX1_goTogether 52 = .ok (.aload_n 0, 1) := by decide +kernel
theorem dX1_goTogether_53 : decode cX1_goTogether 53 = .ok (.getfield 59, 3) := by decide +kernel
theorem dX1_goTogether_56 : decode cX1_goTogether 56 = .ok (.iload_n 2, 1) := by decide +kernel
theorem dX1_goTogether_57 : decode cX1_goTogether 57 = .ok (.iaload, 1) := by decide +kernel
theorem dX1_goTogether_58 : decode cX1_goTogether 58 = .ok (.isub, 1) := by decide +kernel
theorem dX1_goTogether_59 : decode cX1_goTogether 59 = .ok (.istore 5, 2) := by decide +kernel
theorem dX1_goTogether_61 : decode cX1_goTogether 61 = .ok (.iload_n 3, 1) := by decide +kernel
theorem dX1_goTogether_62 : decode cX1_goTogether 62 = .ok (.iload_n 3, 1) := by decide +kernel
theorem dX1_goTogether_63 : decode cX1_goTogether 63 = .ok (.imul, 1) := by decide +kernel
theorem dX1_goTogether_64 : decode cX1_goTogether 64 = .ok (.iload 4, 2) := by decide +kernel
theorem dX1_goTogether_66 : decode cX1_goTogether 66 = .ok (.iload 4, 2) := by decide +kernel
theorem dX1_goTogether_68 : decode cX1_goTogether 68 = .ok (.imul, 1) := by decide +kernel
theorem dX1_goTogether_69 : decode cX1_goTogether 69 = .ok (.iload 5, 2) := by decide +kernel
theorem dX1_goTogether_71 : decode cX1_goTogether 71 = .ok (.iload 5, 2) := by decide +kernel
theorem dX1_goTogether_73 : decode cX1_goTogether 73 = .ok (.imul, 1) := by decide +kernel
theorem dX1_goTogether_74 : decode cX1_goTogether 74 = .ok (.iadd, 1) := by decide +kernel
theorem dX1_goTogether_75 : decode cX1_goTogether 75 = .ok (.if_icmp .gt 7, 3) := by decide +kernel
theorem dX1_goTogether_78 : decode cX1_goTogether 78 = .ok (.iconst 1, 1) := by decide +kernel
theorem dX1_goTogether_79 : decode cX1_goTogether 79 = .ok (.goto 4, 3) := by decide +kernel
theorem dX1_goTogether_82 : decode cX1_goTogether 82 = .ok (.iconst 0, 1) := by decide +kernel
theorem dX1_goTogether_83 : decode cX1_goTogether 83 = .ok (.ireturn, 1) := by decide +kernel
end
section
theorem dX2_init_0 : decode cX2_init 0 = .ok (.aload_n 0, 1) := by decide +kernel
theorem dX2_init_1 : decode cX2_init 1 = .ok (.invokespecial 3, 3) := by decide +kernel
theorem dX2_init_4 : decode cX2_init 4 = .ok (.aload_n 0, 1) := by decide +kernel
theorem dX2_init_5 : decode cX2_init 5 = .ok (.bipush 9, 2) := by decide +kernel
theorem dX2_init_7 : decode cX2_init 7 = .ok (.newarray .int, 2) := by decide +kernel
theorem dX2_init_9 : decode cX2_init 9 = .ok (.putfield 9, 3) := by decide +kernel
theorem dX2_init_12 : decode cX2_init 12 = .ok (.aload_n 0, 1) := by decide +kernel
theorem dX2_init_13 : decode cX2_init 13 = .ok (.bipush 9, 2) := by decide +kernel
theorem dX2_init_15 : decode cX2_init 15 = .ok (.newarray .int, 2) := by decide +kernel
theorem dX2_init_17 : decode cX2_init 17 = .ok (.putfield 15, 3) := by decide +kernel
theorem dX2_init_20 : decode cX2_init 20 = .ok (.aload_n 0, 1) := by decide +kernel
theorem dX2_init_21 : decode cX2_init 21 = .ok (.bipush 6, 2) := by decide +kernel
theorem dX2_init_23 : decode cX2_init 23 = .ok (.newarray .int, 2) := by decide +kernel
theorem dX2_init_25 : decode cX2_init 25 = .ok (.putfield 18, 3) := by decide +kernel
theorem dX2_init_28 : decode cX2_init 28 = .ok (.return_, 1) := by decide +kernel
theorem dX2_copy_0 : decode cX2_copy 0 = .ok (.aload_n 1, 1) := by decide +kernel
theorem dX2_copy_1 : decode cX2_copy 1 = .ok (.getfield 9, 3) := by decide +kernel
theorem dX2_copy_4 : decode cX2_copy 4 = .ok (.iconst 0, 1) := by decide +kernel
theorem dX2_copy_5 : decode cX2_copy 5 = .ok (.aload_n 0, 1) := by decide +kernel
theorem dX2_copy_6 : decode cX2_copy 6 = .ok (.getfield 9, 3) := by decide +kernel
theorem dX2_copy_9 : decode cX2_copy 9 = .ok (.iconst 0, 1) := by decide +kernel
theorem dX2_copy_10 : decode cX2_copy 10 = .ok (.bipush 9, 2) := by decide +kernel
theorem dX2_copy_12 : decode cX2_copy 12 = .ok (.invokestatic 21, 3) := by decide +kernel
theorem dX2_copy_15 : decode cX2_copy 15 = .ok (.aload_n 1, 1) := by decide +kernel
theorem dX2_copy_16 : decode cX2_copy 16 = .ok (.getfield 15, 3) := by decide +kernel
theorem dX2_copy_19 : decode cX2_copy 19 = .ok (.iconst 0, 1) := by decide +kernel
theorem dX2_copy_20 : decode cX2_copy 20 = .ok (.aload_n 0, 1) := by decide +kernel
theorem dX2_copy_21 : decode cX2_copy 21 = .ok (.getfield 15, 3) := by decide +kernel
theorem dX2_copy_24 : decode cX2_copy 24 = .ok (.iconst 0, 1) := by decide +kernel
theorem dX2_copy_25 : decode cX2_copy 25 = .ok (.bipush 9, 2) := by decide +kernel
theorem dX2_copy_27 : decode cX2_copy 27 = .ok (.invokestatic 21, 3) := by decide +kernel
theorem dX2_copy_30 : decode cX2_copy 30 = .ok (.aload_n 1, 1) := by decide +kernel
theorem dX2_copy_31 : decode cX2_copy 31 = .ok (.getfield 18, 3) := by decide +kernel
theorem dX2_copy_34 : decode cX2_copy 34 = .ok (.iconst 0, 1) := by decide +kernel
theorem dX2_copy_35 : decode cX2_copy 35 = .ok (.aload_n 0, 1) := by decide +kernel
theorem dX2_copy_36 : decode cX2_copy 36 = .ok (.getfield 18, 3) := by decide +kernel
theorem dX2_copy_39 : decode cX2_copy 39 = .ok (.iconst 0, 1) := by decide +kernel
theorem dX2_copy_40 : decode cX2_copy 40 = .ok (.bipush 6, 2) := by decide +kernel
theorem dX2_copy_42 : decode cX2_copy 42 = .ok (.invokestatic 21, 3) := by decide +kernel
theorem dX2_copy_45 : decode cX2_copy 45 = .ok (.aload_n 0, 1) := by decide +kernel
theorem dX2_copy_46 : decode cX2_copy 46 = .ok (.aload_n 1, 1) := by decide +kernel
theorem dX2_copy_47 : decode cX2_copy 47 = .ok (.getfield 27, 3) := by decide +kernel
theorem dX2_copy_50 : decode cX2_copy 50 = .ok (.putfield 27, 3) := by decide +kernel
theorem dX2_copy_53 : decode cX2_copy 53 = .ok (.return_, 1) := by decide +kernel
theorem dX2_append_0 : decode cX2_append 0 = .ok (.aload_n 0, 1) := by decide +kernel
theorem dX2_append_1 : decode cX2_append 1 = .ok (.getfield 27, 3) := by decide +kernel
theorem dX2_append_4 : decode cX2_append 4 = .ok (.bipush 9, 2) := by decide +kernel
theorem dX2_append_6 : decode cX2_append 6 = .ok (.if_icmp .ge 33, 3) := by decide +kernel
theorem dX2_append_9 : decode cX2_append 9 = .ok (.aload_n 0, 1) := by decide +kernel
theorem dX2_append_10 : decode cX2_append 10 = .ok (.getfield 9, 3) := by decide +kernel
theorem dX2_append_13 : decode cX2_append 13 = .ok (.aload_n 0, 1) := by decide +kernel
theorem dX2_append_14 : decode cX2_append 14 = .ok (.getfield 27, 3) := by decide +kernel
theorem dX2_append_17 : decode cX2_append 17 = .ok (.iload_n 1, 1) := by decide +kernel
theorem dX2_append_18 : decode cX2_append 18 = .ok (.iastore, 1) := by decide +kernel
theorem dX2_append_19 : decode cX2_append 19 = .ok (.aload_n 0, 1) := by decide +kernel
theorem dX2_append_20 : decode cX2_append 20 = .ok (.getfield 15, 3) := by decide +kernel
theorem dX2_append_23 : decode cX2_append 23 = .ok (.aload_n 0, 1) := by decide +kernel
theorem dX2_append_24 : decode cX2_append 24 = .ok (.getfield 27, 3) := by decide +kernel
theorem dX2_append_27 : decode cX2_append 27 = .ok (.iload_n 2, 1) := by decide +kernel
theorem dX2_append_28 : decode cX2_append 28 = .ok (.iastore, 1) := by decide +kernel
theorem dX2_append_29 : decode cX2_append 29 = .ok (.aload_n 0, 1) := by decide +kernel
theorem dX2_append_30 : decode cX2_append 30 = .ok (.dup, 1) := by decide +kernel
theorem dX2_append_31 : decode cX2_append 31 = .ok (.getfield 27, 3) := by decide +kernel
theorem dX2_append_34 : decode cX2_append 34 = .ok (.iconst 1, 1) := by decide +kernel
theorem dX2_append_35 : decode cX2_append 35 = .ok (.iadd, 1) := by decide +kernel
theorem dX2_append_36 : decode cX2_append 36 = .ok (.putfield 27, 3) := by decide +kernel
theorem dX2_append_39 : decode cX2_append 39 = .ok (.return_, 1) := by decide +kernel
theorem dX2_remove_0 : decode cX2_remove 0 = .ok (.iload_n 1, 1) := by decide +kernel
theorem dX2_remove_1 : decode cX2_remove 1 = .ok (.istore_n 2, 1) := by decide +kernel
theorem dX2_remove_2 : decode cX2_remove 2 = .ok (.iload_n 2, 1) := by decide +kernel
theorem dX2_remove_3 : decode cX2_remove 3 = .ok (.aload_n 0, 1) := by decide +kernel
theorem dX2_remove_4 : decode cX2_remove 4 = .ok (.getfield 27, 3) := by decide +kernel
theorem dX2_remove_7 : decode cX2_remove 7 = .ok (.iconst 1, 1) := by decide +kernel
theorem dX2_remove_8 : decode cX2_remove 8 = .ok (.isub, 1) := by decide +kernel
theorem dX2_remove_9 : decode cX2_remove 9 = .ok (.if_icmp .ge 37, 3) := by decide +kernel
theorem dX2_remove_12 : decode cX2_remove 12 = .ok (.aload_n 0, 1) := by decide +kernel
theorem dX2_remove_13 : decode cX2_remove 13 = .ok (.getfield 9, 3) := by decide +kernel
theorem dX2_remove_16 : decode cX2_remove 16 = .ok (.iload_n 2, 1) := by decide +kernel
theorem dX2_remove_17 : decode cX2_remove 17 = .ok (.aload_n 0, 1) := by decide +kernel
theorem dX2_remove_18 : decode cX2_remove 18 = .ok (.getfield 9, 3) := by decide +kernel
theorem dX2_remove_21 : decode cX2_remove 21 = .ok (.iload_n 2, 1) := by decide +kernel
theorem dX2_remove_22 : decode cX2_remove 22 = .ok (.iconst 1, 1) := by decide +kernel
theorem dX2_remove_23 : decode cX2_remove 23 = .ok (.iadd, 1) := by decide +kernel
theorem dX2_remove_24 : decode cX2_remove 24 = .ok (.iaload, 1) := by decide +kernel
theorem dX2_remove_25 : decode cX2_remove 25 = .ok (.iastore, 1) := by decide +kernel
theorem dX2_remove_26 : decode cX2_remove 26 = .ok (.aload_n 0, 1) := by decide +kernel
theorem dX2_remove_27 : decode cX2_remove 27 = .ok (.getfield 15, 3) := by decide +kernel
theorem dX2_remove_30 : decode cX2_remove 30 = .ok (.iload_n 2, 1) := by decide +kernel
theorem dX2_remove_31 : decode cX2_remove 31 = .ok (.aload_n 0, 1) := by decide +kernel
theorem dX2_remove_32 : decode cX2_remove 32 = .ok (.getfield 15, 3) := by decide +kernel
theorem dX2_remove_35 : decode cX2_remove 35 = .ok (.iload_n 2, 1) := by decide +kernel
theorem dX2_remove_36 : decode cX2_remove 36 = .ok (.iconst 1, 1) := by decide +kernel
theorem dX2_remove_37 : decode cX2_remove 37 = .ok (.iadd, 1) := by decide +kernel
theorem dX2_remove_38 : decode cX2_remove 38 = .ok (.iaload, 1) := by decide +kernel
theorem dX2_remove_39 : decode cX2_remove 39 = .ok (.iastore, 1) := by decide +kernel
theorem dX2_remove_40 : decode cX2_remove 40 = .ok (.iinc 2 1, 3) := by decide +kernel
theorem dX2_remove_43 : decode cX2_remove 43 = .ok (.goto (-41), 3) := by decide +kernel
theorem dX2_remove_46 : decode cX2_remove 46 = .ok (.aload_n 0, 1) := by decide +kernel
theorem dX2_remove_47 : decode cX2_remove 47 = .ok (.dup, 1) := by decide +kernel
theorem dX2_remove_48 : decode cX2_remove 48 = .ok (.getfield 27, 3) := by decide +kernel
theorem dX2_remove_51 : decode cX2_remove 51 = .ok (.iconst 1, 1) := by decide +kernel
theorem dX2_remove_52 : decode cX2_remove 52 = .ok (.isub, 1) := by decide +kernel
theorem dX2_remove_53 : decode cX2_remove 53 = .ok (.putfield 27, 3) := by decide +kernel
theorem dX2_remove_56 : decode cX2_remove 56 = .ok (.return_, 1) := by decide +kernel
end
section
theorem dX3_init_0 : decode cX3_init 0 = .ok (.aload_n 0, 1) := by decide +kernel
theorem dX3_init_1 : decode cX3_init 1 = .ok (.invokespecial 3, 3) := by decide +kernel
theorem dX3_init_4 : decode cX3_init 4 = .ok (.aload_n 0, 1) := by decide +kernel
theorem dX3_init_5 : decode cX3_init 5 = .ok (.new 9, 3) := by decide +kernel
theorem dX3_init_8 : decode cX3_init 8 = .ok (.dup, 1) := by decide +kernel
theorem dX3_init_9 : decode cX3_init 9 = .ok (.invokespecial 11, 3) := by decide +kernel
theorem dX3_init_12 : decode cX3_init 12 = .ok (.putfield 12, 3) := by decide +kernel
theorem dX3_init_15 : decode cX3_init 15 = .ok (.aload_n 0, 1) := by decide +kernel
theorem dX3_init_16 : decode cX3_init 16 = .ok (.new 18, 3) := by decide +kernel
theorem dX3_init_19 : decode cX3_init 19 = .ok (.dup, 1) := by decide +kernel
theorem dX3_init_20 : decode cX3_init 20 = .ok (.invokespecial 20, 3) := by decide +kernel
theorem dX3_init_23 : decode cX3_init 23 = .ok (.putfield 21, 3) := by decide +kernel
theorem dX3_init_26 : decode cX3_init 26 = .ok (.return_, 1) := by decide +kernel
theorem dX3_parse_0 : decode cX3_parse 0 = .ok (.aload_n 0, 1) := by decide +kernel
theorem dX3_parse_1 : decode cX3_parse 1 = .ok (.getfield 12, 3) := by decide +kernel
theorem dX3_parse_4 : decode cX3_parse 4 = .ok (.iconst 0, 1) := by decide +kernel
theorem dX3_parse_5 : decode cX3_parse 5 = .ok (.putfield 25, 3) := by decide +kernel
theorem dX3_parse_8 : decode cX3_parse 8 = .ok (.aload_n 0, 1) := by decide +kernel
theorem dX3_parse_9 : decode cX3_parse 9 = .ok (.getfield 21, 3) := by decide +kernel
theorem dX3_parse_12 : decode cX3_parse 12 = .ok (.iconst 0, 1) := by decide +kernel
theorem dX3_parse_13 : decode cX3_parse 13 = .ok (.putfield 29, 3) := by decide +kernel
theorem dX3_parse_16 : decode cX3_parse 16 = .ok (.aload_n 0, 1) := by decide +kernel
theorem dX3_parse_17 : decode cX3_parse 17 = .ok (.iconst 0, 1) := by decide +kernel
theorem dX3_parse_18 : decode cX3_parse 18 = .ok (.putfield 30, 3) := by decide +kernel
theorem dX3_parse_21 : decode cX3_parse 21 = .ok (.aload_n 0, 1) := by decide +kernel
theorem dX3_parse_22 : decode cX3_parse 22 = .ok (.iconst 0, 1) := by decide +kernel
theorem dX3_parse_23 : decode cX3_parse 23 = .ok (.putfield 33, 3) := by decide +kernel
theorem dX3_parse_26 : decode cX3_parse 26 = .ok (.iconst 0, 1) := by decide +kernel
theorem dX3_parse_27 : decode cX3_parse 27 = .ok (.istore_n 2, 1) := by decide +kernel
theorem dX3_parse_28 : decode cX3_parse 28 = .ok (.iload_n 2, 1) := by decide +kernel
theorem dX3_parse_29 : decode cX3_parse 29 = .ok (.bipush 110, 2) := by decide +kernel
theorem dX3_parse_31 : decode cX3_parse 31 = .ok (.if_icmp .gt 110, 3) := by decide +kernel
theorem dX3_parse_34 : decode cX3_parse 34 = .ok (.aload_n 0, 1) := by decide +kernel
theorem dX3_parse_35 : decode cX3_parse 35 = .ok (.aload_n 1, 1) := by decide +kernel
theorem dX3_parse_36 : decode cX3_parse 36 = .ok (.invokevirtual 36, 3) := by decide +kernel
theorem dX3_parse_39 : decode cX3_parse 39 = .ok (.aload_n 0, 1) := by decide +kernel
theorem dX3_parse_40 : decode cX3_parse 40 = .ok (.getfield 40, 3) := by decide +kernel
theorem dX3_parse_43 : decode cX3_parse 43 = .ok (.ifCond .ne 5, 3) := by decide +kernel
theorem dX3_parse_46 : decode cX3_parse 46 = .ok (.iconst (-1), 1) := by decide +kernel
theorem dX3_parse_47 : decode cX3_parse 47 = .ok (.ireturn, 1) := by decide +kernel
theorem dX3_parse_48 : decode cX3_parse 48 = .ok (.aload_n 0, 1) := by decide +kernel
theorem dX3_parse_49 : decode cX3_parse 49 = .ok (.getfield 40, 3) := by decide +kernel
theorem dX3_parse_52 : decode cX3_parse 52 = .ok (.iconst 1, 1) := by decide +kernel
theorem dX3_parse_53 : decode cX3_parse 53 = .ok (.if_icmp .ne 16, 3) := by decide +kernel
theorem dX3_parse_56 : decode cX3_parse 56 = .ok (.aload_n 0, 1) := by decide +kernel
theorem dX3_parse_57 : decode cX3_parse 57 = .ok (.getfield 43, 3) := by decide +kernel
theorem dX3_parse_60 : decode cX3_parse 60 = .ok (.bipush 115, 2) := by decide +kernel
theorem dX3_parse_62 : decode cX3_parse 62 = .ok (.if_icmp .ne 7, 3) := by decide +kernel
theorem dX3_parse_65 : decode cX3_parse 65 = .ok (.iconst 1, 1) := by decide +kernel
theorem dX3_parse_66 : decode cX3_parse 66 = .ok (.goto 4, 3) := by decide +kernel
theorem dX3_parse_69 : decode cX3_parse 69 = .ok (.iconst 0, 1) := by decide +kernel
theorem dX3_parse_70 : decode cX3_parse 70 = .ok (.istore_n 3, 1) := by decide +kernel
theorem dX3_parse_71 : decode cX3_parse 71 = .ok (.aload_n 0, 1) := by decide +kernel
theorem dX3_parse_72 : decode cX3_parse 72 = .ok (.getfield 40, 3) := by decide +kernel
theorem dX3_parse_75 : decode cX3_parse 75 = .ok (.iconst 1, 1) := by decide +kernel
theorem dX3_parse_76 : decode cX3_parse 76 = .ok (.if_icmp .ne 16, 3) := by decide +kernel
theorem dX3_parse_79 : decode cX3_parse 79 = .ok (.aload_n 0, 1) := by decide +kernel
theorem dX3_parse_80 : decode cX3_parse 80 = .ok (.getfield 43, 3) := by decide +kernel
theorem dX3_parse_83 : decode cX3_parse 83 = .ok (.bipush 104, 2) := by decide +kernel
theorem dX3_parse_85 : decode cX3_parse 85 = .ok (.if_icmp .ne 7, 3) := by decide +kernel
theorem dX3_parse_88 : decode cX3_parse 88 = .ok (.iconst 1, 1) := by decide +kernel
theorem dX3_parse_89 : decode cX3_parse 89 = .ok (.goto 4, 3) := by decide +kernel
theorem dX3_parse_92 : decode cX3_parse 92 = .ok (.iconst 0, 1) := by decide +kernel
theorem dX3_parse_93 : decode cX3_parse 93 = .ok (.istore 4, 2) := by decide +kernel
theorem dX3_parse_95 : decode cX3_parse 95 = .ok (.iload_n 3, 1) := by decide +kernel
theorem dX3_parse_96 : decode cX3_parse 96 = .ok (.ifCond .eq 11, 3) := by decide +kernel
theorem dX3_parse_99 : decode cX3_parse 99 = .ok (.aload_n 0, 1) := by decide +kernel
theorem dX3_parse_100 : decode cX3_parse 100 = .ok (.aload_n 1, 1) := by decide +kernel
theorem dX3_parse_101 : decode cX3_parse 101 = .ok (.invokevirtual 46, 3) := by decide +kernel
theorem dX3_parse_104 : decode cX3_parse 104 = .ok (.ifCond .ne 21, 3) := by decide +kernel
theorem dX3_parse_107 : decode cX3_parse 107 = .ok (.iload 4, 2) := by decide +kernel
theorem dX3_parse_109 : decode cX3_parse 109 = .ok (.ifCond .eq 11, 3) := by decide +kernel
theorem dX3_parse_112 : decode cX3_parse 112 = .ok (.aload_n 0, 1) := by decide +kernel
theorem dX3_parse_113 : decode cX3_parse 113 = .ok (.aload_n 1, 1) := by decide +kernel
theorem dX3_parse_114 : decode cX3_parse 114 = .ok (.invokevirtual 50, 3) := by decide +kernel
theorem dX3_parse_117 : decode cX3_parse 117 = .ok (.ifCond .ne 8, 3) := by decide +kernel
theorem dX3_parse_120 : decode cX3_parse 120 = .ok (.aload_n 0, 1) := by decide +kernel
theorem dX3_parse_121 : decode cX3_parse 121 = .ok (.getfield 53, 3) := by decide +kernel
theorem dX3_parse_124 : decode cX3_parse 124 = .ok (.ireturn, 1) := by decide +kernel
theorem dX3_parse_125 : decode cX3_parse 125 = .ok (.aload_n 0, 1) := by decide +kernel
theorem dX3_parse_126 : decode cX3_parse 126 = .ok (.dup, 1) := by decide +kernel
theorem dX3_parse_127 : decode cX3_parse 127 = .ok (.getfield 30, 3) := by decide +kernel
theorem dX3_parse_130 : decode cX3_parse 130 = .ok (.iconst 1, 1) := by decide +kernel
theorem dX3_parse_131 : decode cX3_parse 131 = .ok (.iadd, 1) := by decide +kernel
theorem dX3_parse_132 : decode cX3_parse 132 = .ok (.putfield 30, 3) := by decide +kernel
theorem dX3_parse_135 : decode cX3_parse 135 = .ok (.iinc 2 1, 3) := by decide +kernel
theorem dX3_parse_138 : decode cX3_parse 138 = .ok (.goto (-110), 3) := by decide +kernel
theorem dX3_parse_141 : decode cX3_parse 141 = .ok (.aload_n 0, 1) := by decide +kernel
theorem dX3_parse_142 : decode cX3_parse 142 = .ok (.getfield 53, 3) := by decide +kernel
theorem dX3_parse_145 : decode cX3_parse 145 = .ok (.ireturn, 1) := by decide +kernel
theorem dX3_takeStation_0 : decode cX3_takeStation 0 = .ok (.aload_n 0, 1) := by decide +kernel
theorem dX3_takeStation_1 : decode cX3_takeStation 1 = .ok (.getfield 12, 3) := by decide +kernel
theorem dX3_takeStation_4 : decode cX3_takeStation 4 = .ok (.getfield 25, 3) := by decide +kernel
theorem dX3_takeStation_7 : decode cX3_takeStation 7 = .ok (.bipush 6, 2) := by decide +kernel
theorem dX3_takeStation_9 : decode cX3_takeStation 9 = .ok (.if_icmp .ge 13, 3) := by decide +kernel
theorem dX3_takeStation_12 : decode cX3_takeStation 12 = .ok (.aload_n 0, 1) := by decide +kernel
theorem dX3_takeStation_13 : decode cX3_takeStation 13 = .ok (.aload_n 1, 1) := by decide +kernel
theorem dX3_takeStation_14 : decode cX3_takeStation 14 = .ok (.bipush 29, 2) := by decide +kernel
theorem dX3_takeStation_16 : decode cX3_takeStation 16 = .ok (.invokevirtual 56, 3) := by decide +kernel
theorem dX3_takeStation_19 : decode cX3_takeStation 19 = .ok (.ifCond .ne 5, 3) := by decide +kernel
theorem dX3_takeStation_22 : decode cX3_takeStation 22 = .ok (.iconst 0, 1) := by decide +kernel
theorem dX3_takeStation_23 : decode cX3_takeStation 23 = .ok (.ireturn, 1) := by decide +kernel
theorem dX3_takeStation_24 : decode cX3_takeStation 24 = .ok (.aload_n 0, 1) := by decide +kernel
theorem dX3_takeStation_25 : decode cX3_takeStation 25 = .ok (.getfield 43, 3) := by decide +kernel
theorem dX3_takeStation_28 : decode cX3_takeStation 28 = .ok (.istore_n 2, 1) := by decide +kernel
theorem dX3_takeStation_29 : decode cX3_takeStation 29 = .ok (.aload_n 0, 1) := by decide +kernel
theorem dX3_takeStation_30 : decode cX3_takeStation 30 = .ok (.aload_n 1, 1) := by decide +kernel
theorem dX3_takeStation_31 : decode cX3_takeStation 31 = .ok (.bipush 29, 2) := by decide +kernel
theorem dX3_takeStation_33 : decode cX3_takeStation 33 = .ok (.invokevirtual 56, 3) := by decide +kernel
theorem dX3_takeStation_36 : decode cX3_takeStation 36 = .ok (.ifCond .ne 5, 3) := by decide +kernel
theorem dX3_takeStation_39 : decode cX3_takeStation 39 = .ok (.iconst 0, 1) := by decide +kernel
theorem dX3_takeStation_40 : decode cX3_takeStation 40 = .ok (.ireturn, 1) := by decide +kernel
theorem dX3_takeStation_41 : decode cX3_takeStation 41 = .ok (.aload_n 0, 1) := by decide +kernel
theorem dX3_takeStation_42 : decode cX3_takeStation 42 = .ok (.getfield 43, 3) := by decide +kernel
theorem dX3_takeStation_45 : decode cX3_takeStation 45 = .ok (.istore_n 3, 1) := by decide +kernel
theorem dX3_takeStation_46 : decode cX3_takeStation 46 = .ok (.aload_n 0, 1) := by decide +kernel
theorem dX3_takeStation_47 : decode cX3_takeStation 47 = .ok (.aload_n 1, 1) := by decide +kernel
theorem dX3_takeStation_48 : decode cX3_takeStation 48 = .ok (.invokevirtual 36, 3) := by decide +kernel
theorem dX3_takeStation_51 : decode cX3_takeStation 51 = .ok (.aload_n 0, 1) := by decide +kernel
theorem dX3_takeStation_52 : decode cX3_takeStation 52 = .ok (.getfield 40, 3) := by decide +kernel
theorem dX3_takeStation_55 : decode cX3_takeStation 55 = .ok (.iconst 1, 1) := by decide +kernel
theorem dX3_takeStation_56 : decode cX3_takeStation 56 = .ok (.if_icmp .ne 13, 3) := by decide +kernel
theorem dX3_takeStation_59 : decode cX3_takeStation 59 = .ok (.aload_n 0, 1) := by decide +kernel
theorem dX3_takeStation_60 : decode cX3_takeStation 60 = .ok (.getfield 43, 3) := by decide +kernel
theorem dX3_takeStation_63 : decode cX3_takeStation 63 = .ok (.invokestatic 60, 3) := by decide +kernel
theorem dX3_takeStation_66 : decode cX3_takeStation 66 = .ok (.goto 4, 3) := by decide +kernel
theorem dX3_takeStation_69 : decode cX3_takeStation 69 = .ok (.iconst (-1), 1) := by decide +kernel
theorem dX3_takeStation_70 : decode cX3_takeStation 70 = .ok (.istore 4, 2) := by decide +kernel
theorem dX3_takeStation_72 : decode cX3_takeStation 72 = .ok (.iload 4, 2) := by decide +kernel
theorem dX3_takeStation_74 : decode cX3_takeStation 74 = .ok (.ifCond .lt 11, 3) := by decide +kernel
theorem dX3_takeStation_77 : decode cX3_takeStation 77 = .ok (.aload_n 0, 1) := by decide +kernel
theorem dX3_takeStation_78 : decode cX3_takeStation 78 = .ok (.aload_n 1, 1) := by decide +kernel
theorem dX3_takeStation_79 : decode cX3_takeStation 79 = .ok (.invokevirtual 64, 3) := by decide +kernel
theorem dX3_takeStation_82 : decode cX3_takeStation 82 = .ok (.ifCond .ne 5, 3) := by decide +kernel
theorem dX3_takeStation_85 : decode cX3_takeStation 85 = .ok (.iconst 0, 1) := by decide +kernel
theorem dX3_takeStation_86 : decode cX3_takeStation 86 = .ok (.ireturn, 1) := by decide +kernel
theorem dX3_takeStation_87 : decode cX3_takeStation 87 = .ok (.aload_n 0, 1) := by decide +kernel
theorem dX3_takeStation_88 : decode cX3_takeStation 88 = .ok (.getfield 21, 3) := by decide +kernel
theorem dX3_takeStation_91 : decode cX3_takeStation 91 = .ok (.getfield 67, 3) := by decide +kernel
theorem dX3_takeStation_94 : decode cX3_takeStation 94 = .ok (.aload_n 0, 1) := by decide +kernel
theorem dX3_takeStation_95 : decode cX3_takeStation 95 = .ok (.getfield 12, 3) := by decide +kernel
theorem dX3_takeStation_98 : decode cX3_takeStation 98 = .ok (.getfield 25, 3) := by decide +kernel
theorem dX3_takeStation_101 : decode cX3_takeStation 101 = .ok (.iload 4, 2) := by decide +kernel
theorem dX3_takeStation_103 : decode cX3_takeStation 103 = .ok (.iastore, 1) := by decide +kernel
theorem dX3_takeStation_104 : decode cX3_takeStation 104 = .ok (.aload_n 0, 1) := by decide +kernel
theorem dX3_takeStation_105 : decode cX3_takeStation 105 = .ok (.getfield 12, 3) := by decide +kernel
theorem dX3_takeStation_108 : decode cX3_takeStation 108 = .ok (.iload_n 2, 1) := by decide +kernel
theorem dX3_takeStation_109 : decode cX3_takeStation 109 = .ok (.iload_n 3, 1) := by decide +kernel
theorem dX3_takeStation_110 : decode cX3_takeStation 110 = .ok (.invokevirtual 71, 3) := by decide +kernel
theorem dX3_takeStation_113 : decode cX3_takeStation 113 = .ok (.iconst 1, 1) := by decide +kernel
theorem dX3_takeStation_114 : decode cX3_takeStation 114 = .ok (.ireturn, 1) := by decide +kernel
theorem dX3_takeReading_0 : decode cX3_takeReading 0 = .ok (.aload_n 0, 1) := by decide +kernel
theorem dX3_takeReading_1 : decode cX3_takeReading 1 = .ok (.getfield 21, 3) := by decide +kernel
theorem dX3_takeReading_4 : decode cX3_takeReading 4 = .ok (.getfield 29, 3) := by decide +kernel
theorem dX3_takeReading_7 : decode cX3_takeReading 7 = .ok (.bipush 9, 2) := by decide +kernel
theorem dX3_takeReading_9 : decode cX3_takeReading 9 = .ok (.if_icmp .ge 20, 3) := by decide +kernel
theorem dX3_takeReading_12 : decode cX3_takeReading 12 = .ok (.aload_n 0, 1) := by decide +kernel
theorem dX3_takeReading_13 : decode cX3_takeReading 13 = .ok (.aload_n 1, 1) := by decide +kernel
theorem dX3_takeReading_14 : decode cX3_takeReading 14 = .ok (.aload_n 0, 1) := by decide +kernel
theorem dX3_takeReading_15 : decode cX3_takeReading 15 = .ok (.getfield 12, 3) := by decide +kernel
theorem dX3_takeReading_18 : decode cX3_takeReading 18 = .ok (.getfield 25, 3) := by decide +kernel
theorem dX3_takeReading_21 : decode cX3_takeReading 21 = .ok (.iconst 1, 1) := by decide +kernel
theorem dX3_takeReading_22 : decode cX3_takeReading 22 = .ok (.isub, 1) := by decide +kernel
theorem dX3_takeReading_23 : decode cX3_takeReading 23 = .ok (.invokevirtual 56, 3) := by decide +kernel
theorem dX3_takeReading_26 : decode cX3_takeReading 26 = .ok (.ifCond .ne 5, 3) := by decide +kernel
theorem dX3_takeReading_29 : decode cX3_takeReading 29 = .ok (.iconst 0, 1) := by decide +kernel
theorem dX3_takeReading_30 : decode cX3_takeReading 30 = .ok (.ireturn, 1) := by decide +kernel
theorem dX3_takeReading_31 : decode cX3_takeReading 31 = .ok (.aload_n 0, 1) := by decide +kernel
theorem dX3_takeReading_32 : decode cX3_takeReading 32 = .ok (.getfield 43, 3) := by decide +kernel
theorem dX3_takeReading_35 : decode cX3_takeReading 35 = .ok (.istore_n 2, 1) := by decide +kernel
theorem dX3_takeReading_36 : decode cX3_takeReading 36 = .ok (.aload_n 0, 1) := by decide +kernel
theorem dX3_takeReading_37 : decode cX3_takeReading 37 = .ok (.aload_n 1, 1) := by decide +kernel
theorem dX3_takeReading_38 : decode cX3_takeReading 38 = .ok (.bipush 60, 2) := by decide +kernel
theorem dX3_takeReading_40 : decode cX3_takeReading 40 = .ok (.invokevirtual 56, 3) := by decide +kernel
theorem dX3_takeReading_43 : decode cX3_takeReading 43 = .ok (.ifCond .ne 5, 3) := by decide +kernel
theorem dX3_takeReading_46 : decode cX3_takeReading 46 = .ok (.iconst 0, 1) := by decide +kernel
theorem dX3_takeReading_47 : decode cX3_takeReading 47 = .ok (.ireturn, 1) := by decide +kernel
theorem dX3_takeReading_48 : decode cX3_takeReading 48 = .ok (.aload_n 0, 1) := by decide +kernel
theorem dX3_takeReading_49 : decode cX3_takeReading 49 = .ok (.getfield 43, 3) := by decide +kernel
theorem dX3_takeReading_52 : decode cX3_takeReading 52 = .ok (.istore_n 3, 1) := by decide +kernel
theorem dX3_takeReading_53 : decode cX3_takeReading 53 = .ok (.aload_n 0, 1) := by decide +kernel
theorem dX3_takeReading_54 : decode cX3_takeReading 54 = .ok (.aload_n 1, 1) := by decide +kernel
theorem dX3_takeReading_55 : decode cX3_takeReading 55 = .ok (.invokevirtual 64, 3) := by decide +kernel
theorem dX3_takeReading_58 : decode cX3_takeReading 58 = .ok (.ifCond .ne 5, 3) := by decide +kernel
theorem dX3_takeReading_61 : decode cX3_takeReading 61 = .ok (.iconst 0, 1) := by decide +kernel
theorem dX3_takeReading_62 : decode cX3_takeReading 62 = .ok (.ireturn, 1) := by decide +kernel
theorem dX3_takeReading_63 : decode cX3_takeReading 63 = .ok (.aload_n 0, 1) := by decide +kernel
theorem dX3_takeReading_64 : decode cX3_takeReading 64 = .ok (.getfield 21, 3) := by decide +kernel
theorem dX3_takeReading_67 : decode cX3_takeReading 67 = .ok (.iload_n 2, 1) := by decide +kernel
theorem dX3_takeReading_68 : decode cX3_takeReading 68 = .ok (.iload_n 3, 1) := by decide +kernel
theorem dX3_takeReading_69 : decode cX3_takeReading 69 = .ok (.invokevirtual 75, 3) := by decide +kernel
theorem dX3_takeReading_72 : decode cX3_takeReading 72 = .ok (.iconst 1, 1) := by decide +kernel
theorem dX3_takeReading_73 : decode cX3_takeReading 73 = .ok (.ireturn, 1) := by decide +kernel
theorem dX3_takeNumber_0 : decode cX3_takeNumber 0 = .ok (.aload_n 0, 1) := by decide +kernel
theorem dX3_takeNumber_1 : decode cX3_takeNumber 1 = .ok (.aload_n 1, 1) := by decide +kernel
theorem dX3_takeNumber_2 : decode cX3_takeNumber 2 = .ok (.invokevirtual 36, 3) := by decide +kernel
theorem dX3_takeNumber_5 : decode cX3_takeNumber 5 = .ok (.aload_n 0, 1) := by decide +kernel
theorem dX3_takeNumber_6 : decode cX3_takeNumber 6 = .ok (.getfield 40, 3) := by decide +kernel
theorem dX3_takeNumber_9 : decode cX3_takeNumber 9 = .ok (.iconst 2, 1) := by decide +kernel
theorem dX3_takeNumber_10 : decode cX3_takeNumber 10 = .ok (.if_icmp .ne 15, 3) := by decide +kernel
theorem dX3_takeNumber_13 : decode cX3_takeNumber 13 = .ok (.aload_n 0, 1) := by decide +kernel
theorem dX3_takeNumber_14 : decode cX3_takeNumber 14 = .ok (.getfield 43, 3) := by decide +kernel
theorem dX3_takeNumber_17 : decode cX3_takeNumber 17 = .ok (.iload_n 2, 1) := by decide +kernel
theorem dX3_takeNumber_18 : decode cX3_takeNumber 18 = .ok (.if_icmp .gt 7, 3) := by decide +kernel
theorem dX3_takeNumber_21 : decode cX3_takeNumber 21 = .ok (.iconst 1, 1) := by decide +kernel
theorem dX3_takeNumber_22 : decode cX3_takeNumber 22 = .ok (.goto 4, 3) := by decide +kernel
theorem dX3_takeNumber_25 : decode cX3_takeNumber 25 = .ok (.iconst 0, 1) := by decide +kernel
theorem dX3_takeNumber_26 : decode cX3_takeNumber 26 = .ok (.ireturn, 1) := by decide +kernel
theorem dX3_takeSemicolon_0 : decode cX3_takeSemicolon 0 = .ok (.aload_n 0, 1) := by decide +kernel
theorem dX3_takeSemicolon_1 : decode cX3_takeSemicolon 1 = .ok (.aload_n 1, 1) := by decide +kernel
theorem dX3_takeSemicolon_2 : decode cX3_takeSemicolon 2 = .ok (.invokevirtual 36, 3) := by decide +kernel
theorem dX3_takeSemicolon_5 : decode cX3_takeSemicolon 5 = .ok (.aload_n 0, 1) := by decide +kernel
theorem dX3_takeSemicolon_6 : decode cX3_takeSemicolon 6 = .ok (.getfield 40, 3) := by decide +kernel
theorem dX3_takeSemicolon_9 : decode cX3_takeSemicolon 9 = .ok (.iconst 3, 1) := by decide +kernel
theorem dX3_takeSemicolon_10 : decode cX3_takeSemicolon 10 = .ok (.if_icmp .ne 7, 3) := by decide +kernel
theorem dX3_takeSemicolon_13 : decode cX3_takeSemicolon 13 = .ok (.iconst 1, 1) := by decide +kernel
theorem dX3_takeSemicolon_14 : decode cX3_takeSemicolon 14 = .ok (.goto 4, 3) := by decide +kernel
theorem dX3_takeSemicolon_17 : decode cX3_takeSemicolon 17 = .ok (.iconst 0, 1) := by decide +kernel
theorem dX3_takeSemicolon_18 : decode cX3_takeSemicolon 18 = .ok (.ireturn, 1) := by decide +kernel
theorem dX3_clockOf_0 : decode cX3_clockOf 0 = .ok (.iload_n 0, 1) := by decide +kernel
theorem dX3_clockOf_1 : decode cX3_clockOf 1 = .ok (.tableswitch 85 98 112 #[83, 85, 81, 79, 85, 85, 85, 85, 85, 85, 77, 85, 85, 85, 75], 75) := by decide +kernel
theorem dX3_clockOf_76 : decode cX3_clockOf 76 = .ok (.iconst 0, 1) := by decide +kernel
theorem dX3_clockOf_77 : decode cX3_clockOf 77 = .ok (.ireturn, 1) := by decide +kernel
theorem dX3_clockOf_78 : decode cX3_clockOf 78 = .ok (.iconst 1, 1) := by decide +kernel
theorem dX3_clockOf_79 : decode cX3_clockOf 79 = .ok (.ireturn, 1) := by decide +kernel
theorem dX3_clockOf_80 : decode cX3_clockOf 80 = .ok (.iconst 2, 1) := by decide +kernel
theorem dX3_clockOf_81 : decode cX3_clockOf 81 = .ok (.ireturn, 1) := by decide +kernel
theorem dX3_clockOf_82 : decode cX3_clockOf 82 = .ok (.iconst 3, 1) := by decide +kernel
theorem dX3_clockOf_83 : decode cX3_clockOf 83 = .ok (.ireturn, 1) := by decide +kernel
theorem dX3_clockOf_84 : decode cX3_clockOf 84 = .ok (.iconst 4, 1) := by decide +kernel
theorem dX3_clockOf_85 : decode cX3_clockOf 85 = .ok (.ireturn, 1) := by decide +kernel
theorem dX3_clockOf_86 : decode cX3_clockOf 86 = .ok (.iconst (-1), 1) := by decide +kernel
theorem dX3_clockOf_87 : decode cX3_clockOf 87 = .ok (.ireturn, 1) := by decide +kernel
theorem dX3_advance_0 : decode cX3_advance 0 = .ok (.aload_n 0, 1) := by decide +kernel
theorem dX3_advance_1 : decode cX3_advance 1 = .ok (.getfield 33, 3) := by decide +kernel
theorem dX3_advance_4 : decode cX3_advance 4 = .ok (.aload_n 1, 1) := by decide +kernel
theorem dX3_advance_5 : decode cX3_advance 5 = .ok (.getfield 76, 3) := by decide +kernel
theorem dX3_advance_8 : decode cX3_advance 8 = .ok (.if_icmp .ge 30, 3) := by decide +kernel
theorem dX3_advance_11 : decode cX3_advance 11 = .ok (.aload_n 1, 1) := by decide +kernel
theorem dX3_advance_12 : decode cX3_advance 12 = .ok (.getfield 79, 3) := by decide +kernel
theorem dX3_advance_15 : decode cX3_advance 15 = .ok (.aload_n 0, 1) := by decide +kernel
theorem dX3_advance_16 : decode cX3_advance 16 = .ok (.getfield 33, 3) := by decide +kernel
theorem dX3_advance_19 : decode cX3_advance 19 = .ok (.iaload, 1) := by decide +kernel
theorem dX3_advance_20 : decode cX3_advance 20 = .ok (.bipush 32, 2) := by decide +kernel
theorem dX3_advance_22 : decode cX3_advance 22 = .ok (.if_icmp .ne 16, 3) := by decide +kernel
theorem dX3_advance_25 : decode cX3_advance 25 = .ok (.aload_n 0, 1) := by decide +kernel
theorem dX3_advance_26 : decode cX3_advance 26 = .ok (.dup, 1) := by decide +kernel
theorem dX3_advance_27 : decode cX3_advance 27 = .ok (.getfield 33, 3) := by decide +kernel
theorem dX3_advance_30 : decode cX3_advance 30 = .ok (.iconst 1, 1) := by decide +kernel
theorem dX3_advance_31 : decode cX3_advance 31 = .ok (.iadd, 1) := by decide +kernel
theorem dX3_advance_32 : decode cX3_advance 32 = .ok (.putfield 33, 3) := by decide +kernel
theorem dX3_advance_35 : decode cX3_advance 35 = .ok (.goto (-35), 3) := by decide +kernel
theorem dX3_advance_38 : decode cX3_advance 38 = .ok (.aload_n 0, 1) := by decide +kernel
theorem dX3_advance_39 : decode cX3_advance 39 = .ok (.aload_n 0, 1) := by decide +kernel
theorem dX3_advance_40 : decode cX3_advance 40 = .ok (.getfield 33, 3) := by decide +kernel
theorem dX3_advance_43 : decode cX3_advance 43 = .ok (.putfield 53, 3) := by decide +kernel
theorem dX3_advance_46 : decode cX3_advance 46 = .ok (.aload_n 0, 1) := by decide +kernel
theorem dX3_advance_47 : decode cX3_advance 47 = .ok (.getfield 33, 3) := by decide +kernel
theorem dX3_advance_50 : decode cX3_advance 50 = .ok (.aload_n 1, 1) := by decide +kernel
theorem dX3_advance_51 : decode cX3_advance 51 = .ok (.getfield 76, 3) := by decide +kernel
theorem dX3_advance_54 : decode cX3_advance 54 = .ok (.if_icmp .lt 9, 3) := by decide +kernel
theorem dX3_advance_57 : decode cX3_advance 57 = .ok (.aload_n 0, 1) := by decide +kernel
theorem dX3_advance_58 : decode cX3_advance 58 = .ok (.iconst 0, 1) := by decide +kernel
theorem dX3_advance_59 : decode cX3_advance 59 = .ok (.putfield 40, 3) := by decide +kernel
theorem dX3_advance_62 : decode cX3_advance 62 = .ok (.return_, 1) := by decide +kernel
theorem dX3_advance_63 : decode cX3_advance 63 = .ok (.aload_n 0, 1) := by decide +kernel
theorem dX3_advance_64 : decode cX3_advance 64 = .ok (.aload_n 1, 1) := by decide +kernel
theorem dX3_advance_65 : decode cX3_advance 65 = .ok (.getfield 79, 3) := by decide +kernel
theorem dX3_advance_68 : decode cX3_advance 68 = .ok (.aload_n 0, 1) := by decide +kernel
theorem dX3_advance_69 : decode cX3_advance 69 = .ok (.getfield 33, 3) := by decide +kernel
theorem dX3_advance_72 : decode cX3_advance 72 = .ok (.iaload, 1) := by decide +kernel
theorem dX3_advance_73 : decode cX3_advance 73 = .ok (.putfield 43, 3) := by decide +kernel
theorem dX3_advance_76 : decode cX3_advance 76 = .ok (.aload_n 0, 1) := by decide +kernel
theorem dX3_advance_77 : decode cX3_advance 77 = .ok (.getfield 43, 3) := by decide +kernel
theorem dX3_advance_80 : decode cX3_advance 80 = .ok (.invokestatic 82, 3) := by decide +kernel
theorem dX3_advance_83 : decode cX3_advance 83 = .ok (.ifCond .eq 9, 3) := by decide +kernel
theorem dX3_advance_86 : decode cX3_advance 86 = .ok (.aload_n 0, 1) := by decide +kernel
theorem dX3_advance_87 : decode cX3_advance 87 = .ok (.aload_n 1, 1) := by decide +kernel
theorem dX3_advance_88 : decode cX3_advance 88 = .ok (.invokevirtual 86, 3) := by decide +kernel
theorem dX3_advance_91 : decode cX3_advance 91 = .ok (.return_, 1) := by decide +kernel
theorem dX3_advance_92 : decode cX3_advance 92 = .ok (.aload_n 0, 1) := by decide +kernel
theorem dX3_advance_93 : decode cX3_advance 93 = .ok (.dup, 1) := by decide +kernel
theorem dX3_advance_94 : decode cX3_advance 94 = .ok (.getfield 33, 3) := by decide +kernel
theorem dX3_advance_97 : decode cX3_advance 97 = .ok (.iconst 1, 1) := by decide +kernel
theorem dX3_advance_98 : decode cX3_advance 98 = .ok (.iadd, 1) := by decide +kernel
theorem dX3_advance_99 : decode cX3_advance 99 = .ok (.putfield 33, 3) := by decide +kernel
theorem dX3_advance_102 : decode cX3_advance 102 = .ok (.aload_n 0, 1) := by decide +kernel
theorem dX3_advance_103 : decode cX3_advance 103 = .ok (.getfield 43, 3) := by decide +kernel
theorem dX3_advance_106 : decode cX3_advance 106 = .ok (.bipush 97, 2) := by decide +kernel
theorem dX3_advance_108 : decode cX3_advance 108 = .ok (.if_icmp .lt 20, 3) := by decide +kernel
theorem dX3_advance_111 : decode cX3_advance 111 = .ok (.aload_n 0, 1) := by decide +kernel
theorem dX3_advance_112 : decode cX3_advance 112 = .ok (.getfield 43, 3) := by decide +kernel
theorem dX3_advance_115 : decode cX3_advance 115 = .ok (.bipush 122, 2) := by decide +kernel
theorem dX3_advance_117 : decode cX3_advance 117 = .ok (.if_icmp .gt 11, 3) := by decide +kernel
theorem dX3_advance_120 : decode cX3_advance 120 = .ok (.aload_n 0, 1) := by decide +kernel
theorem dX3_advance_121 : decode cX3_advance 121 = .ok (.iconst 1, 1) := by decide +kernel
theorem dX3_advance_122 : decode cX3_advance 122 = .ok (.putfield 40, 3) := by decide +kernel
theorem dX3_advance_125 : decode cX3_advance 125 = .ok (.goto 21, 3) := by decide +kernel
theorem dX3_advance_128 : decode cX3_advance 128 = .ok (.aload_n 0, 1) := by decide +kernel
theorem dX3_advance_129 : decode cX3_advance 129 = .ok (.aload_n 0, 1) := by decide +kernel
theorem dX3_advance_130 : decode cX3_advance 130 = .ok (.getfield 43, 3) := by decide +kernel
theorem dX3_advance_133 : decode cX3_advance 133 = .ok (.bipush 59, 2) := by decide +kernel
theorem dX3_advance_135 : decode cX3_advance 135 = .ok (.if_icmp .ne 7, 3) := by decide +kernel
theorem dX3_advance_138 : decode cX3_advance 138 = .ok (.iconst 3, 1) := by decide +kernel
theorem dX3_advance_139 : decode cX3_advance 139 = .ok (.goto 4, 3) := by decide +kernel
theorem dX3_advance_142 : decode cX3_advance 142 = .ok (.iconst 4, 1) := by decide +kernel
theorem dX3_advance_143 : decode cX3_advance 143 = .ok (.putfield 40, 3) := by decide +kernel
theorem dX3_advance_146 : decode cX3_advance 146 = .ok (.return_, 1) := by decide +kernel
theorem dX3_advanceOverNumber_0 : decode cX3_advanceOverNumber 0 = .ok (.aload_n 1, 1) := by decide +kernel
theorem dX3_advanceOverNumber_1 : decode cX3_advanceOverNumber 1 = .ok (.getfield 79, 3) := by decide +kernel
theorem dX3_advanceOverNumber_4 : decode cX3_advanceOverNumber 4 = .ok (.aload_n 0, 1) := by decide +kernel
theorem dX3_advanceOverNumber_5 : decode cX3_advanceOverNumber 5 = .ok (.getfield 53, 3) := by decide +kernel
theorem dX3_advanceOverNumber_8 : decode cX3_advanceOverNumber 8 = .ok (.iaload, 1) := by decide +kernel
theorem dX3_advanceOverNumber_9 : decode cX3_advanceOverNumber 9 = .ok (.bipush 48, 2) := by decide +kernel
theorem dX3_advanceOverNumber_11 : decode cX3_advanceOverNumber 11 = .ok (.if_icmp .ne 7, 3) := by decide +kernel
theorem dX3_advanceOverNumber_14 : decode cX3_advanceOverNumber 14 = .ok (.iconst 1, 1) := by decide +kernel
theorem dX3_advanceOverNumber_15 : decode cX3_advanceOverNumber 15 = .ok (.goto 4, 3) := by decide +kernel
theorem dX3_advanceOverNumber_18 : decode cX3_advanceOverNumber 18 = .ok (.iconst 0, 1) := by decide +kernel
theorem dX3_advanceOverNumber_19 : decode cX3_advanceOverNumber 19 = .ok (.istore_n 2, 1) := by decide +kernel
theorem dX3_advanceOverNumber_20 : decode cX3_advanceOverNumber 20 = .ok (.aload_n 0, 1) := by decide +kernel
theorem dX3_advanceOverNumber_21 : decode cX3_advanceOverNumber 21 = .ok (.iconst 0, 1) := by decide +kernel
theorem dX3_advanceOverNumber_22 : decode cX3_advanceOverNumber 22 = .ok (.putfield 43, 3) := by decide +kernel
theorem dX3_advanceOverNumber_25 : decode cX3_advanceOverNumber 25 = .ok (.aload_n 0, 1) := by decide +kernel
theorem dX3_advanceOverNumber_26 : decode cX3_advanceOverNumber 26 = .ok (.getfield 33, 3) := by decide +kernel
theorem dX3_advanceOverNumber_29 : decode cX3_advanceOverNumber 29 = .ok (.aload_n 1, 1) := by decide +kernel
theorem dX3_advanceOverNumber_30 : decode cX3_advanceOverNumber 30 = .ok (.getfield 76, 3) := by decide +kernel
theorem dX3_advanceOverNumber_33 : decode cX3_advanceOverNumber 33 = .ok (.if_icmp .ge 60, 3) := by decide +kernel
theorem dX3_advanceOverNumber_36 : decode cX3_advanceOverNumber 36 = .ok (.aload_n 1, 1) := by decide +kernel
theorem dX3_advanceOverNumber_37 : decode cX3_advanceOverNumber 37 = .ok (.getfield 79, 3) := by decide +kernel
theorem dX3_advanceOverNumber_40 : decode cX3_advanceOverNumber 40 = .ok (.aload_n 0, 1) := by decide +kernel
theorem dX3_advanceOverNumber_41 : decode cX3_advanceOverNumber 41 = .ok (.getfield 33, 3) := by decide +kernel
theorem dX3_advanceOverNumber_44 : decode cX3_advanceOverNumber 44 = .ok (.iaload, 1) := by decide +kernel
theorem dX3_advanceOverNumber_45 : decode cX3_advanceOverNumber 45 = .ok (.invokestatic 82, 3) := by decide +kernel
theorem dX3_advanceOverNumber_48 : decode cX3_advanceOverNumber 48 = .ok (.ifCond .eq 45, 3) := by decide +kernel
theorem dX3_advanceOverNumber_51 : decode cX3_advanceOverNumber 51 = .ok (.aload_n 0, 1) := by decide +kernel
theorem dX3_advanceOverNumber_52 : decode cX3_advanceOverNumber 52 = .ok (.bipush 100, 2) := by decide +kernel
theorem dX3_advanceOverNumber_54 : decode cX3_advanceOverNumber 54 = .ok (.bipush 10, 2) := by decide +kernel
theorem dX3_advanceOverNumber_56 : decode cX3_advanceOverNumber 56 = .ok (.aload_n 0, 1) := by decide +kernel
theorem dX3_advanceOverNumber_57 : decode cX3_advanceOverNumber 57 = .ok (.getfield 43, 3) := by decide +kernel
theorem dX3_advanceOverNumber_60 : decode cX3_advanceOverNumber 60 = .ok (.imul, 1) := by decide +kernel
theorem dX3_advanceOverNumber_61 : decode cX3_advanceOverNumber 61 = .ok (.aload_n 1, 1) := by decide +kernel
theorem dX3_advanceOverNumber_62 : decode cX3_advanceOverNumber 62 = .ok (.getfield 79, 3) := by decide +kernel
theorem dX3_advanceOverNumber_65 : decode cX3_advanceOverNumber 65 = .ok (.aload_n 0, 1) := by decide +kernel
theorem dX3_advanceOverNumber_66 : decode cX3_advanceOverNumber 66 = .ok (.getfield 33, 3) := by decide +kernel
theorem dX3_advanceOverNumber_69 : decode cX3_advanceOverNumber 69 = .ok (.iaload, 1) := by decide +kernel
theorem dX3_advanceOverNumber_70 : decode cX3_advanceOverNumber 70 = .ok (.iadd, 1) := by decide +kernel
theorem dX3_advanceOverNumber_71 : decode cX3_advanceOverNumber 71 = .ok (.bipush 48, 2) := by decide +kernel
theorem dX3_advanceOverNumber_73 : decode cX3_advanceOverNumber 73 = .ok (.isub, 1) := by decide +kernel
theorem dX3_advanceOverNumber_74 : decode cX3_advanceOverNumber 74 = .ok (.invokestatic 89, 3) := by decide +kernel
theorem dX3_advanceOverNumber_77 : decode cX3_advanceOverNumber 77 = .ok (.putfield 43, 3) := by decide +kernel
theorem dX3_advanceOverNumber_80 : decode cX3_advanceOverNumber 80 = .ok (.aload_n 0, 1) := by decide +kernel
theorem dX3_advanceOverNumber_81 : decode cX3_advanceOverNumber 81 = .ok (.dup, 1) := by decide +kernel
theorem dX3_advanceOverNumber_82 : decode cX3_advanceOverNumber 82 = .ok (.getfield 33, 3) := by decide +kernel
theorem dX3_advanceOverNumber_85 : decode cX3_advanceOverNumber 85 = .ok (.iconst 1, 1) := by decide +kernel
theorem dX3_advanceOverNumber_86 : decode cX3_advanceOverNumber 86 = .ok (.iadd, 1) := by decide +kernel
theorem dX3_advanceOverNumber_87 : decode cX3_advanceOverNumber 87 = .ok (.putfield 33, 3) := by decide +kernel
theorem dX3_advanceOverNumber_90 : decode cX3_advanceOverNumber 90 = .ok (.goto (-65), 3) := by decide +kernel
theorem dX3_advanceOverNumber_93 : decode cX3_advanceOverNumber 93 = .ok (.aload_n 0, 1) := by decide +kernel
theorem dX3_advanceOverNumber_94 : decode cX3_advanceOverNumber 94 = .ok (.getfield 43, 3) := by decide +kernel
theorem dX3_advanceOverNumber_97 : decode cX3_advanceOverNumber 97 = .ok (.bipush 99, 2) := by decide +kernel
theorem dX3_advanceOverNumber_99 : decode cX3_advanceOverNumber 99 = .ok (.if_icmp .gt 20, 3) := by decide +kernel
theorem dX3_advanceOverNumber_102 : decode cX3_advanceOverNumber 102 = .ok (.iload_n 2, 1) := by decide +kernel
theorem dX3_advanceOverNumber_103 : decode cX3_advanceOverNumber 103 = .ok (.ifCond .eq 20, 3) := by decide +kernel
theorem dX3_advanceOverNumber_106 : decode cX3_advanceOverNumber 106 = .ok (.aload_n 0, 1) := by decide +kernel
theorem dX3_advanceOverNumber_107 : decode cX3_advanceOverNumber 107 = .ok (.getfield 33, 3) := by decide +kernel
theorem dX3_advanceOverNumber_110 : decode cX3_advanceOverNumber 110 = .ok (.aload_n 0, 1) := by decide +kernel
theorem dX3_advanceOverNumber_111 : decode cX3_advanceOverNumber 111 = .ok (.getfield 53, 3) := by decide +kernel
theorem dX3_advanceOverNumber_114 : decode cX3_advanceOverNumber 114 = .ok (.isub, 1) := by decide +kernel
theorem dX3_advanceOverNumber_115 : decode cX3_advanceOverNumber 115 = .ok (.iconst 1, 1) := by decide +kernel
theorem dX3_advanceOverNumber_116 : decode cX3_advanceOverNumber 116 = .ok (.if_icmp .le 7, 3) := by decide +kernel
theorem dX3_advanceOverNumber_119 : decode cX3_advanceOverNumber 119 = .ok (.iconst 1, 1) := by decide +kernel
theorem dX3_advanceOverNumber_120 : decode cX3_advanceOverNumber 120 = .ok (.goto 4, 3) := by decide +kernel
theorem dX3_advanceOverNumber_123 : decode cX3_advanceOverNumber 123 = .ok (.iconst 0, 1) := by decide +kernel
theorem dX3_advanceOverNumber_124 : decode cX3_advanceOverNumber 124 = .ok (.istore_n 3, 1) := by decide +kernel
theorem dX3_advanceOverNumber_125 : decode cX3_advanceOverNumber 125 = .ok (.aload_n 0, 1) := by decide +kernel
theorem dX3_advanceOverNumber_126 : decode cX3_advanceOverNumber 126 = .ok (.iload_n 3, 1) := by decide +kernel
theorem dX3_advanceOverNumber_127 : decode cX3_advanceOverNumber 127 = .ok (.ifCond .eq 7, 3) := by decide +kernel
theorem dX3_advanceOverNumber_130 : decode cX3_advanceOverNumber 130 = .ok (.iconst 4, 1) := by decide +kernel
theorem dX3_advanceOverNumber_131 : decode cX3_advanceOverNumber 131 = .ok (.goto 4, 3) := by decide +kernel
theorem dX3_advanceOverNumber_134 : decode cX3_advanceOverNumber 134 = .ok (.iconst 2, 1) := by decide +kernel
theorem dX3_advanceOverNumber_135 : decode cX3_advanceOverNumber 135 = .ok (.putfield 40, 3) := by decide +kernel
theorem dX3_advanceOverNumber_138 : decode cX3_advanceOverNumber 138 = .ok (.return_, 1) := by decide +kernel
theorem dX3_isDigit_0 : decode cX3_isDigit 0 = .ok (.iload_n 0, 1) := by decide +kernel
theorem dX3_isDigit_1 : decode cX3_isDigit 1 = .ok (.bipush 48, 2) := by decide +kernel
theorem dX3_isDigit_3 : decode cX3_isDigit 3 = .ok (.if_icmp .lt 13, 3) := by decide +kernel
theorem dX3_isDigit_6 : decode cX3_isDigit 6 = .ok (.iload_n 0, 1) := by decide +kernel
theorem dX3_isDigit_7 : decode cX3_isDigit 7 = .ok (.bipush 57, 2) := by decide +kernel
theorem dX3_isDigit_9 : decode cX3_isDigit 9 = .ok (.if_icmp .gt 7, 3) := by decide +kernel
theorem dX3_isDigit_12 : decode cX3_isDigit 12 = .ok (.iconst 1, 1) := by decide +kernel
theorem dX3_isDigit_13 : decode cX3_isDigit 13 = .ok (.goto 4, 3) := by decide +kernel
theorem dX3_isDigit_16 : decode cX3_isDigit 16 = .ok (.iconst 0, 1) := by decide +kernel
theorem dX3_isDigit_17 : decode cX3_isDigit 17 = .ok (.ireturn, 1) := by decide +kernel
end
section
theorem dX4_init_0 : decode cX4_init 0 = .ok (.aload_n 0, 1) := by decide +kernel
theorem dX4_init_1 : decode cX4_init 1 = .ok (.invokespecial 3, 3) := by decide +kernel
theorem dX4_init_4 : decode cX4_init 4 = .ok (.aload_n 0, 1) := by decide +kernel
theorem dX4_init_5 : decode cX4_init 5 = .ok (.bipush 10, 2) := by decide +kernel
theorem dX4_init_7 : decode cX4_init 7 = .ok (.anewarray 9, 3) := by decide +kernel
theorem dX4_init_10 : decode cX4_init 10 = .ok (.putfield 11, 3) := by decide +kernel
theorem dX4_init_13 : decode cX4_init 13 = .ok (.iconst 0, 1) := by decide +kernel
theorem dX4_init_14 : decode cX4_init 14 = .ok (.istore_n 1, 1) := by decide +kernel
theorem dX4_init_15 : decode cX4_init 15 = .ok (.iload_n 1, 1) := by decide +kernel
theorem dX4_init_16 : decode cX4_init 16 = .ok (.bipush 10, 2) := by decide +kernel
theorem dX4_init_18 : decode cX4_init 18 = .ok (.if_icmp .ge 22, 3) := by decide +kernel
theorem dX4_init_21 : decode cX4_init 21 = .ok (.aload_n 0, 1) := by decide +kernel
theorem dX4_init_22 : decode cX4_init 22 = .ok (.getfield 11, 3) := by decide +kernel
theorem dX4_init_25 : decode cX4_init 25 = .ok (.iload_n 1, 1) := by decide +kernel
theorem dX4_init_26 : decode cX4_init 26 = .ok (.new 9, 3) := by decide +kernel
theorem dX4_init_29 : decode cX4_init 29 = .ok (.dup, 1) := by decide +kernel
theorem dX4_init_30 : decode cX4_init 30 = .ok (.invokespecial 17, 3) := by decide +kernel
theorem dX4_init_33 : decode cX4_init 33 = .ok (.aastore, 1) := by decide +kernel
theorem dX4_init_34 : decode cX4_init 34 = .ok (.iinc 1 1, 3) := by decide +kernel
theorem dX4_init_37 : decode cX4_init 37 = .ok (.goto (-22), 3) := by decide +kernel
theorem dX4_init_40 : decode cX4_init 40 = .ok (.return_, 1) := by decide +kernel
theorem dX4_push_0 : decode cX4_push 0 = .ok (.aload_n 0, 1) := by decide +kernel
theorem dX4_push_1 : decode cX4_push 1 = .ok (.getfield 11, 3) := by decide +kernel
theorem dX4_push_4 : decode cX4_push 4 = .ok (.aload_n 0, 1) := by decide +kernel
theorem dX4_push_5 : decode cX4_push 5 = .ok (.getfield 18, 3) := by decide +kernel
theorem dX4_push_8 : decode cX4_push 8 = .ok (.aaload, 1) := by decide +kernel
theorem dX4_push_9 : decode cX4_push 9 = .ok (.aload_n 1, 1) := by decide +kernel
theorem dX4_push_10 : decode cX4_push 10 = .ok (.invokevirtual 22, 3) := by decide +kernel
theorem dX4_push_13 : decode cX4_push 13 = .ok (.aload_n 0, 1) := by decide +kernel
theorem dX4_push_14 : decode cX4_push 14 = .ok (.aload_n 0, 1) := by decide +kernel
theorem dX4_push_15 : decode cX4_push 15 = .ok (.getfield 18, 3) := by decide +kernel
theorem dX4_push_18 : decode cX4_push 18 = .ok (.iconst 1, 1) := by decide +kernel
theorem dX4_push_19 : decode cX4_push 19 = .ok (.iadd, 1) := by decide +kernel
theorem dX4_push_20 : decode cX4_push 20 = .ok (.bipush 10, 2) := by decide +kernel
theorem dX4_push_22 : decode cX4_push 22 = .ok (.irem, 1) := by decide +kernel
theorem dX4_push_23 : decode cX4_push 23 = .ok (.putfield 18, 3) := by decide +kernel
theorem dX4_push_26 : decode cX4_push 26 = .ok (.aload_n 0, 1) := by decide +kernel
theorem dX4_push_27 : decode cX4_push 27 = .ok (.aload_n 0, 1) := by decide +kernel
theorem dX4_push_28 : decode cX4_push 28 = .ok (.getfield 26, 3) := by decide +kernel
theorem dX4_push_31 : decode cX4_push 31 = .ok (.iconst 1, 1) := by decide +kernel
theorem dX4_push_32 : decode cX4_push 32 = .ok (.iadd, 1) := by decide +kernel
theorem dX4_push_33 : decode cX4_push 33 = .ok (.bipush 10, 2) := by decide +kernel
theorem dX4_push_35 : decode cX4_push 35 = .ok (.invokestatic 29, 3) := by decide +kernel
theorem dX4_push_38 : decode cX4_push 38 = .ok (.putfield 26, 3) := by decide +kernel
theorem dX4_push_41 : decode cX4_push 41 = .ok (.return_, 1) := by decide +kernel
theorem dX4_pop_0 : decode cX4_pop 0 = .ok (.aload_n 0, 1) := by decide +kernel
theorem dX4_pop_1 : decode cX4_pop 1 = .ok (.aload_n 0, 1) := by decide +kernel
theorem dX4_pop_2 : decode cX4_pop 2 = .ok (.getfield 18, 3) := by decide +kernel
theorem dX4_pop_5 : decode cX4_pop 5 = .ok (.bipush 10, 2) := by decide +kernel
theorem dX4_pop_7 : decode cX4_pop 7 = .ok (.iadd, 1) := by decide +kernel
theorem dX4_pop_8 : decode cX4_pop 8 = .ok (.iconst 1, 1) := by decide +kernel
theorem dX4_pop_9 : decode cX4_pop 9 = .ok (.isub, 1) := by decide +kernel
theorem dX4_pop_10 : decode cX4_pop 10 = .ok (.bipush 10, 2) := by decide +kernel
theorem dX4_pop_12 : decode cX4_pop 12 = .ok (.irem, 1) := by decide +kernel
theorem dX4_pop_13 : decode cX4_pop 13 = .ok (.putfield 18, 3) := by decide +kernel
theorem dX4_pop_16 : decode cX4_pop 16 = .ok (.aload_n 1, 1) := by decide +kernel
theorem dX4_pop_17 : decode cX4_pop 17 = .ok (.aload_n 0, 1) := by decide +kernel
theorem dX4_pop_18 : decode cX4_pop 18 = .ok (.getfield 11, 3) := by decide +kernel
theorem dX4_pop_21 : decode cX4_pop 21 = .ok (.aload_n 0, 1) := by decide +kernel
theorem dX4_pop_22 : decode cX4_pop 22 = .ok (.getfield 18, 3) := by decide +kernel
theorem dX4_pop_25 : decode cX4_pop 25 = .ok (.aaload, 1) := by decide +kernel
theorem dX4_pop_26 : decode cX4_pop 26 = .ok (.invokevirtual 22, 3) := by decide +kernel
theorem dX4_pop_29 : decode cX4_pop 29 = .ok (.aload_n 0, 1) := by decide +kernel
theorem dX4_pop_30 : decode cX4_pop 30 = .ok (.dup, 1) := by decide +kernel
theorem dX4_pop_31 : decode cX4_pop 31 = .ok (.getfield 26, 3) := by decide +kernel
theorem dX4_pop_34 : decode cX4_pop 34 = .ok (.iconst 1, 1) := by decide +kernel
theorem dX4_pop_35 : decode cX4_pop 35 = .ok (.isub, 1) := by decide +kernel
theorem dX4_pop_36 : decode cX4_pop 36 = .ok (.putfield 26, 3) := by decide +kernel
theorem dX4_pop_39 : decode cX4_pop 39 = .ok (.return_, 1) := by decide +kernel
end
section
theorem dX5_init_0 : decode cX5_init 0 = .ok (.aload_n 0, 1) := by decide +kernel
theorem dX5_init_1 : decode cX5_init 1 = .ok (.invokespecial 3, 3) := by decide +kernel
theorem dX5_init_4 : decode cX5_init 4 = .ok (.aload_n 0, 1) := by decide +kernel
theorem dX5_init_5 : decode cX5_init 5 = .ok (.bipush 9, 2) := by decide +kernel
theorem dX5_init_7 : decode cX5_init 7 = .ok (.newarray .int, 2) := by decide +kernel
theorem dX5_init_9 : decode cX5_init 9 = .ok (.putfield 9, 3) := by decide +kernel
theorem dX5_init_12 : decode cX5_init 12 = .ok (.aload_n 0, 1) := by decide +kernel
theorem dX5_init_13 : decode cX5_init 13 = .ok (.bipush 9, 2) := by decide +kernel
theorem dX5_init_15 : decode cX5_init 15 = .ok (.newarray .int, 2) := by decide +kernel
theorem dX5_init_17 : decode cX5_init 17 = .ok (.putfield 15, 3) := by decide +kernel
theorem dX5_init_20 : decode cX5_init 20 = .ok (.aload_n 0, 1) := by decide +kernel
theorem dX5_init_21 : decode cX5_init 21 = .ok (.bipush 9, 2) := by decide +kernel
theorem dX5_init_23 : decode cX5_init 23 = .ok (.newarray .int, 2) := by decide +kernel
theorem dX5_init_25 : decode cX5_init 25 = .ok (.putfield 18, 3) := by decide +kernel
theorem dX5_init_28 : decode cX5_init 28 = .ok (.aload_n 0, 1) := by decide +kernel
theorem dX5_init_29 : decode cX5_init 29 = .ok (.bipush 9, 2) := by decide +kernel
theorem dX5_init_31 : decode cX5_init 31 = .ok (.newarray .int, 2) := by decide +kernel
theorem dX5_init_33 : decode cX5_init 33 = .ok (.putfield 21, 3) := by decide +kernel
theorem dX5_init_36 : decode cX5_init 36 = .ok (.return_, 1) := by decide +kernel
theorem dX5_take_0 : decode cX5_take 0 = .ok (.aload_n 0, 1) := by decide +kernel
theorem dX5_take_1 : decode cX5_take 1 = .ok (.aload_n 2, 1) := by decide +kernel
theorem dX5_take_2 : decode cX5_take 2 = .ok (.getfield 24, 3) := by decide +kernel
theorem dX5_take_5 : decode cX5_take 5 = .ok (.putfield 30, 3) := by decide +kernel
theorem dX5_take_8 : decode cX5_take 8 = .ok (.iconst 0, 1) := by decide +kernel
theorem dX5_take_9 : decode cX5_take 9 = .ok (.istore_n 3, 1) := by decide +kernel
theorem dX5_take_10 : decode cX5_take 10 = .ok (.iload_n 3, 1) := by decide +kernel
theorem dX5_take_11 : decode cX5_take 11 = .ok (.aload_n 0, 1) := by decide +kernel
theorem dX5_take_12 : decode cX5_take 12 = .ok (.getfield 30, 3) := by decide +kernel
theorem dX5_take_15 : decode cX5_take 15 = .ok (.if_icmp .ge 73, 3) := by decide +kernel
theorem dX5_take_18 : decode cX5_take 18 = .ok (.aload_n 2, 1) := by decide +kernel
theorem dX5_take_19 : decode cX5_take 19 = .ok (.getfield 31, 3) := by decide +kernel
theorem dX5_take_22 : decode cX5_take 22 = .ok (.iload_n 3, 1) := by decide +kernel
theorem dX5_take_23 : decode cX5_take 23 = .ok (.iaload, 1) := by decide +kernel
theorem dX5_take_24 : decode cX5_take 24 = .ok (.istore 4, 2) := by decide +kernel
theorem dX5_take_26 : decode cX5_take 26 = .ok (.aload_n 0, 1) := by decide +kernel
theorem dX5_take_27 : decode cX5_take 27 = .ok (.getfield 9, 3) := by decide +kernel
theorem dX5_take_30 : decode cX5_take 30 = .ok (.iload_n 3, 1) := by decide +kernel
theorem dX5_take_31 : decode cX5_take 31 = .ok (.iload 4, 2) := by decide +kernel
theorem dX5_take_33 : decode cX5_take 33 = .ok (.iastore, 1) := by decide +kernel
theorem dX5_take_34 : decode cX5_take 34 = .ok (.aload_n 0, 1) := by decide +kernel
theorem dX5_take_35 : decode cX5_take 35 = .ok (.getfield 15, 3) := by decide +kernel
theorem dX5_take_38 : decode cX5_take 38 = .ok (.iload_n 3, 1) := by decide +kernel
theorem dX5_take_39 : decode cX5_take 39 = .ok (.aload_n 1, 1) := by decide +kernel
theorem dX5_take_40 : decode cX5_take 40 = .ok (.getfield 32, 3) := by decide +kernel
theorem dX5_take_43 : decode cX5_take 43 = .ok (.iload 4, 2) := by decide +kernel
theorem dX5_take_45 : decode cX5_take 45 = .ok (.iaload, 1) := by decide +kernel
theorem dX5_take_46 : decode cX5_take 46 = .ok (.iastore, 1) := by decide +kernel
theorem dX5_take_47 : decode cX5_take 47 = .ok (.aload_n 0, 1) := by decide +kernel
theorem dX5_take_48 : decode cX5_take 48 = .ok (.getfield 18, 3) := by decide +kernel
theorem dX5_take_51 : decode cX5_take 51 = .ok (.iload_n 3, 1) := by decide +kernel
theorem dX5_take_52 : decode cX5_take 52 = .ok (.aload_n 1, 1) := by decide +kernel
theorem dX5_take_53 : decode cX5_take 53 = .ok (.getfield 35, 3) := by decide +kernel
theorem dX5_take_56 : decode cX5_take 56 = .ok (.iload 4, 2) := by decide +kernel
theorem dX5_take_58 : decode cX5_take 58 = .ok (.iaload, 1) := by decide +kernel
theorem dX5_take_59 : decode cX5_take 59 = .ok (.iastore, 1) := by decide +kernel
theorem dX5_take_60 : decode cX5_take 60 = .ok (.aload_n 0, 1) := by decide +kernel
theorem dX5_take_61 : decode cX5_take 61 = .ok (.getfield 21, 3) := by decide +kernel
theorem dX5_take_64 : decode cX5_take 64 = .ok (.iload_n 3, 1) := by decide +kernel
theorem dX5_take_65 : decode cX5_take 65 = .ok (.aload_n 2, 1) := by decide +kernel
theorem dX5_take_66 : decode cX5_take 66 = .ok (.getfield 36, 3) := by decide +kernel
theorem dX5_take_69 : decode cX5_take 69 = .ok (.iload 4, 2) := by decide +kernel
theorem dX5_take_71 : decode cX5_take 71 = .ok (.iaload, 1) := by decide +kernel
theorem dX5_take_72 : decode cX5_take 72 = .ok (.aload_n 2, 1) := by decide +kernel
theorem dX5_take_73 : decode cX5_take 73 = .ok (.getfield 39, 3) := by decide +kernel
theorem dX5_take_76 : decode cX5_take 76 = .ok (.iload_n 3, 1) := by decide +kernel
theorem dX5_take_77 : decode cX5_take 77 = .ok (.iaload, 1) := by decide +kernel
theorem dX5_take_78 : decode cX5_take 78 = .ok (.invokestatic 42, 3) := by decide +kernel
theorem dX5_take_81 : decode cX5_take 81 = .ok (.iastore, 1) := by decide +kernel
theorem dX5_take_82 : decode cX5_take 82 = .ok (.iinc 3 1, 3) := by decide +kernel
theorem dX5_take_85 : decode cX5_take 85 = .ok (.goto (-75), 3) := by decide +kernel
theorem dX5_take_88 : decode cX5_take 88 = .ok (.return_, 1) := by decide +kernel
end
section
theorem dX6_init_0 : decode cX6_init 0 = .ok (.aload_n 0, 1) := by decide +kernel
theorem dX6_init_1 : decode cX6_init 1 = .ok (.invokespecial 3, 3) := by decide +kernel
theorem dX6_init_4 : decode cX6_init 4 = .ok (.aload_n 0, 1) := by decide +kernel
theorem dX6_init_5 : decode cX6_init 5 = .ok (.bipush 6, 2) := by decide +kernel
theorem dX6_init_7 : decode cX6_init 7 = .ok (.newarray .int, 2) := by decide +kernel
theorem dX6_init_9 : decode cX6_init 9 = .ok (.putfield 9, 3) := by decide +kernel
theorem dX6_init_12 : decode cX6_init 12 = .ok (.aload_n 0, 1) := by decide +kernel
theorem dX6_init_13 : decode cX6_init 13 = .ok (.bipush 6, 2) := by decide +kernel
theorem dX6_init_15 : decode cX6_init 15 = .ok (.newarray .int, 2) := by decide +kernel
theorem dX6_init_17 : decode cX6_init 17 = .ok (.putfield 15, 3) := by decide +kernel
theorem dX6_init_20 : decode cX6_init 20 = .ok (.return_, 1) := by decide +kernel
theorem dX6_copy_0 : decode cX6_copy 0 = .ok (.aload_n 1, 1) := by decide +kernel
theorem dX6_copy_1 : decode cX6_copy 1 = .ok (.getfield 9, 3) := by decide +kernel
theorem dX6_copy_4 : decode cX6_copy 4 = .ok (.iconst 0, 1) := by decide +kernel
theorem dX6_copy_5 : decode cX6_copy 5 = .ok (.aload_n 0, 1) := by decide +kernel
theorem dX6_copy_6 : decode cX6_copy 6 = .ok (.getfield 9, 3) := by decide +kernel
theorem dX6_copy_9 : decode cX6_copy 9 = .ok (.iconst 0, 1) := by decide +kernel
theorem dX6_copy_10 : decode cX6_copy 10 = .ok (.bipush 6, 2) := by decide +kernel
theorem dX6_copy_12 : decode cX6_copy 12 = .ok (.invokestatic 18, 3) := by decide +kernel
theorem dX6_copy_15 : decode cX6_copy 15 = .ok (.aload_n 1, 1) := by decide +kernel
theorem dX6_copy_16 : decode cX6_copy 16 = .ok (.getfield 15, 3) := by decide +kernel
theorem dX6_copy_19 : decode cX6_copy 19 = .ok (.iconst 0, 1) := by decide +kernel
theorem dX6_copy_20 : decode cX6_copy 20 = .ok (.aload_n 0, 1) := by decide +kernel
theorem dX6_copy_21 : decode cX6_copy 21 = .ok (.getfield 15, 3) := by decide +kernel
theorem dX6_copy_24 : decode cX6_copy 24 = .ok (.iconst 0, 1) := by decide +kernel
theorem dX6_copy_25 : decode cX6_copy 25 = .ok (.bipush 6, 2) := by decide +kernel
theorem dX6_copy_27 : decode cX6_copy 27 = .ok (.invokestatic 18, 3) := by decide +kernel
theorem dX6_copy_30 : decode cX6_copy 30 = .ok (.aload_n 0, 1) := by decide +kernel
theorem dX6_copy_31 : decode cX6_copy 31 = .ok (.aload_n 1, 1) := by decide +kernel
theorem dX6_copy_32 : decode cX6_copy 32 = .ok (.getfield 24, 3) := by decide +kernel
theorem dX6_copy_35 : decode cX6_copy 35 = .ok (.putfield 24, 3) := by decide +kernel
theorem dX6_copy_38 : decode cX6_copy 38 = .ok (.return_, 1) := by decide +kernel
theorem dX6_append_0 : decode cX6_append 0 = .ok (.aload_n 0, 1) := by decide +kernel
theorem dX6_append_1 : decode cX6_append 1 = .ok (.getfield 24, 3) := by decide +kernel
theorem dX6_append_4 : decode cX6_append 4 = .ok (.bipush 6, 2) := by decide +kernel
theorem dX6_append_6 : decode cX6_append 6 = .ok (.if_icmp .ge 33, 3) := by decide +kernel
theorem dX6_append_9 : decode cX6_append 9 = .ok (.aload_n 0, 1) := by decide +kernel
theorem dX6_append_10 : decode cX6_append 10 = .ok (.getfield 9, 3) := by decide +kernel
theorem dX6_append_13 : decode cX6_append 13 = .ok (.aload_n 0, 1) := by decide +kernel
theorem dX6_append_14 : decode cX6_append 14 = .ok (.getfield 24, 3) := by decide +kernel
theorem dX6_append_17 : decode cX6_append 17 = .ok (.iload_n 1, 1) := by decide +kernel
theorem dX6_append_18 : decode cX6_append 18 = .ok (.iastore, 1) := by decide +kernel
theorem dX6_append_19 : decode cX6_append 19 = .ok (.aload_n 0, 1) := by decide +kernel
theorem dX6_append_20 : decode cX6_append 20 = .ok (.getfield 15, 3) := by decide +kernel
theorem dX6_append_23 : decode cX6_append 23 = .ok (.aload_n 0, 1) := by decide +kernel
theorem dX6_append_24 : decode cX6_append 24 = .ok (.getfield 24, 3) := by decide +kernel
theorem dX6_append_27 : decode cX6_append 27 = .ok (.iload_n 2, 1) := by decide +kernel
theorem dX6_append_28 : decode cX6_append 28 = .ok (.iastore, 1) := by decide +kernel
theorem dX6_append_29 : decode cX6_append 29 = .ok (.aload_n 0, 1) := by decide +kernel
theorem dX6_append_30 : decode cX6_append 30 = .ok (.dup, 1) := by decide +kernel
theorem dX6_append_31 : decode cX6_append 31 = .ok (.getfield 24, 3) := by decide +kernel
theorem dX6_append_34 : decode cX6_append 34 = .ok (.iconst 1, 1) := by decide +kernel
theorem dX6_append_35 : decode cX6_append 35 = .ok (.iadd, 1) := by decide +kernel
theorem dX6_append_36 : decode cX6_append 36 = .ok (.putfield 24, 3) := by decide +kernel
theorem dX6_append_39 : decode cX6_append 39 = .ok (.return_, 1) := by decide +kernel
end
section
theorem dX7_init_0 : decode cX7_init 0 = .ok (.aload_n 0, 1) := by decide +kernel
theorem dX7_init_1 : decode cX7_init 1 = .ok (.invokespecial 3, 3) := by decide +kernel
theorem dX7_init_4 : decode cX7_init 4 = .ok (.aload_n 0, 1) := by decide +kernel
theorem dX7_init_5 : decode cX7_init 5 = .ok (.bipush 9, 2) := by decide +kernel
theorem dX7_init_7 : decode cX7_init 7 = .ok (.iconst 4, 1) := by decide +kernel
theorem dX7_init_8 : decode cX7_init 8 = .ok (.multianewarray 11 2, 4) := by decide +kernel
theorem dX7_init_12 : decode cX7_init 12 = .ok (.putfield 13, 3) := by decide +kernel
theorem dX7_init_15 : decode cX7_init 15 = .ok (.aload_n 0, 1) := by decide +kernel
theorem dX7_init_16 : decode cX7_init 16 = .ok (.aload_n 1, 1) := by decide +kernel
theorem dX7_init_17 : decode cX7_init 17 = .ok (.putfield 16, 3) := by decide +kernel
theorem dX7_init_20 : decode cX7_init 20 = .ok (.return_, 1) := by decide +kernel
theorem dX7_judge_0 : decode cX7_judge 0 = .ok (.aload_n 0, 1) := by decide +kernel
theorem dX7_judge_1 : decode cX7_judge 1 = .ok (.iload_n 1, 1) := by decide +kernel
theorem dX7_judge_2 : decode cX7_judge 2 = .ok (.invokevirtual 20, 3) := by decide +kernel
theorem dX7_judge_5 : decode cX7_judge 5 = .ok (.aload_n 0, 1) := by decide +kernel
theorem dX7_judge_6 : decode cX7_judge 6 = .ok (.invokevirtual 24, 3) := by decide +kernel
theorem dX7_judge_9 : decode cX7_judge 9 = .ok (.ifCond .ne 5, 3) := by decide +kernel
theorem dX7_judge_12 : decode cX7_judge 12 = .ok (.iconst 2, 1) := by decide +kernel
theorem dX7_judge_13 : decode cX7_judge 13 = .ok (.ireturn, 1) := by decide +kernel
theorem dX7_judge_14 : decode cX7_judge 14 = .ok (.aload_n 0, 1) := by decide +kernel
theorem dX7_judge_15 : decode cX7_judge 15 = .ok (.getfield 28, 3) := by decide +kernel
theorem dX7_judge_18 : decode cX7_judge 18 = .ok (.iconst 3, 1) := by decide +kernel
theorem dX7_judge_19 : decode cX7_judge 19 = .ok (.if_icmp .ge 5, 3) := by decide +kernel
theorem dX7_judge_22 : decode cX7_judge 22 = .ok (.iconst 1, 1) := by decide +kernel
theorem dX7_judge_23 : decode cX7_judge 23 = .ok (.ireturn, 1) := by decide +kernel
theorem dX7_judge_24 : decode cX7_judge 24 = .ok (.aload_n 0, 1) := by decide +kernel
theorem dX7_judge_25 : decode cX7_judge 25 = .ok (.iload_n 1, 1) := by decide +kernel
theorem dX7_judge_26 : decode cX7_judge 26 = .ok (.invokevirtual 32, 3) := by decide +kernel
theorem dX7_judge_29 : decode cX7_judge 29 = .ok (.istore_n 2, 1) := by decide +kernel
theorem dX7_judge_30 : decode cX7_judge 30 = .ok (.aload_n 0, 1) := by decide +kernel
theorem dX7_judge_31 : decode cX7_judge 31 = .ok (.getfield 36, 3) := by decide +kernel
theorem dX7_judge_34 : decode cX7_judge 34 = .ok (.aload_n 0, 1) := by decide +kernel
theorem dX7_judge_35 : decode cX7_judge 35 = .ok (.getfield 16, 3) := by decide +kernel
theorem dX7_judge_38 : decode cX7_judge 38 = .ok (.getfield 40, 3) := by decide +kernel
theorem dX7_judge_41 : decode cX7_judge 41 = .ok (.iload_n 2, 1) := by decide +kernel
theorem dX7_judge_42 : decode cX7_judge 42 = .ok (.iaload, 1) := by decide +kernel
theorem dX7_judge_43 : decode cX7_judge 43 = .ok (.i2l, 1) := by decide +kernel
theorem dX7_judge_44 : decode cX7_judge 44 = .ok (.aload_n 0, 1) := by decide +kernel
theorem dX7_judge_45 : decode cX7_judge 45 = .ok (.getfield 45, 3) := by decide +kernel
theorem dX7_judge_48 : decode cX7_judge 48 = .ok (.lmul, 1) := by decide +kernel
theorem dX7_judge_49 : decode cX7_judge 49 = .ok (.lcmp, 1) := by decide +kernel
theorem dX7_judge_50 : decode cX7_judge 50 = .ok (.ifCond .gt 7, 3) := by decide +kernel
theorem dX7_judge_53 : decode cX7_judge 53 = .ok (.iconst 1, 1) := by decide +kernel
theorem dX7_judge_54 : decode cX7_judge 54 = .ok (.goto 4, 3) := by decide +kernel
theorem dX7_judge_57 : decode cX7_judge 57 = .ok (.iconst 0, 1) := by decide +kernel
theorem dX7_judge_58 : decode cX7_judge 58 = .ok (.istore_n 3, 1) := by decide +kernel
theorem dX7_judge_59 : decode cX7_judge 59 = .ok (.iload_n 3, 1) := by decide +kernel
theorem dX7_judge_60 : decode cX7_judge 60 = .ok (.ifCond .eq 17, 3) := by decide +kernel
theorem dX7_judge_63 : decode cX7_judge 63 = .ok (.aload_n 0, 1) := by decide +kernel
theorem dX7_judge_64 : decode cX7_judge 64 = .ok (.iload_n 2, 1) := by decide +kernel
theorem dX7_judge_65 : decode cX7_judge 65 = .ok (.invokevirtual 48, 3) := by decide +kernel
theorem dX7_judge_68 : decode cX7_judge 68 = .ok (.lconst 0, 1) := by decide +kernel
theorem dX7_judge_69 : decode cX7_judge 69 = .ok (.lcmp, 1) := by decide +kernel
theorem dX7_judge_70 : decode cX7_judge 70 = .ok (.ifCond .ne 7, 3) := by decide +kernel
theorem dX7_judge_73 : decode cX7_judge 73 = .ok (.iconst 0, 1) := by decide +kernel
theorem dX7_judge_74 : decode cX7_judge 74 = .ok (.goto 4, 3) := by decide +kernel
theorem dX7_judge_77 : decode cX7_judge 77 = .ok (.iconst 2, 1) := by decide +kernel
theorem dX7_judge_78 : decode cX7_judge 78 = .ok (.ireturn, 1) := by decide +kernel
theorem dX7_solve_0 : decode cX7_solve 0 = .ok (.aload_n 0, 1) := by decide +kernel
theorem dX7_solve_1 : decode cX7_solve 1 = .ok (.iload_n 1, 1) := by decide +kernel
theorem dX7_solve_2 : decode cX7_solve 2 = .ok (.invokevirtual 52, 3) := by decide +kernel
theorem dX7_solve_5 : decode cX7_solve 5 = .ok (.aload_n 0, 1) := by decide +kernel
theorem dX7_solve_6 : decode cX7_solve 6 = .ok (.invokevirtual 55, 3) := by decide +kernel
theorem dX7_solve_9 : decode cX7_solve 9 = .ok (.aload_n 0, 1) := by decide +kernel
theorem dX7_solve_10 : decode cX7_solve 10 = .ok (.getfield 28, 3) := by decide +kernel
theorem dX7_solve_13 : decode cX7_solve 13 = .ok (.iconst 3, 1) := by decide +kernel
theorem dX7_solve_14 : decode cX7_solve 14 = .ok (.if_icmp .ne 80, 3) := by decide +kernel
theorem dX7_solve_17 : decode cX7_solve 17 = .ok (.aload_n 0, 1) := by decide +kernel
theorem dX7_solve_18 : decode cX7_solve 18 = .ok (.getfield 13, 3) := by decide +kernel
theorem dX7_solve_21 : decode cX7_solve 21 = .ok (.iconst 2, 1) := by decide +kernel
theorem dX7_solve_22 : decode cX7_solve 22 = .ok (.aaload, 1) := by decide +kernel
theorem dX7_solve_23 : decode cX7_solve 23 = .ok (.iconst 2, 1) := by decide +kernel
theorem dX7_solve_24 : decode cX7_solve 24 = .ok (.laload, 1) := by decide +kernel
theorem dX7_solve_25 : decode cX7_solve 25 = .ok (.lconst 0, 1) := by decide +kernel
theorem dX7_solve_26 : decode cX7_solve 26 = .ok (.lcmp, 1) := by decide +kernel
theorem dX7_solve_27 : decode cX7_solve 27 = .ok (.ifCond .ge 9, 3) := by decide +kernel
theorem dX7_solve_30 : decode cX7_solve 30 = .ok (.ldc2_w 58, 3) := by decide +kernel
theorem dX7_solve_33 : decode cX7_solve 33 = .ok (.goto 4, 3) := by decide +kernel
theorem dX7_solve_36 : decode cX7_solve 36 = .ok (.lconst 1, 1) := by decide +kernel
theorem dX7_solve_37 : decode cX7_solve 37 = .ok (.lstore_n 2, 1) := by decide +kernel
theorem dX7_solve_38 : decode cX7_solve 38 = .ok (.aload_n 0, 1) := by decide +kernel
theorem dX7_solve_39 : decode cX7_solve 39 = .ok (.lload_n 2, 1) := by decide +kernel
theorem dX7_solve_40 : decode cX7_solve 40 = .ok (.aload_n 0, 1) := by decide +kernel
theorem dX7_solve_41 : decode cX7_solve 41 = .ok (.getfield 13, 3) := by decide +kernel
theorem dX7_solve_44 : decode cX7_solve 44 = .ok (.iconst 0, 1) := by decide +kernel
theorem dX7_solve_45 : decode cX7_solve 45 = .ok (.aaload, 1) := by decide +kernel
theorem dX7_solve_46 : decode cX7_solve 46 = .ok (.iconst 3, 1) := by decide +kernel
theorem dX7_solve_47 : decode cX7_solve 47 = .ok (.laload, 1) := by decide +kernel
theorem dX7_solve_48 : decode cX7_solve 48 = .ok (.lmul, 1) := by decide +kernel
theorem dX7_solve_49 : decode cX7_solve 49 = .ok (.putfield 60, 3) := by decide +kernel
theorem dX7_solve_52 : decode cX7_solve 52 = .ok (.aload_n 0, 1) := by decide +kernel
theorem dX7_solve_53 : decode cX7_solve 53 = .ok (.lload_n 2, 1) := by decide +kernel
theorem dX7_solve_54 : decode cX7_solve 54 = .ok (.aload_n 0, 1) := by decide +kernel
theorem dX7_solve_55 : decode cX7_solve 55 = .ok (.getfield 13, 3) := by decide +kernel
theorem dX7_solve_58 : decode cX7_solve 58 = .ok (.iconst 1, 1) := by decide +kernel
theorem dX7_solve_59 : decode cX7_solve 59 = .ok (.aaload, 1) := by decide +kernel
theorem dX7_solve_60 : decode cX7_solve 60 = .ok (.iconst 3, 1) := by decide +kernel
theorem dX7_solve_61 : decode cX7_solve 61 = .ok (.laload, 1) := by decide +kernel
theorem dX7_solve_62 : decode cX7_solve 62 = .ok (.lmul, 1) := by decide +kernel
theorem dX7_solve_63 : decode cX7_solve 63 = .ok (.putfield 63, 3) := by decide +kernel
theorem dX7_solve_66 : decode cX7_solve 66 = .ok (.aload_n 0, 1) := by decide +kernel
theorem dX7_solve_67 : decode cX7_solve 67 = .ok (.lload_n 2, 1) := by decide +kernel
theorem dX7_solve_68 : decode cX7_solve 68 = .ok (.aload_n 0, 1) := by decide +kernel
theorem dX7_solve_69 : decode cX7_solve 69 = .ok (.getfield 13, 3) := by decide +kernel
theorem dX7_solve_72 : decode cX7_solve 72 = .ok (.iconst 2, 1) := by decide +kernel
theorem dX7_solve_73 : decode cX7_solve 73 = .ok (.aaload, 1) := by decide +kernel
theorem dX7_solve_74 : decode cX7_solve 74 = .ok (.iconst 3, 1) := by decide +kernel
theorem dX7_solve_75 : decode cX7_solve 75 = .ok (.laload, 1) := by decide +kernel
theorem dX7_solve_76 : decode cX7_solve 76 = .ok (.lmul, 1) := by decide +kernel
theorem dX7_solve_77 : decode cX7_solve 77 = .ok (.putfield 36, 3) := by decide +kernel
theorem dX7_solve_80 : decode cX7_solve 80 = .ok (.aload_n 0, 1) := by decide +kernel
theorem dX7_solve_81 : decode cX7_solve 81 = .ok (.lload_n 2, 1) := by decide +kernel
theorem dX7_solve_82 : decode cX7_solve 82 = .ok (.aload_n 0, 1) := by decide +kernel
theorem dX7_solve_83 : decode cX7_solve 83 = .ok (.getfield 13, 3) := by decide +kernel
theorem dX7_solve_86 : decode cX7_solve 86 = .ok (.iconst 2, 1) := by decide +kernel
theorem dX7_solve_87 : decode cX7_solve 87 = .ok (.aaload, 1) := by decide +kernel
theorem dX7_solve_88 : decode cX7_solve 88 = .ok (.iconst 2, 1) := by decide +kernel
theorem dX7_solve_89 : decode cX7_solve 89 = .ok (.laload, 1) := by decide +kernel
theorem dX7_solve_90 : decode cX7_solve 90 = .ok (.lmul, 1) := by decide +kernel
theorem dX7_solve_91 : decode cX7_solve 91 = .ok (.putfield 45, 3) := by decide +kernel
theorem dX7_solve_94 : decode cX7_solve 94 = .ok (.return_, 1) := by decide +kernel
theorem dX7_miss_0 : decode cX7_miss 0 = .ok (.aload_n 0, 1) := by decide +kernel
theorem dX7_miss_1 : decode cX7_miss 1 = .ok (.getfield 60, 3) := by decide +kernel
theorem dX7_miss_4 : decode cX7_miss 4 = .ok (.aload_n 0, 1) := by decide +kernel
theorem dX7_miss_5 : decode cX7_miss 5 = .ok (.getfield 16, 3) := by decide +kernel
theorem dX7_miss_8 : decode cX7_miss 8 = .ok (.getfield 66, 3) := by decide +kernel
theorem dX7_miss_11 : decode cX7_miss 11 = .ok (.iload_n 1, 1) := by decide +kernel
theorem dX7_miss_12 : decode cX7_miss 12 = .ok (.iaload, 1) := by decide +kernel
theorem dX7_miss_13 : decode cX7_miss 13 = .ok (.i2l, 1) := by decide +kernel
theorem dX7_miss_14 : decode cX7_miss 14 = .ok (.aload_n 0, 1) := by decide +kernel
theorem dX7_miss_15 : decode cX7_miss 15 = .ok (.getfield 45, 3) := by decide +kernel
theorem dX7_miss_18 : decode cX7_miss 18 = .ok (.lmul, 1) := by decide +kernel
theorem dX7_miss_19 : decode cX7_miss 19 = .ok (.lsub, 1) := by decide +kernel
theorem dX7_miss_20 : decode cX7_miss 20 = .ok (.lstore_n 2, 1) := by decide +kernel
theorem dX7_miss_21 : decode cX7_miss 21 = .ok (.aload_n 0, 1) := by decide +kernel
theorem dX7_miss_22 : decode cX7_miss 22 = .ok (.getfield 63, 3) := by decide +kernel
theorem dX7_miss_25 : decode cX7_miss 25 = .ok (.aload_n 0, 1) := by decide +kernel
theorem dX7_miss_26 : decode cX7_miss 26 = .ok (.getfield 16, 3) := by decide +kernel
theorem dX7_miss_29 : decode cX7_miss 29 = .ok (.getfield 68, 3) := by decide +kernel
theorem dX7_miss_32 : decode cX7_miss 32 = .ok (.iload_n 1, 1) := by decide +kernel
theorem dX7_miss_33 : decode cX7_miss 33 = .ok (.iaload, 1) := by decide +kernel
theorem dX7_miss_34 : decode cX7_miss 34 = .ok (.i2l, 1) := by decide +kernel
theorem dX7_miss_35 : decode cX7_miss 35 = .ok (.aload_n 0, 1) := by decide +kernel
theorem dX7_miss_36 : decode cX7_miss 36 = .ok (.getfield 45, 3) := by decide +kernel
theorem dX7_miss_39 : decode cX7_miss 39 = .ok (.lmul, 1) := by decide +kernel
theorem dX7_miss_40 : decode cX7_miss 40 = .ok (.lsub, 1) := by decide +kernel
theorem dX7_miss_41 : decode cX7_miss 41 = .ok (.lstore 4, 2) := by decide +kernel
theorem dX7_miss_43 : decode cX7_miss 43 = .ok (.aload_n 0, 1) := by decide +kernel
theorem dX7_miss_44 : decode cX7_miss 44 = .ok (.getfield 16, 3) := by decide +kernel
theorem dX7_miss_47 : decode cX7_miss 47 = .ok (.getfield 40, 3) := by decide +kernel
theorem dX7_miss_50 : decode cX7_miss 50 = .ok (.iload_n 1, 1) := by decide +kernel
theorem dX7_miss_51 : decode cX7_miss 51 = .ok (.iaload, 1) := by decide +kernel
theorem dX7_miss_52 : decode cX7_miss 52 = .ok (.i2l, 1) := by decide +kernel
theorem dX7_miss_53 : decode cX7_miss 53 = .ok (.aload_n 0, 1) := by decide +kernel
theorem dX7_miss_54 : decode cX7_miss 54 = .ok (.getfield 45, 3) := by decide +kernel
theorem dX7_miss_57 : decode cX7_miss 57 = .ok (.lmul, 1) := by decide +kernel
theorem dX7_miss_58 : decode cX7_miss 58 = .ok (.aload_n 0, 1) := by decide +kernel
theorem dX7_miss_59 : decode cX7_miss 59 = .ok (.getfield 36, 3) := by decide +kernel
theorem dX7_miss_62 : decode cX7_miss 62 = .ok (.lsub, 1) := by decide +kernel
theorem dX7_miss_63 : decode cX7_miss 63 = .ok (.lstore 6, 2) := by decide +kernel
theorem dX7_miss_65 : decode cX7_miss 65 = .ok (.lload_n 2, 1) := by decide +kernel
theorem dX7_miss_66 : decode cX7_miss 66 = .ok (.lload_n 2, 1) := by decide +kernel
theorem dX7_miss_67 : decode cX7_miss 67 = .ok (.lmul, 1) := by decide +kernel
theorem dX7_miss_68 : decode cX7_miss 68 = .ok (.lload 4, 2) := by decide +kernel
theorem dX7_miss_70 : decode cX7_miss 70 = .ok (.lload 4, 2) := by decide +kernel
theorem dX7_miss_72 : decode cX7_miss 72 = .ok (.lmul, 1) := by decide +kernel
theorem dX7_miss_73 : decode cX7_miss 73 = .ok (.ladd, 1) := by decide +kernel
theorem dX7_miss_74 : decode cX7_miss 74 = .ok (.lload 6, 2) := by decide +kernel
theorem dX7_miss_76 : decode cX7_miss 76 = .ok (.lload 6, 2) := by decide +kernel
theorem dX7_miss_78 : decode cX7_miss 78 = .ok (.lmul, 1) := by decide +kernel
theorem dX7_miss_79 : decode cX7_miss 79 = .ok (.lsub, 1) := by decide +kernel
theorem dX7_miss_80 : decode cX7_miss 80 = .ok (.lreturn, 1) := by decide +kernel
theorem dX7_load_0 : decode cX7_load 0 = .ok (.aload_n 0, 1) := by decide +kernel
theorem dX7_load_1 : decode cX7_load 1 = .ok (.iload_n 1, 1) := by decide +kernel
theorem dX7_load_2 : decode cX7_load 2 = .ok (.invokevirtual 32, 3) := by decide +kernel
theorem dX7_load_5 : decode cX7_load 5 = .ok (.istore_n 2, 1) := by decide +kernel
theorem dX7_load_6 : decode cX7_load 6 = .ok (.aload_n 0, 1) := by decide +kernel
theorem dX7_load_7 : decode cX7_load 7 = .ok (.iconst 0, 1) := by decide +kernel
theorem dX7_load_8 : decode cX7_load 8 = .ok (.putfield 70, 3) := by decide +kernel
theorem dX7_load_11 : decode cX7_load 11 = .ok (.iload_n 2, 1) := by decide +kernel
theorem dX7_load_12 : decode cX7_load 12 = .ok (.iconst 1, 1) := by decide +kernel
theorem dX7_load_13 : decode cX7_load 13 = .ok (.iadd, 1) := by decide +kernel
theorem dX7_load_14 : decode cX7_load 14 = .ok (.istore_n 3, 1) := by decide +kernel
theorem dX7_load_15 : decode cX7_load 15 = .ok (.iload_n 3, 1) := by decide +kernel
theorem dX7_load_16 : decode cX7_load 16 = .ok (.aload_n 0, 1) := by decide +kernel
theorem dX7_load_17 : decode cX7_load 17 = .ok (.getfield 16, 3) := by decide +kernel
theorem dX7_load_20 : decode cX7_load 20 = .ok (.getfield 73, 3) := by decide +kernel
theorem dX7_load_23 : decode cX7_load 23 = .ok (.if_icmp .ge 42, 3) := by decide +kernel
theorem dX7_load_26 : decode cX7_load 26 = .ok (.iload_n 1, 1) := by decide +kernel
theorem dX7_load_27 : decode cX7_load 27 = .ok (.iload_n 3, 1) := by decide +kernel
theorem dX7_load_28 : decode cX7_load 28 = .ok (.invokestatic 74, 3) := by decide +kernel
theorem dX7_load_31 : decode cX7_load 31 = .ok (.ifCond .eq 28, 3) := by decide +kernel
theorem dX7_load_34 : decode cX7_load 34 = .ok (.aload_n 0, 1) := by decide +kernel
theorem dX7_load_35 : decode cX7_load 35 = .ok (.aload_n 0, 1) := by decide +kernel
theorem dX7_load_36 : decode cX7_load 36 = .ok (.getfield 13, 3) := by decide +kernel
theorem dX7_load_39 : decode cX7_load 39 = .ok (.aload_n 0, 1) := by decide +kernel
theorem dX7_load_40 : decode cX7_load 40 = .ok (.getfield 70, 3) := by decide +kernel
theorem dX7_load_43 : decode cX7_load 43 = .ok (.aaload, 1) := by decide +kernel
theorem dX7_load_44 : decode cX7_load 44 = .ok (.iload_n 2, 1) := by decide +kernel
theorem dX7_load_45 : decode cX7_load 45 = .ok (.iload_n 3, 1) := by decide +kernel
theorem dX7_load_46 : decode cX7_load 46 = .ok (.invokevirtual 78, 3) := by decide +kernel
theorem dX7_load_49 : decode cX7_load 49 = .ok (.aload_n 0, 1) := by decide +kernel
theorem dX7_load_50 : decode cX7_load 50 = .ok (.dup, 1) := by decide +kernel
theorem dX7_load_51 : decode cX7_load 51 = .ok (.getfield 70, 3) := by decide +kernel
theorem dX7_load_54 : decode cX7_load 54 = .ok (.iconst 1, 1) := by decide +kernel
theorem dX7_load_55 : decode cX7_load 55 = .ok (.iadd, 1) := by decide +kernel
theorem dX7_load_56 : decode cX7_load 56 = .ok (.putfield 70, 3) := by decide +kernel
theorem dX7_load_59 : decode cX7_load 59 = .ok (.iinc 3 1, 3) := by decide +kernel
theorem dX7_load_62 : decode cX7_load 62 = .ok (.goto (-47), 3) := by decide +kernel
theorem dX7_load_65 : decode cX7_load 65 = .ok (.return_, 1) := by decide +kernel
theorem dX7_firstOf_0 : decode cX7_firstOf 0 = .ok (.iconst 0, 1) := by decide +kernel
theorem dX7_firstOf_1 : decode cX7_firstOf 1 = .ok (.istore_n 2, 1) := by decide +kernel
theorem dX7_firstOf_2 : decode cX7_firstOf 2 = .ok (.iload_n 2, 1) := by decide +kernel
theorem dX7_firstOf_3 : decode cX7_firstOf 3 = .ok (.aload_n 0, 1) := by decide +kernel
theorem dX7_firstOf_4 : decode cX7_firstOf 4 = .ok (.getfield 16, 3) := by decide +kernel
theorem dX7_firstOf_7 : decode cX7_firstOf 7 = .ok (.getfield 73, 3) := by decide +kernel
theorem dX7_firstOf_10 : decode cX7_firstOf 10 = .ok (.if_icmp .ge 19, 3) := by decide +kernel
theorem dX7_firstOf_13 : decode cX7_firstOf 13 = .ok (.iload_n 1, 1) := by decide +kernel
theorem dX7_firstOf_14 : decode cX7_firstOf 14 = .ok (.iload_n 2, 1) := by decide +kernel
theorem dX7_firstOf_15 : decode cX7_firstOf 15 = .ok (.invokestatic 74, 3) := by decide +kernel
theorem dX7_firstOf_18 : decode cX7_firstOf 18 = .ok (.ifCond .eq 5, 3) := by decide +kernel
theorem dX7_firstOf_21 : decode cX7_firstOf 21 = .ok (.iload_n 2, 1) := by decide +kernel
theorem dX7_firstOf_22 : decode cX7_firstOf 22 = .ok (.ireturn, 1) := by decide +kernel
theorem dX7_firstOf_23 : decode cX7_firstOf 23 = .ok (.iinc 2 1, 3) := by decide +kernel
theorem dX7_firstOf_26 : decode cX7_firstOf 26 = .ok (.goto (-24), 3) := by decide +kernel
theorem dX7_firstOf_29 : decode cX7_firstOf 29 = .ok (.aload_n 0, 1) := by decide +kernel
theorem dX7_firstOf_30 : decode cX7_firstOf 30 = .ok (.getfield 16, 3) := by decide +kernel
theorem dX7_firstOf_33 : decode cX7_firstOf 33 = .ok (.getfield 73, 3) := by decide +kernel
theorem dX7_firstOf_36 : decode cX7_firstOf 36 = .ok (.ireturn, 1) := by decide +kernel
theorem dX7_loadEquation_0 : decode cX7_loadEquation 0 = .ok (.aload_n 1, 1) := by decide +kernel
theorem dX7_loadEquation_1 : decode cX7_loadEquation 1 = .ok (.iconst 0, 1) := by decide +kernel
theorem dX7_loadEquation_2 : decode cX7_loadEquation 2 = .ok (.iconst 2, 1) := by decide +kernel
theorem dX7_loadEquation_3 : decode cX7_loadEquation 3 = .ok (.aload_n 0, 1) := by decide +kernel
theorem dX7_loadEquation_4 : decode cX7_loadEquation 4 = .ok (.getfield 16, 3) := by decide +kernel
theorem dX7_loadEquation_7 : decode cX7_loadEquation 7 = .ok (.getfield 66, 3) := by decide +kernel
theorem dX7_loadEquation_10 : decode cX7_loadEquation 10 = .ok (.iload_n 3, 1) := by decide +kernel
theorem dX7_loadEquation_11 : decode cX7_loadEquation 11 = .ok (.iaload, 1) := by decide +kernel
theorem dX7_loadEquation_12 : decode cX7_loadEquation 12 = .ok (.aload_n 0, 1) := by decide +kernel
theorem dX7_loadEquation_13 : decode cX7_loadEquation 13 = .ok (.getfield 16, 3) := by decide +kernel
theorem dX7_loadEquation_16 : decode cX7_loadEquation 16 = .ok (.getfield 66, 3) := by decide +kernel
theorem dX7_loadEquation_19 : decode cX7_loadEquation 19 = .ok (.iload_n 2, 1) := by decide +kernel
theorem dX7_loadEquation_20 : decode cX7_loadEquation 20 = .ok (.iaload, 1) := by decide +kernel
theorem dX7_loadEquation_21 : decode cX7_loadEquation 21 = .ok (.isub, 1) := by decide +kernel
theorem dX7_loadEquation_22 : decode cX7_loadEquation 22 = .ok (.imul, 1) := by decide +kernel
theorem dX7_loadEquation_23 : decode cX7_loadEquation 23 = .ok (.i2l, 1) := by decide +kernel
theorem dX7_loadEquation_24 : decode cX7_loadEquation 24 = .ok (.lastore, 1) := by decide +kernel
theorem dX7_loadEquation_25 : decode cX7_loadEquation 25 = .ok (.aload_n 1, 1) := by decide +kernel
theorem dX7_loadEquation_26 : decode cX7_loadEquation 26 = .ok (.iconst 1, 1) := by decide +kernel
theorem dX7_loadEquation_27 : decode cX7_loadEquation 27 = .ok (.iconst 2, 1) := by decide +kernel
theorem dX7_loadEquation_28 : decode cX7_loadEquation 28 = .ok (.aload_n 0, 1) := by decide +kernel
theorem dX7_loadEquation_29 : decode cX7_loadEquation 29 = .ok (.getfield 16, 3) := by decide +kernel
theorem dX7_loadEquation_32 : decode cX7_loadEquation 32 = .ok (.getfield 68, 3) := by decide +kernel
theorem dX7_loadEquation_35 : decode cX7_loadEquation 35 = .ok (.iload_n 3, 1) := by decide +kernel
theorem dX7_loadEquation_36 : decode cX7_loadEquation 36 = .ok (.iaload, 1) := by decide +kernel
theorem dX7_loadEquation_37 : decode cX7_loadEquation 37 = .ok (.aload_n 0, 1) := by decide +kernel
theorem dX7_loadEquation_38 : decode cX7_loadEquation 38 = .ok (.getfield 16, 3) := by decide +kernel
theorem dX7_loadEquation_41 : decode cX7_loadEquation 41 = .ok (.getfield 68, 3) := by decide +kernel
theorem dX7_loadEquation_44 : decode cX7_loadEquation 44 = .ok (.iload_n 2, 1) := by decide +kernel
theorem dX7_loadEquation_45 : decode cX7_loadEquation 45 = .ok (.iaload, 1) := by decide +kernel
theorem dX7_loadEquation_46 : decode cX7_loadEquation 46 = .ok (.isub, 1) := by decide +kernel
theorem dX7_loadEquation_47 : decode cX7_loadEquation 47 = .ok (.imul, 1) := by decide +kernel
theorem dX7_loadEquation_48 : decode cX7_loadEquation 48 = .ok (.i2l, 1) := by decide +kernel
theorem dX7_loadEquation_49 : decode cX7_loadEquation 49 = .ok (.lastore, 1) := by decide +kernel
theorem dX7_loadEquation_50 : decode cX7_loadEquation 50 = .ok (.aload_n 1, 1) := by decide +kernel
theorem dX7_loadEquation_51 : decode cX7_loadEquation 51 = .ok (.iconst 2, 1) := by decide +kernel
theorem dX7_loadEquation_52 : decode cX7_loadEquation 52 = .ok (.bipush (-2), 2) := by decide +kernel
theorem dX7_loadEquation_54 : decode cX7_loadEquation 54 = .ok (.aload_n 0, 1) := by decide +kernel
theorem dX7_loadEquation_55 : decode cX7_loadEquation 55 = .ok (.getfield 16, 3) := by decide +kernel
theorem dX7_loadEquation_58 : decode cX7_loadEquation 58 = .ok (.getfield 40, 3) := by decide +kernel
theorem dX7_loadEquation_61 : decode cX7_loadEquation 61 = .ok (.iload_n 3, 1) := by decide +kernel
theorem dX7_loadEquation_62 : decode cX7_loadEquation 62 = .ok (.iaload, 1) := by decide +kernel
theorem dX7_loadEquation_63 : decode cX7_loadEquation 63 = .ok (.aload_n 0, 1) := by decide +kernel
theorem dX7_loadEquation_64 : decode cX7_loadEquation 64 = .ok (.getfield 16, 3) := by decide +kernel
theorem dX7_loadEquation_67 : decode cX7_loadEquation 67 = .ok (.getfield 40, 3) := by decide +kernel
theorem dX7_loadEquation_70 : decode cX7_loadEquation 70 = .ok (.iload_n 2, 1) := by decide +kernel
theorem dX7_loadEquation_71 : decode cX7_loadEquation 71 = .ok (.iaload, 1) := by decide +kernel
theorem dX7_loadEquation_72 : decode cX7_loadEquation 72 = .ok (.isub, 1) := by decide +kernel
theorem dX7_loadEquation_73 : decode cX7_loadEquation 73 = .ok (.imul, 1) := by decide +kernel
theorem dX7_loadEquation_74 : decode cX7_loadEquation 74 = .ok (.i2l, 1) := by decide +kernel
theorem dX7_loadEquation_75 : decode cX7_loadEquation 75 = .ok (.lastore, 1) := by decide +kernel
theorem dX7_loadEquation_76 : decode cX7_loadEquation 76 = .ok (.aload_n 1, 1) := by decide +kernel
theorem dX7_loadEquation_77 : decode cX7_loadEquation 77 = .ok (.iconst 3, 1) := by decide +kernel
theorem dX7_loadEquation_78 : decode cX7_loadEquation 78 = .ok (.aload_n 0, 1) := by decide +kernel
theorem dX7_loadEquation_79 : decode cX7_loadEquation 79 = .ok (.iload_n 3, 1) := by decide +kernel
theorem dX7_loadEquation_80 : decode cX7_loadEquation 80 = .ok (.invokevirtual 82, 3) := by decide +kernel
theorem dX7_loadEquation_83 : decode cX7_loadEquation 83 = .ok (.aload_n 0, 1) := by decide +kernel
theorem dX7_loadEquation_84 : decode cX7_loadEquation 84 = .ok (.iload_n 2, 1) := by decide +kernel
theorem dX7_loadEquation_85 : decode cX7_loadEquation 85 = .ok (.invokevirtual 82, 3) := by decide +kernel
theorem dX7_loadEquation_88 : decode cX7_loadEquation 88 = .ok (.isub, 1) := by decide +kernel
theorem dX7_loadEquation_89 : decode cX7_loadEquation 89 = .ok (.i2l, 1) := by decide +kernel
theorem dX7_loadEquation_90 : decode cX7_loadEquation 90 = .ok (.lastore, 1) := by decide +kernel
theorem dX7_loadEquation_91 : decode cX7_loadEquation 91 = .ok (.return_, 1) := by decide +kernel
theorem dX7_squares_0 : decode cX7_squares 0 = .ok (.aload_n 0, 1) := by decide +kernel
theorem dX7_squares_1 : decode cX7_squares 1 = .ok (.getfield 16, 3) := by decide +kernel
theorem dX7_squares_4 : decode cX7_squares 4 = .ok (.getfield 66, 3) := by decide +kernel
theorem dX7_squares_7 : decode cX7_squares 7 = .ok (.iload_n 1, 1) := by decide +kernel
theorem dX7_squares_8 : decode cX7_squares 8 = .ok (.iaload, 1) := by decide +kernel
theorem dX7_squares_9 : decode cX7_squares 9 = .ok (.aload_n 0, 1) := by decide +kernel
theorem dX7_squares_10 : decode cX7_squares 10 = .ok (.getfield 16, 3) := by decide +kernel
theorem dX7_squares_13 : decode cX7_squares 13 = .ok (.getfield 66, 3) := by decide +kernel
theorem dX7_squares_16 : decode cX7_squares 16 = .ok (.iload_n 1, 1) := by decide +kernel
theorem dX7_squares_17 : decode cX7_squares 17 = .ok (.iaload, 1) := by decide +kernel
theorem dX7_squares_18 : decode cX7_squares 18 = .ok (.imul, 1) := by decide +kernel
theorem dX7_squares_19 : decode cX7_squares 19 = .ok (.aload_n 0, 1) := by decide +kernel
theorem dX7_squares_20 : decode cX7_squares 20 = .ok (.getfield 16, 3) := by decide +kernel
theorem dX7_squares_23 : decode cX7_squares 23 = .ok (.getfield 68, 3) := by decide +kernel
theorem dX7_squares_26 : decode cX7_squares 26 = .ok (.iload_n 1, 1) := by decide +kernel
theorem dX7_squares_27 : decode cX7_squares 27 = .ok (.iaload, 1) := by decide +kernel
theorem dX7_squares_28 : decode cX7_squares 28 = .ok (.aload_n 0, 1) := by decide +kernel
theorem dX7_squares_29 : decode cX7_squares 29 = .ok (.getfield 16, 3) := by decide +kernel
theorem dX7_squares_32 : decode cX7_squares 32 = .ok (.getfield 68, 3) := by decide +kernel
theorem dX7_squares_35 : decode cX7_squares 35 = .ok (.iload_n 1, 1) := by decide +kernel
theorem dX7_squares_36 : decode cX7_squares 36 = .ok (.iaload, 1) := by decide +kernel
theorem dX7_squares_37 : decode cX7_squares 37 = .ok (.imul, 1) := by decide +kernel
theorem dX7_squares_38 : decode cX7_squares 38 = .ok (.iadd, 1) := by decide +kernel
theorem dX7_squares_39 : decode cX7_squares 39 = .ok (.aload_n 0, 1) := by decide +kernel
theorem dX7_squares_40 : decode cX7_squares 40 = .ok (.getfield 16, 3) := by decide +kernel
theorem dX7_squares_43 : decode cX7_squares 43 = .ok (.getfield 40, 3) := by decide +kernel
theorem dX7_squares_46 : decode cX7_squares 46 = .ok (.iload_n 1, 1) := by decide +kernel
theorem dX7_squares_47 : decode cX7_squares 47 = .ok (.iaload, 1) := by decide +kernel
theorem dX7_squares_48 : decode cX7_squares 48 = .ok (.aload_n 0, 1) := by decide +kernel
theorem dX7_squares_49 : decode cX7_squares 49 = .ok (.getfield 16, 3) := by decide +kernel
theorem dX7_squares_52 : decode cX7_squares 52 = .ok (.getfield 40, 3) := by decide +kernel
theorem dX7_squares_55 : decode cX7_squares 55 = .ok (.iload_n 1, 1) := by decide +kernel
theorem dX7_squares_56 : decode cX7_squares 56 = .ok (.iaload, 1) := by decide +kernel
theorem dX7_squares_57 : decode cX7_squares 57 = .ok (.imul, 1) := by decide +kernel
theorem dX7_squares_58 : decode cX7_squares 58 = .ok (.isub, 1) := by decide +kernel
theorem dX7_squares_59 : decode cX7_squares 59 = .ok (.ireturn, 1) := by decide +kernel
theorem dX7_eliminate_0 : decode cX7_eliminate 0 = .ok (.aload_n 0, 1) := by decide +kernel
theorem dX7_eliminate_1 : decode cX7_eliminate 1 = .ok (.iconst 0, 1) := by decide +kernel
theorem dX7_eliminate_2 : decode cX7_eliminate 2 = .ok (.putfield 28, 3) := by decide +kernel
theorem dX7_eliminate_5 : decode cX7_eliminate 5 = .ok (.lconst 1, 1) := by decide +kernel
theorem dX7_eliminate_6 : decode cX7_eliminate 6 = .ok (.lstore_n 1, 1) := by decide +kernel
theorem dX7_eliminate_7 : decode cX7_eliminate 7 = .ok (.iconst 0, 1) := by decide +kernel
theorem dX7_eliminate_8 : decode cX7_eliminate 8 = .ok (.istore_n 3, 1) := by decide +kernel
theorem dX7_eliminate_9 : decode cX7_eliminate 9 = .ok (.iload_n 3, 1) := by decide +kernel
theorem dX7_eliminate_10 : decode cX7_eliminate 10 = .ok (.iconst 3, 1) := by decide +kernel
theorem dX7_eliminate_11 : decode cX7_eliminate 11 = .ok (.if_icmp .ge 101, 3) := by decide +kernel
theorem dX7_eliminate_14 : decode cX7_eliminate 14 = .ok (.aload_n 0, 1) := by decide +kernel
theorem dX7_eliminate_15 : decode cX7_eliminate 15 = .ok (.iload_n 3, 1) := by decide +kernel
theorem dX7_eliminate_16 : decode cX7_eliminate 16 = .ok (.invokevirtual 85, 3) := by decide +kernel
theorem dX7_eliminate_19 : decode cX7_eliminate 19 = .ok (.istore 4, 2) := by decide +kernel
theorem dX7_eliminate_21 : decode cX7_eliminate 21 = .ok (.iload 4, 2) := by decide +kernel
theorem dX7_eliminate_23 : decode cX7_eliminate 23 = .ok (.ifCond .lt 83, 3) := by decide +kernel
theorem dX7_eliminate_26 : decode cX7_eliminate 26 = .ok (.aload_n 0, 1) := by decide +kernel
theorem dX7_eliminate_27 : decode cX7_eliminate 27 = .ok (.aload_n 0, 1) := by decide +kernel
theorem dX7_eliminate_28 : decode cX7_eliminate 28 = .ok (.getfield 28, 3) := by decide +kernel
theorem dX7_eliminate_31 : decode cX7_eliminate 31 = .ok (.iload 4, 2) := by decide +kernel
theorem dX7_eliminate_33 : decode cX7_eliminate 33 = .ok (.invokevirtual 88, 3) := by decide +kernel
theorem dX7_eliminate_36 : decode cX7_eliminate 36 = .ok (.iconst 0, 1) := by decide +kernel
theorem dX7_eliminate_37 : decode cX7_eliminate 37 = .ok (.istore 5, 2) := by decide +kernel
theorem dX7_eliminate_39 : decode cX7_eliminate 39 = .ok (.iload 5, 2) := by decide +kernel
theorem dX7_eliminate_41 : decode cX7_eliminate 41 = .ok (.aload_n 0, 1) := by decide +kernel
theorem dX7_eliminate_42 : decode cX7_eliminate 42 = .ok (.getfield 70, 3) := by decide +kernel
theorem dX7_eliminate_45 : decode cX7_eliminate 45 = .ok (.if_icmp .ge 39, 3) := by decide +kernel
theorem dX7_eliminate_48 : decode cX7_eliminate 48 = .ok (.iload 5, 2) := by decide +kernel
theorem dX7_eliminate_50 : decode cX7_eliminate 50 = .ok (.aload_n 0, 1) := by decide +kernel
theorem dX7_eliminate_51 : decode cX7_eliminate 51 = .ok (.getfield 28, 3) := by decide +kernel
theorem dX7_eliminate_54 : decode cX7_eliminate 54 = .ok (.if_icmp .eq 24, 3) := by decide +kernel
theorem dX7_eliminate_57 : decode cX7_eliminate 57 = .ok (.aload_n 0, 1) := by decide +kernel
theorem dX7_eliminate_58 : decode cX7_eliminate 58 = .ok (.getfield 13, 3) := by decide +kernel
theorem dX7_eliminate_61 : decode cX7_eliminate 61 = .ok (.iload 5, 2) := by decide +kernel
theorem dX7_eliminate_63 : decode cX7_eliminate 63 = .ok (.aaload, 1) := by decide +kernel
theorem dX7_eliminate_64 : decode cX7_eliminate 64 = .ok (.aload_n 0, 1) := by decide +kernel
theorem dX7_eliminate_65 : decode cX7_eliminate 65 = .ok (.getfield 13, 3) := by decide +kernel
theorem dX7_eliminate_68 : decode cX7_eliminate 68 = .ok (.aload_n 0, 1) := by decide +kernel
theorem dX7_eliminate_69 : decode cX7_eliminate 69 = .ok (.getfield 28, 3) := by decide +kernel
theorem dX7_eliminate_72 : decode cX7_eliminate 72 = .ok (.aaload, 1) := by decide +kernel
theorem dX7_eliminate_73 : decode cX7_eliminate 73 = .ok (.iload_n 3, 1) := by decide +kernel
theorem dX7_eliminate_74 : decode cX7_eliminate 74 = .ok (.lload_n 1, 1) := by decide +kernel
theorem dX7_eliminate_75 : decode cX7_eliminate 75 = .ok (.invokestatic 92, 3) := by decide +kernel
theorem dX7_eliminate_78 : decode cX7_eliminate 78 = .ok (.iinc 5 1, 3) := by decide +kernel
theorem dX7_eliminate_81 : decode cX7_eliminate 81 = .ok (.goto (-42), 3) := by decide +kernel
theorem dX7_eliminate_84 : decode cX7_eliminate 84 = .ok (.aload_n 0, 1) := by decide +kernel
theorem dX7_eliminate_85 : decode cX7_eliminate 85 = .ok (.getfield 13, 3) := by decide +kernel
theorem dX7_eliminate_88 : decode cX7_eliminate 88 = .ok (.aload_n 0, 1) := by decide +kernel
theorem dX7_eliminate_89 : decode cX7_eliminate 89 = .ok (.getfield 28, 3) := by decide +kernel
theorem dX7_eliminate_92 : decode cX7_eliminate 92 = .ok (.aaload, 1) := by decide +kernel
theorem dX7_eliminate_93 : decode cX7_eliminate 93 = .ok (.iload_n 3, 1) := by decide +kernel
theorem dX7_eliminate_94 : decode cX7_eliminate 94 = .ok (.laload, 1) := by decide +kernel
theorem dX7_eliminate_95 : decode cX7_eliminate 95 = .ok (.lstore_n 1, 1) := by decide +kernel
theorem dX7_eliminate_96 : decode cX7_eliminate 96 = .ok (.aload_n 0, 1) := by decide +kernel
theorem dX7_eliminate_97 : decode cX7_eliminate 97 = .ok (.dup, 1) := by decide +kernel
theorem dX7_eliminate_98 : decode cX7_eliminate 98 = .ok (.getfield 28, 3) := by decide +kernel
theorem dX7_eliminate_101 : decode cX7_eliminate 101 = .ok (.iconst 1, 1) := by decide +kernel
theorem dX7_eliminate_102 : decode cX7_eliminate 102 = .ok (.iadd, 1) := by decide +kernel
theorem dX7_eliminate_103 : decode cX7_eliminate 103 = .ok (.putfield 28, 3) := by decide +kernel
theorem dX7_eliminate_106 : decode cX7_eliminate 106 = .ok (.iinc 3 1, 3) := by decide +kernel
theorem dX7_eliminate_109 : decode cX7_eliminate 109 = .ok (.goto (-100), 3) := by decide +kernel
theorem dX7_eliminate_112 : decode cX7_eliminate 112 = .ok (.return_, 1) := by decide +kernel
theorem dX7_pivotOf_0 : decode cX7_pivotOf 0 = .ok (.aload_n 0, 1) := by decide +kernel
theorem dX7_pivotOf_1 : decode cX7_pivotOf 1 = .ok (.getfield 28, 3) := by decide +kernel
theorem dX7_pivotOf_4 : decode cX7_pivotOf 4 = .ok (.istore_n 2, 1) := by decide +kernel
theorem dX7_pivotOf_5 : decode cX7_pivotOf 5 = .ok (.iload_n 2, 1) := by decide +kernel
theorem dX7_pivotOf_6 : decode cX7_pivotOf 6 = .ok (.aload_n 0, 1) := by decide +kernel
theorem dX7_pivotOf_7 : decode cX7_pivotOf 7 = .ok (.getfield 70, 3) := by decide +kernel
theorem dX7_pivotOf_10 : decode cX7_pivotOf 10 = .ok (.if_icmp .ge 24, 3) := by decide +kernel
theorem dX7_pivotOf_13 : decode cX7_pivotOf 13 = .ok (.aload_n 0, 1) := by decide +kernel
theorem dX7_pivotOf_14 : decode cX7_pivotOf 14 = .ok (.getfield 13, 3) := by decide +kernel
theorem dX7_pivotOf_17 : decode cX7_pivotOf 17 = .ok (.iload_n 2, 1) := by decide +kernel
theorem dX7_pivotOf_18 : decode cX7_pivotOf 18 = .ok (.aaload, 1) := by decide +kernel
theorem dX7_pivotOf_19 : decode cX7_pivotOf 19 = .ok (.iload_n 1, 1) := by decide +kernel
theorem dX7_pivotOf_20 : decode cX7_pivotOf 20 = .ok (.laload, 1) := by decide +kernel
theorem dX7_pivotOf_21 : decode cX7_pivotOf 21 = .ok (.lconst 0, 1) := by decide +kernel
theorem dX7_pivotOf_22 : decode cX7_pivotOf 22 = .ok (.lcmp, 1) := by decide +kernel
theorem dX7_pivotOf_23 : decode cX7_pivotOf 23 = .ok (.ifCond .eq 5, 3) := by decide +kernel
theorem dX7_pivotOf_26 : decode cX7_pivotOf 26 = .ok (.iload_n 2, 1) := by decide +kernel
theorem dX7_pivotOf_27 : decode cX7_pivotOf 27 = .ok (.ireturn, 1) := by decide +kernel
theorem dX7_pivotOf_28 : decode cX7_pivotOf 28 = .ok (.iinc 2 1, 3) := by decide +kernel
theorem dX7_pivotOf_31 : decode cX7_pivotOf 31 = .ok (.goto (-26), 3) := by decide +kernel
theorem dX7_pivotOf_34 : decode cX7_pivotOf 34 = .ok (.iconst (-1), 1) := by decide +kernel
theorem dX7_pivotOf_35 : decode cX7_pivotOf 35 = .ok (.ireturn, 1) := by decide +kernel
theorem dX7_swap_0 : decode cX7_swap 0 = .ok (.iconst 0, 1) := by decide +kernel
theorem dX7_swap_1 : decode cX7_swap 1 = .ok (.istore_n 3, 1) := by decide +kernel
theorem dX7_swap_2 : decode cX7_swap 2 = .ok (.iload_n 3, 1) := by decide +kernel
theorem dX7_swap_3 : decode cX7_swap 3 = .ok (.iconst 3, 1) := by decide +kernel
theorem dX7_swap_4 : decode cX7_swap 4 = .ok (.if_icmp .gt 45, 3) := by decide +kernel
theorem dX7_swap_7 : decode cX7_swap 7 = .ok (.aload_n 0, 1) := by decide +kernel
theorem dX7_swap_8 : decode cX7_swap 8 = .ok (.getfield 13, 3) := by decide +kernel
theorem dX7_swap_11 : decode cX7_swap 11 = .ok (.iload_n 1, 1) := by decide +kernel
theorem dX7_swap_12 : decode cX7_swap 12 = .ok (.aaload, 1) := by decide +kernel
theorem dX7_swap_13 : decode cX7_swap 13 = .ok (.iload_n 3, 1) := by decide +kernel
theorem dX7_swap_14 : decode cX7_swap 14 = .ok (.laload, 1) := by decide +kernel
theorem dX7_swap_15 : decode cX7_swap 15 = .ok (.lstore 4, 2) := by decide +kernel
theorem dX7_swap_17 : decode cX7_swap 17 = .ok (.aload_n 0, 1) := by decide +kernel
theorem dX7_swap_18 : decode cX7_swap 18 = .ok (.getfield 13, 3) := by decide +kernel
theorem dX7_swap_21 : decode cX7_swap 21 = .ok (.iload_n 1, 1) := by decide +kernel
theorem dX7_swap_22 : decode cX7_swap 22 = .ok (.aaload, 1) := by decide +kernel
theorem dX7_swap_23 : decode cX7_swap 23 = .ok (.iload_n 3, 1) := by decide +kernel
theorem dX7_swap_24 : decode cX7_swap 24 = .ok (.aload_n 0, 1) := by decide +kernel
theorem dX7_swap_25 : decode cX7_swap 25 = .ok (.getfield 13, 3) := by decide +kernel
theorem dX7_swap_28 : decode cX7_swap 28 = .ok (.iload_n 2, 1) := by decide +kernel
theorem dX7_swap_29 : decode cX7_swap 29 = .ok (.aaload, 1) := by decide +kernel
theorem dX7_swap_30 : decode cX7_swap 30 = .ok (.iload_n 3, 1) := by decide +kernel
theorem dX7_swap_31 : decode cX7_swap 31 = .ok (.laload, 1) := by decide +kernel
theorem dX7_swap_32 : decode cX7_swap 32 = .ok (.lastore, 1) := by decide +kernel
theorem dX7_swap_33 : decode cX7_swap 33 = .ok (.aload_n 0, 1) := by decide +kernel
theorem dX7_swap_34 : decode cX7_swap 34 = .ok (.getfield 13, 3) := by decide +kernel
theorem dX7_swap_37 : decode cX7_swap 37 = .ok (.iload_n 2, 1) := by decide +kernel
theorem dX7_swap_38 : decode cX7_swap 38 = .ok (.aaload, 1) := by decide +kernel
theorem dX7_swap_39 : decode cX7_swap 39 = .ok (.iload_n 3, 1) := by decide +kernel
theorem dX7_swap_40 : decode cX7_swap 40 = .ok (.lload 4, 2) := by decide +kernel
theorem dX7_swap_42 : decode cX7_swap 42 = .ok (.lastore, 1) := by decide +kernel
theorem dX7_swap_43 : decode cX7_swap 43 = .ok (.iinc 3 1, 3) := by decide +kernel
theorem dX7_swap_46 : decode cX7_swap 46 = .ok (.goto (-44), 3) := by decide +kernel
theorem dX7_swap_49 : decode cX7_swap 49 = .ok (.return_, 1) := by decide +kernel
theorem dX7_reduce_0 : decode cX7_reduce 0 = .ok (.lload_n 3, 1) := by decide +kernel
theorem dX7_reduce_1 : decode cX7_reduce 1 = .ok (.lconst 0, 1) := by decide +kernel
theorem dX7_reduce_2 : decode cX7_reduce 2 = .ok (.lcmp, 1) := by decide +kernel
theorem dX7_reduce_3 : decode cX7_reduce 3 = .ok (.ifCond .ne 4, 3) := by decide +kernel
theorem dX7_reduce_6 : decode cX7_reduce 6 = .ok (.return_, 1) := by decide +kernel
theorem dX7_reduce_7 : decode cX7_reduce 7 = .ok (.aload_n 0, 1) := by decide +kernel
theorem dX7_reduce_8 : decode cX7_reduce 8 = .ok (.iload_n 2, 1) := by decide +kernel
theorem dX7_reduce_9 : decode cX7_reduce 9 = .ok (.laload, 1) := by decide +kernel
theorem dX7_reduce_10 : decode cX7_reduce 10 = .ok (.lstore 5, 2) := by decide +kernel
theorem dX7_reduce_12 : decode cX7_reduce 12 = .ok (.aload_n 1, 1) := by decide +kernel
theorem dX7_reduce_13 : decode cX7_reduce 13 = .ok (.iload_n 2, 1) := by decide +kernel
theorem dX7_reduce_14 : decode cX7_reduce 14 = .ok (.laload, 1) := by decide +kernel
theorem dX7_reduce_15 : decode cX7_reduce 15 = .ok (.lstore 7, 2) := by decide +kernel
theorem dX7_reduce_17 : decode cX7_reduce 17 = .ok (.iconst 0, 1) := by decide +kernel
theorem dX7_reduce_18 : decode cX7_reduce 18 = .ok (.istore 9, 2) := by decide +kernel
theorem dX7_reduce_20 : decode cX7_reduce 20 = .ok (.iload 9, 2) := by decide +kernel
theorem dX7_reduce_22 : decode cX7_reduce 22 = .ok (.iconst 3, 1) := by decide +kernel
theorem dX7_reduce_23 : decode cX7_reduce 23 = .ok (.if_icmp .gt 30, 3) := by decide +kernel
theorem dX7_reduce_26 : decode cX7_reduce 26 = .ok (.aload_n 0, 1) := by decide +kernel
theorem dX7_reduce_27 : decode cX7_reduce 27 = .ok (.iload 9, 2) := by decide +kernel
theorem dX7_reduce_29 : decode cX7_reduce 29 = .ok (.lload 7, 2) := by decide +kernel
theorem dX7_reduce_31 : decode cX7_reduce 31 = .ok (.aload_n 0, 1) := by decide +kernel
theorem dX7_reduce_32 : decode cX7_reduce 32 = .ok (.iload 9, 2) := by decide +kernel
theorem dX7_reduce_34 : decode cX7_reduce 34 = .ok (.laload, 1) := by decide +kernel
theorem dX7_reduce_35 : decode cX7_reduce 35 = .ok (.lmul, 1) := by decide +kernel
theorem dX7_reduce_36 : decode cX7_reduce 36 = .ok (.lload 5, 2) := by decide +kernel
theorem dX7_reduce_38 : decode cX7_reduce 38 = .ok (.aload_n 1, 1) := by decide +kernel
theorem dX7_reduce_39 : decode cX7_reduce 39 = .ok (.iload 9, 2) := by decide +kernel
theorem dX7_reduce_41 : decode cX7_reduce 41 = .ok (.laload, 1) := by decide +kernel
theorem dX7_reduce_42 : decode cX7_reduce 42 = .ok (.lmul, 1) := by decide +kernel
theorem dX7_reduce_43 : decode cX7_reduce 43 = .ok (.lsub, 1) := by decide +kernel
theorem dX7_reduce_44 : decode cX7_reduce 44 = .ok (.lload_n 3, 1) := by decide +kernel
theorem dX7_reduce_45 : decode cX7_reduce 45 = .ok (.ldiv, 1) := by decide +kernel
theorem dX7_reduce_46 : decode cX7_reduce 46 = .ok (.lastore, 1) := by decide +kernel
theorem dX7_reduce_47 : decode cX7_reduce 47 = .ok (.iinc 9 1, 3) := by decide +kernel
theorem dX7_reduce_50 : decode cX7_reduce 50 = .ok (.goto (-30), 3) := by decide +kernel
theorem dX7_reduce_53 : decode cX7_reduce 53 = .ok (.return_, 1) := by decide +kernel
theorem dX7_agree_0 : decode cX7_agree 0 = .ok (.aload_n 0, 1) := by decide +kernel
theorem dX7_agree_1 : decode cX7_agree 1 = .ok (.getfield 28, 3) := by decide +kernel
theorem dX7_agree_4 : decode cX7_agree 4 = .ok (.istore_n 1, 1) := by decide +kernel
theorem dX7_agree_5 : decode cX7_agree 5 = .ok (.iload_n 1, 1) := by decide +kernel
theorem dX7_agree_6 : decode cX7_agree 6 = .ok (.aload_n 0, 1) := by decide +kernel
theorem dX7_agree_7 : decode cX7_agree 7 = .ok (.getfield 70, 3) := by decide +kernel
theorem dX7_agree_10 : decode cX7_agree 10 = .ok (.if_icmp .ge 24, 3) := by decide +kernel
theorem dX7_agree_13 : decode cX7_agree 13 = .ok (.aload_n 0, 1) := by decide +kernel
theorem dX7_agree_14 : decode cX7_agree 14 = .ok (.getfield 13, 3) := by decide +kernel
theorem dX7_agree_17 : decode cX7_agree 17 = .ok (.iload_n 1, 1) := by decide +kernel
theorem dX7_agree_18 : decode cX7_agree 18 = .ok (.aaload, 1) := by decide +kernel
theorem dX7_agree_19 : decode cX7_agree 19 = .ok (.iconst 3, 1) := by decide +kernel
theorem dX7_agree_20 : decode cX7_agree 20 = .ok (.laload, 1) := by decide +kernel
theorem dX7_agree_21 : decode cX7_agree 21 = .ok (.lconst 0, 1) := by decide +kernel
theorem dX7_agree_22 : decode cX7_agree 22 = .ok (.lcmp, 1) := by decide +kernel
theorem dX7_agree_23 : decode cX7_agree 23 = .ok (.ifCond .eq 5, 3) := by decide +kernel
theorem dX7_agree_26 : decode cX7_agree 26 = .ok (.iconst 0, 1) := by decide +kernel
theorem dX7_agree_27 : decode cX7_agree 27 = .ok (.ireturn, 1) := by decide +kernel
theorem dX7_agree_28 : decode cX7_agree 28 = .ok (.iinc 1 1, 3) := by decide +kernel
theorem dX7_agree_31 : decode cX7_agree 31 = .ok (.goto (-26), 3) := by decide +kernel
theorem dX7_agree_34 : decode cX7_agree 34 = .ok (.iconst 1, 1) := by decide +kernel
theorem dX7_agree_35 : decode cX7_agree 35 = .ok (.ireturn, 1) := by decide +kernel
end
section
theorem dX8_init_0 : decode cX8_init 0 = .ok (.aload_n 0, 1) := by decide +kernel
theorem dX8_init_1 : decode cX8_init 1 = .ok (.invokespecial 3, 3) := by decide +kernel
theorem dX8_init_4 : decode cX8_init 4 = .ok (.aload_n 0, 1) := by decide +kernel
theorem dX8_init_5 : decode cX8_init 5 = .ok (.bipush 110, 2) := by decide +kernel
theorem dX8_init_7 : decode cX8_init 7 = .ok (.newarray .int, 2) := by decide +kernel
theorem dX8_init_9 : decode cX8_init 9 = .ok (.putfield 9, 3) := by decide +kernel
theorem dX8_init_12 : decode cX8_init 12 = .ok (.return_, 1) := by decide +kernel
theorem dX8_append_0 : decode cX8_append 0 = .ok (.aload_n 0, 1) := by decide +kernel
theorem dX8_append_1 : decode cX8_append 1 = .ok (.getfield 15, 3) := by decide +kernel
theorem dX8_append_4 : decode cX8_append 4 = .ok (.bipush 110, 2) := by decide +kernel
theorem dX8_append_6 : decode cX8_append 6 = .ok (.if_icmp .lt 5, 3) := by decide +kernel
theorem dX8_append_9 : decode cX8_append 9 = .ok (.iconst 0, 1) := by decide +kernel
theorem dX8_append_10 : decode cX8_append 10 = .ok (.ireturn, 1) := by decide +kernel
theorem dX8_append_11 : decode cX8_append 11 = .ok (.aload_n 0, 1) := by decide +kernel
theorem dX8_append_12 : decode cX8_append 12 = .ok (.getfield 9, 3) := by decide +kernel
theorem dX8_append_15 : decode cX8_append 15 = .ok (.aload_n 0, 1) := by decide +kernel
theorem dX8_append_16 : decode cX8_append 16 = .ok (.getfield 15, 3) := by decide +kernel
theorem dX8_append_19 : decode cX8_append 19 = .ok (.iload_n 1, 1) := by decide +kernel
theorem dX8_append_20 : decode cX8_append 20 = .ok (.iastore, 1) := by decide +kernel
theorem dX8_append_21 : decode cX8_append 21 = .ok (.aload_n 0, 1) := by decide +kernel
theorem dX8_append_22 : decode cX8_append 22 = .ok (.dup, 1) := by decide +kernel
theorem dX8_append_23 : decode cX8_append 23 = .ok (.getfield 15, 3) := by decide +kernel
theorem dX8_append_26 : decode cX8_append 26 = .ok (.iconst 1, 1) := by decide +kernel
theorem dX8_append_27 : decode cX8_append 27 = .ok (.iadd, 1) := by decide +kernel
theorem dX8_append_28 : decode cX8_append 28 = .ok (.putfield 15, 3) := by decide +kernel
theorem dX8_append_31 : decode cX8_append 31 = .ok (.iconst 1, 1) := by decide +kernel
theorem dX8_append_32 : decode cX8_append 32 = .ok (.ireturn, 1) := by decide +kernel
end
section
theorem dX9_init_0 : decode cX9_init 0 = .ok (.aload_n 0, 1) := by decide +kernel
theorem dX9_init_1 : decode cX9_init 1 = .ok (.invokespecial 3, 3) := by decide +kernel
theorem dX9_init_4 : decode cX9_init 4 = .ok (.aload_n 0, 1) := by decide +kernel
theorem dX9_init_5 : decode cX9_init 5 = .ok (.new 9, 3) := by decide +kernel
theorem dX9_init_8 : decode cX9_init 8 = .ok (.dup, 1) := by decide +kernel
theorem dX9_init_9 : decode cX9_init 9 = .ok (.invokespecial 11, 3) := by decide +kernel
theorem dX9_init_12 : decode cX9_init 12 = .ok (.putfield 12, 3) := by decide +kernel
theorem dX9_init_15 : decode cX9_init 15 = .ok (.aload_n 0, 1) := by decide +kernel
theorem dX9_init_16 : decode cX9_init 16 = .ok (.new 16, 3) := by decide +kernel
theorem dX9_init_19 : decode cX9_init 19 = .ok (.dup, 1) := by decide +kernel
theorem dX9_init_20 : decode cX9_init 20 = .ok (.invokespecial 18, 3) := by decide +kernel
theorem dX9_init_23 : decode cX9_init 23 = .ok (.putfield 19, 3) := by decide +kernel
theorem dX9_init_26 : decode cX9_init 26 = .ok (.aload_n 0, 1) := by decide +kernel
theorem dX9_init_27 : decode cX9_init 27 = .ok (.new 23, 3) := by decide +kernel
theorem dX9_init_30 : decode cX9_init 30 = .ok (.dup, 1) := by decide +kernel
theorem dX9_init_31 : decode cX9_init 31 = .ok (.invokespecial 25, 3) := by decide +kernel
theorem dX9_init_34 : decode cX9_init 34 = .ok (.putfield 26, 3) := by decide +kernel
theorem dX9_init_37 : decode cX9_init 37 = .ok (.aload_n 0, 1) := by decide +kernel
theorem dX9_init_38 : decode cX9_init 38 = .ok (.new 30, 3) := by decide +kernel
theorem dX9_init_41 : decode cX9_init 41 = .ok (.dup, 1) := by decide +kernel
theorem dX9_init_42 : decode cX9_init 42 = .ok (.invokespecial 32, 3) := by decide +kernel
theorem dX9_init_45 : decode cX9_init 45 = .ok (.putfield 33, 3) := by decide +kernel
theorem dX9_init_48 : decode cX9_init 48 = .ok (.aload_n 0, 1) := by decide +kernel
theorem dX9_init_49 : decode cX9_init 49 = .ok (.new 37, 3) := by decide +kernel
theorem dX9_init_52 : decode cX9_init 52 = .ok (.dup, 1) := by decide +kernel
theorem dX9_init_53 : decode cX9_init 53 = .ok (.invokespecial 39, 3) := by decide +kernel
theorem dX9_init_56 : decode cX9_init 56 = .ok (.putfield 40, 3) := by decide +kernel
theorem dX9_init_59 : decode cX9_init 59 = .ok (.aload_n 0, 1) := by decide +kernel
theorem dX9_init_60 : decode cX9_init 60 = .ok (.iconst 2, 1) := by decide +kernel
theorem dX9_init_61 : decode cX9_init 61 = .ok (.anewarray 30, 3) := by decide +kernel
theorem dX9_init_64 : decode cX9_init 64 = .ok (.putfield 44, 3) := by decide +kernel
theorem dX9_init_67 : decode cX9_init 67 = .ok (.aload_n 0, 1) := by decide +kernel
theorem dX9_init_68 : decode cX9_init 68 = .ok (.iconst 2, 1) := by decide +kernel
theorem dX9_init_69 : decode cX9_init 69 = .ok (.newarray .boolean, 2) := by decide +kernel
theorem dX9_init_71 : decode cX9_init 71 = .ok (.putfield 48, 3) := by decide +kernel
theorem dX9_init_74 : decode cX9_init 74 = .ok (.aload_n 0, 1) := by decide +kernel
theorem dX9_init_75 : decode cX9_init 75 = .ok (.new 52, 3) := by decide +kernel
theorem dX9_init_78 : decode cX9_init 78 = .ok (.dup, 1) := by decide +kernel
theorem dX9_init_79 : decode cX9_init 79 = .ok (.invokespecial 54, 3) := by decide +kernel
theorem dX9_init_82 : decode cX9_init 82 = .ok (.putfield 55, 3) := by decide +kernel
theorem dX9_init_85 : decode cX9_init 85 = .ok (.aload_n 0, 1) := by decide +kernel
theorem dX9_init_86 : decode cX9_init 86 = .ok (.new 59, 3) := by decide +kernel
theorem dX9_init_89 : decode cX9_init 89 = .ok (.dup, 1) := by decide +kernel
theorem dX9_init_90 : decode cX9_init 90 = .ok (.invokespecial 61, 3) := by decide +kernel
theorem dX9_init_93 : decode cX9_init 93 = .ok (.putfield 62, 3) := by decide +kernel
theorem dX9_init_96 : decode cX9_init 96 = .ok (.aload_n 0, 1) := by decide +kernel
theorem dX9_init_97 : decode cX9_init 97 = .ok (.new 66, 3) := by decide +kernel
theorem dX9_init_100 : decode cX9_init 100 = .ok (.dup, 1) := by decide +kernel
theorem dX9_init_101 : decode cX9_init 101 = .ok (.aload_n 0, 1) := by decide +kernel
theorem dX9_init_102 : decode cX9_init 102 = .ok (.getfield 55, 3) := by decide +kernel
theorem dX9_init_105 : decode cX9_init 105 = .ok (.invokespecial 68, 3) := by decide +kernel
theorem dX9_init_108 : decode cX9_init 108 = .ok (.putfield 71, 3) := by decide +kernel
theorem dX9_init_111 : decode cX9_init 111 = .ok (.aload_n 0, 1) := by decide +kernel
theorem dX9_init_112 : decode cX9_init 112 = .ok (.new 75, 3) := by decide +kernel
theorem dX9_init_115 : decode cX9_init 115 = .ok (.dup, 1) := by decide +kernel
theorem dX9_init_116 : decode cX9_init 116 = .ok (.aload_n 0, 1) := by decide +kernel
theorem dX9_init_117 : decode cX9_init 117 = .ok (.getfield 55, 3) := by decide +kernel
theorem dX9_init_120 : decode cX9_init 120 = .ok (.aload_n 0, 1) := by decide +kernel
theorem dX9_init_121 : decode cX9_init 121 = .ok (.getfield 71, 3) := by decide +kernel
theorem dX9_init_124 : decode cX9_init 124 = .ok (.invokespecial 77, 3) := by decide +kernel
theorem dX9_init_127 : decode cX9_init 127 = .ok (.putfield 80, 3) := by decide +kernel
theorem dX9_init_130 : decode cX9_init 130 = .ok (.iconst 0, 1) := by decide +kernel
theorem dX9_init_131 : decode cX9_init 131 = .ok (.istore_n 1, 1) := by decide +kernel
theorem dX9_init_132 : decode cX9_init 132 = .ok (.iload_n 1, 1) := by decide +kernel
theorem dX9_init_133 : decode cX9_init 133 = .ok (.iconst 2, 1) := by decide +kernel
theorem dX9_init_134 : decode cX9_init 134 = .ok (.if_icmp .ge 22, 3) := by decide +kernel
theorem dX9_init_137 : decode cX9_init 137 = .ok (.aload_n 0, 1) := by decide +kernel
theorem dX9_init_138 : decode cX9_init 138 = .ok (.getfield 44, 3) := by decide +kernel
theorem dX9_init_141 : decode cX9_init 141 = .ok (.iload_n 1, 1) := by decide +kernel
theorem dX9_init_142 : decode cX9_init 142 = .ok (.new 30, 3) := by decide +kernel
theorem dX9_init_145 : decode cX9_init 145 = .ok (.dup, 1) := by decide +kernel
theorem dX9_init_146 : decode cX9_init 146 = .ok (.invokespecial 32, 3) := by decide +kernel
theorem dX9_init_149 : decode cX9_init 149 = .ok (.aastore, 1) := by decide +kernel
theorem dX9_init_150 : decode cX9_init 150 = .ok (.iinc 1 1, 3) := by decide +kernel
theorem dX9_init_153 : decode cX9_init 153 = .ok (.goto (-21), 3) := by decide +kernel
theorem dX9_init_156 : decode cX9_init 156 = .ok (.return_, 1) := by decide +kernel
theorem dX9_type_0 : decode cX9_type 0 = .ok (.iload_n 1, 1) := by decide +kernel
theorem dX9_type_1 : decode cX9_type 1 = .ok (.sipush 255, 3) := by decide +kernel
theorem dX9_type_4 : decode cX9_type 4 = .ok (.invokestatic 84, 3) := by decide +kernel
theorem dX9_type_7 : decode cX9_type 7 = .ok (.ifCond .ne 5, 3) := by decide +kernel
theorem dX9_type_10 : decode cX9_type 10 = .ok (.iconst (-1), 1) := by decide +kernel
theorem dX9_type_11 : decode cX9_type 11 = .ok (.ireturn, 1) := by decide +kernel
theorem dX9_type_12 : decode cX9_type 12 = .ok (.aload_n 0, 1) := by decide +kernel
theorem dX9_type_13 : decode cX9_type 13 = .ok (.getfield 12, 3) := by decide +kernel
theorem dX9_type_16 : decode cX9_type 16 = .ok (.iload_n 1, 1) := by decide +kernel
theorem dX9_type_17 : decode cX9_type 17 = .ok (.invokevirtual 88, 3) := by decide +kernel
theorem dX9_type_20 : decode cX9_type 20 = .ok (.ifCond .eq 13, 3) := by decide +kernel
theorem dX9_type_23 : decode cX9_type 23 = .ok (.aload_n 0, 1) := by decide +kernel
theorem dX9_type_24 : decode cX9_type 24 = .ok (.getfield 12, 3) := by decide +kernel
theorem dX9_type_27 : decode cX9_type 27 = .ok (.getfield 92, 3) := by decide +kernel
theorem dX9_type_30 : decode cX9_type 30 = .ok (.goto 5, 3) := by decide +kernel
theorem dX9_type_33 : decode cX9_type 33 = .ok (.bipush (-3), 2) := by decide +kernel
theorem dX9_type_35 : decode cX9_type 35 = .ok (.ireturn, 1) := by decide +kernel
theorem dX9_clear_0 : decode cX9_clear 0 = .ok (.aload_n 0, 1) := by decide +kernel
theorem dX9_clear_1 : decode cX9_clear 1 = .ok (.getfield 12, 3) := by decide +kernel
theorem dX9_clear_4 : decode cX9_clear 4 = .ok (.getfield 92, 3) := by decide +kernel
theorem dX9_clear_7 : decode cX9_clear 7 = .ok (.istore_n 1, 1) := by decide +kernel
theorem dX9_clear_8 : decode cX9_clear 8 = .ok (.aload_n 0, 1) := by decide +kernel
theorem dX9_clear_9 : decode cX9_clear 9 = .ok (.getfield 12, 3) := by decide +kernel
theorem dX9_clear_12 : decode cX9_clear 12 = .ok (.iconst 0, 1) := by decide +kernel
theorem dX9_clear_13 : decode cX9_clear 13 = .ok (.putfield 92, 3) := by decide +kernel
theorem dX9_clear_16 : decode cX9_clear 16 = .ok (.iload_n 1, 1) := by decide +kernel
theorem dX9_clear_17 : decode cX9_clear 17 = .ok (.ireturn, 1) := by decide +kernel
theorem dX9_field_0 : decode cX9_field 0 = .ok (.aload_n 0, 1) := by decide +kernel
theorem dX9_field_1 : decode cX9_field 1 = .ok (.getfield 19, 3) := by decide +kernel
theorem dX9_field_4 : decode cX9_field 4 = .ok (.aload_n 0, 1) := by decide +kernel
theorem dX9_field_5 : decode cX9_field 5 = .ok (.getfield 12, 3) := by decide +kernel
theorem dX9_field_8 : decode cX9_field 8 = .ok (.invokevirtual 96, 3) := by decide +kernel
theorem dX9_field_11 : decode cX9_field 11 = .ok (.istore_n 1, 1) := by decide +kernel
theorem dX9_field_12 : decode cX9_field 12 = .ok (.iload_n 1, 1) := by decide +kernel
theorem dX9_field_13 : decode cX9_field 13 = .ok (.iconst (-1), 1) := by decide +kernel
theorem dX9_field_14 : decode cX9_field 14 = .ok (.if_icmp .eq 8, 3) := by decide +kernel
theorem dX9_field_17 : decode cX9_field 17 = .ok (.bipush (-10), 2) := by decide +kernel
theorem dX9_field_19 : decode cX9_field 19 = .ok (.iload_n 1, 1) := by decide +kernel
theorem dX9_field_20 : decode cX9_field 20 = .ok (.isub, 1) := by decide +kernel
theorem dX9_field_21 : decode cX9_field 21 = .ok (.ireturn, 1) := by decide +kernel
theorem dX9_field_22 : decode cX9_field 22 = .ok (.aload_n 0, 1) := by decide +kernel
theorem dX9_field_23 : decode cX9_field 23 = .ok (.getfield 26, 3) := by decide +kernel
theorem dX9_field_26 : decode cX9_field 26 = .ok (.aload_n 0, 1) := by decide +kernel
theorem dX9_field_27 : decode cX9_field 27 = .ok (.getfield 19, 3) := by decide +kernel
theorem dX9_field_30 : decode cX9_field 30 = .ok (.getfield 100, 3) := by decide +kernel
theorem dX9_field_33 : decode cX9_field 33 = .ok (.invokevirtual 101, 3) := by decide +kernel
theorem dX9_field_36 : decode cX9_field 36 = .ok (.aload_n 0, 1) := by decide +kernel
theorem dX9_field_37 : decode cX9_field 37 = .ok (.getfield 33, 3) := by decide +kernel
theorem dX9_field_40 : decode cX9_field 40 = .ok (.aload_n 0, 1) := by decide +kernel
theorem dX9_field_41 : decode cX9_field 41 = .ok (.getfield 19, 3) := by decide +kernel
theorem dX9_field_44 : decode cX9_field 44 = .ok (.getfield 105, 3) := by decide +kernel
theorem dX9_field_47 : decode cX9_field 47 = .ok (.invokevirtual 106, 3) := by decide +kernel
theorem dX9_field_50 : decode cX9_field 50 = .ok (.aload_n 0, 1) := by decide +kernel
theorem dX9_field_51 : decode cX9_field 51 = .ok (.getfield 40, 3) := by decide +kernel
theorem dX9_field_54 : decode cX9_field 54 = .ok (.iconst 0, 1) := by decide +kernel
theorem dX9_field_55 : decode cX9_field 55 = .ok (.putfield 109, 3) := by decide +kernel
theorem dX9_field_58 : decode cX9_field 58 = .ok (.iconst 0, 1) := by decide +kernel
theorem dX9_field_59 : decode cX9_field 59 = .ok (.istore_n 2, 1) := by decide +kernel
theorem dX9_field_60 : decode cX9_field 60 = .ok (.iload_n 2, 1) := by decide +kernel
theorem dX9_field_61 : decode cX9_field 61 = .ok (.iconst 2, 1) := by decide +kernel
theorem dX9_field_62 : decode cX9_field 62 = .ok (.if_icmp .ge 16, 3) := by decide +kernel
theorem dX9_field_65 : decode cX9_field 65 = .ok (.aload_n 0, 1) := by decide +kernel
theorem dX9_field_66 : decode cX9_field 66 = .ok (.getfield 48, 3) := by decide +kernel
theorem dX9_field_69 : decode cX9_field 69 = .ok (.iload_n 2, 1) := by decide +kernel
theorem dX9_field_70 : decode cX9_field 70 = .ok (.iconst 0, 1) := by decide +kernel
theorem dX9_field_71 : decode cX9_field 71 = .ok (.bastore, 1) := by decide +kernel
theorem dX9_field_72 : decode cX9_field 72 = .ok (.iinc 2 1, 3) := by decide +kernel
theorem dX9_field_75 : decode cX9_field 75 = .ok (.goto (-15), 3) := by decide +kernel
theorem dX9_field_78 : decode cX9_field 78 = .ok (.aload_n 0, 1) := by decide +kernel
theorem dX9_field_79 : decode cX9_field 79 = .ok (.getfield 12, 3) := by decide +kernel
theorem dX9_field_82 : decode cX9_field 82 = .ok (.iconst 0, 1) := by decide +kernel
theorem dX9_field_83 : decode cX9_field 83 = .ok (.putfield 92, 3) := by decide +kernel
theorem dX9_field_86 : decode cX9_field 86 = .ok (.aload_n 0, 1) := by decide +kernel
theorem dX9_field_87 : decode cX9_field 87 = .ok (.getfield 19, 3) := by decide +kernel
theorem dX9_field_90 : decode cX9_field 90 = .ok (.getfield 110, 3) := by decide +kernel
theorem dX9_field_93 : decode cX9_field 93 = .ok (.ireturn, 1) := by decide +kernel
theorem dX9_station_0 : decode cX9_station 0 = .ok (.aload_n 0, 1) := by decide +kernel
theorem dX9_station_1 : decode cX9_station 1 = .ok (.iload_n 1, 1) := by decide +kernel
theorem dX9_station_2 : decode cX9_station 2 = .ok (.invokevirtual 113, 3) := by decide +kernel
theorem dX9_station_5 : decode cX9_station 5 = .ok (.ifCond .eq 11, 3) := by decide +kernel
theorem dX9_station_8 : decode cX9_station 8 = .ok (.iload_n 2, 1) := by decide +kernel
theorem dX9_station_9 : decode cX9_station 9 = .ok (.iconst 2, 1) := by decide +kernel
theorem dX9_station_10 : decode cX9_station 10 = .ok (.invokestatic 84, 3) := by decide +kernel
theorem dX9_station_13 : decode cX9_station 13 = .ok (.ifCond .ne 5, 3) := by decide +kernel
theorem dX9_station_16 : decode cX9_station 16 = .ok (.iconst (-1), 1) := by decide +kernel
theorem dX9_station_17 : decode cX9_station 17 = .ok (.ireturn, 1) := by decide +kernel
theorem dX9_station_18 : decode cX9_station 18 = .ok (.iload_n 2, 1) := by decide +kernel
theorem dX9_station_19 : decode cX9_station 19 = .ok (.lookupswitch 45 #[(0, 25), (1, 35)], 25) := by decide +kernel
theorem dX9_station_44 : decode cX9_station 44 = .ok (.aload_n 0, 1) := by decide +kernel
theorem dX9_station_45 : decode cX9_station 45 = .ok (.getfield 26, 3) := by decide +kernel
theorem dX9_station_48 : decode cX9_station 48 = .ok (.getfield 116, 3) := by decide +kernel
theorem dX9_station_51 : decode cX9_station 51 = .ok (.iload_n 1, 1) := by decide +kernel
theorem dX9_station_52 : decode cX9_station 52 = .ok (.iaload, 1) := by decide +kernel
theorem dX9_station_53 : decode cX9_station 53 = .ok (.ireturn, 1) := by decide +kernel
theorem dX9_station_54 : decode cX9_station 54 = .ok (.aload_n 0, 1) := by decide +kernel
theorem dX9_station_55 : decode cX9_station 55 = .ok (.getfield 26, 3) := by decide +kernel
theorem dX9_station_58 : decode cX9_station 58 = .ok (.getfield 120, 3) := by decide +kernel
theorem dX9_station_61 : decode cX9_station 61 = .ok (.iload_n 1, 1) := by decide +kernel
theorem dX9_station_62 : decode cX9_station 62 = .ok (.iaload, 1) := by decide +kernel
theorem dX9_station_63 : decode cX9_station 63 = .ok (.ireturn, 1) := by decide +kernel
theorem dX9_station_64 : decode cX9_station 64 = .ok (.aload_n 0, 1) := by decide +kernel
theorem dX9_station_65 : decode cX9_station 65 = .ok (.getfield 33, 3) := by decide +kernel
theorem dX9_station_68 : decode cX9_station 68 = .ok (.getfield 123, 3) := by decide +kernel
theorem dX9_station_71 : decode cX9_station 71 = .ok (.iload_n 1, 1) := by decide +kernel
theorem dX9_station_72 : decode cX9_station 72 = .ok (.iaload, 1) := by decide +kernel
theorem dX9_station_73 : decode cX9_station 73 = .ok (.ireturn, 1) := by decide +kernel
theorem dX9_reading_0 : decode cX9_reading 0 = .ok (.aload_n 0, 1) := by decide +kernel
theorem dX9_reading_1 : decode cX9_reading 1 = .ok (.iload_n 1, 1) := by decide +kernel
theorem dX9_reading_2 : decode cX9_reading 2 = .ok (.invokevirtual 126, 3) := by decide +kernel
theorem dX9_reading_5 : decode cX9_reading 5 = .ok (.ifCond .eq 11, 3) := by decide +kernel
theorem dX9_reading_8 : decode cX9_reading 8 = .ok (.iload_n 2, 1) := by decide +kernel
theorem dX9_reading_9 : decode cX9_reading 9 = .ok (.iconst 3, 1) := by decide +kernel
theorem dX9_reading_10 : decode cX9_reading 10 = .ok (.invokestatic 84, 3) := by decide +kernel
theorem dX9_reading_13 : decode cX9_reading 13 = .ok (.ifCond .ne 6, 3) := by decide +kernel
theorem dX9_reading_16 : decode cX9_reading 16 = .ok (.ldc 129, 2) := by decide +kernel
theorem dX9_reading_18 : decode cX9_reading 18 = .ok (.ireturn, 1) := by decide +kernel
theorem dX9_reading_19 : decode cX9_reading 19 = .ok (.iload_n 2, 1) := by decide +kernel
theorem dX9_reading_20 : decode cX9_reading 20 = .ok (.tableswitch 78 0 2 #[28, 38, 48], 28) := by decide +kernel
theorem dX9_reading_48 : decode cX9_reading 48 = .ok (.aload_n 0, 1) := by decide +kernel
theorem dX9_reading_49 : decode cX9_reading 49 = .ok (.getfield 33, 3) := by decide +kernel
theorem dX9_reading_52 : decode cX9_reading 52 = .ok (.getfield 130, 3) := by decide +kernel
theorem dX9_reading_55 : decode cX9_reading 55 = .ok (.iload_n 1, 1) := by decide +kernel
theorem dX9_reading_56 : decode cX9_reading 56 = .ok (.iaload, 1) := by decide +kernel
theorem dX9_reading_57 : decode cX9_reading 57 = .ok (.ireturn, 1) := by decide +kernel
theorem dX9_reading_58 : decode cX9_reading 58 = .ok (.aload_n 0, 1) := by decide +kernel
theorem dX9_reading_59 : decode cX9_reading 59 = .ok (.getfield 33, 3) := by decide +kernel
theorem dX9_reading_62 : decode cX9_reading 62 = .ok (.getfield 133, 3) := by decide +kernel
theorem dX9_reading_65 : decode cX9_reading 65 = .ok (.iload_n 1, 1) := by decide +kernel
theorem dX9_reading_66 : decode cX9_reading 66 = .ok (.iaload, 1) := by decide +kernel
theorem dX9_reading_67 : decode cX9_reading 67 = .ok (.ireturn, 1) := by decide +kernel
theorem dX9_reading_68 : decode cX9_reading 68 = .ok (.aload_n 0, 1) := by decide +kernel
theorem dX9_reading_69 : decode cX9_reading 69 = .ok (.getfield 33, 3) := by decide +kernel
theorem dX9_reading_72 : decode cX9_reading 72 = .ok (.getfield 123, 3) := by decide +kernel
theorem dX9_reading_75 : decode cX9_reading 75 = .ok (.aload_n 0, 1) := by decide +kernel
theorem dX9_reading_76 : decode cX9_reading 76 = .ok (.getfield 33, 3) := by decide +kernel
theorem dX9_reading_79 : decode cX9_reading 79 = .ok (.getfield 130, 3) := by decide +kernel
theorem dX9_reading_82 : decode cX9_reading 82 = .ok (.iload_n 1, 1) := by decide +kernel
theorem dX9_reading_83 : decode cX9_reading 83 = .ok (.iaload, 1) := by decide +kernel
theorem dX9_reading_84 : decode cX9_reading 84 = .ok (.iaload, 1) := by decide +kernel
theorem dX9_reading_85 : decode cX9_reading 85 = .ok (.aload_n 0, 1) := by decide +kernel
theorem dX9_reading_86 : decode cX9_reading 86 = .ok (.getfield 33, 3) := by decide +kernel
theorem dX9_reading_89 : decode cX9_reading 89 = .ok (.getfield 133, 3) := by decide +kernel
theorem dX9_reading_92 : decode cX9_reading 92 = .ok (.iload_n 1, 1) := by decide +kernel
theorem dX9_reading_93 : decode cX9_reading 93 = .ok (.iaload, 1) := by decide +kernel
theorem dX9_reading_94 : decode cX9_reading 94 = .ok (.invokestatic 136, 3) := by decide +kernel
theorem dX9_reading_97 : decode cX9_reading 97 = .ok (.ireturn, 1) := by decide +kernel
theorem dX9_reading_98 : decode cX9_reading 98 = .ok (.aload_n 0, 1) := by decide +kernel
theorem dX9_reading_99 : decode cX9_reading 99 = .ok (.invokevirtual 140, 3) := by decide +kernel
theorem dX9_reading_102 : decode cX9_reading 102 = .ok (.aload_n 0, 1) := by decide +kernel
theorem dX9_reading_103 : decode cX9_reading 103 = .ok (.getfield 62, 3) := by decide +kernel
theorem dX9_reading_106 : decode cX9_reading 106 = .ok (.getfield 143, 3) := by decide +kernel
theorem dX9_reading_109 : decode cX9_reading 109 = .ok (.iload_n 1, 1) := by decide +kernel
theorem dX9_reading_110 : decode cX9_reading 110 = .ok (.iaload, 1) := by decide +kernel
theorem dX9_reading_111 : decode cX9_reading 111 = .ok (.ireturn, 1) := by decide +kernel
theorem dX9_hears_0 : decode cX9_hears 0 = .ok (.aload_n 0, 1) := by decide +kernel
theorem dX9_hears_1 : decode cX9_hears 1 = .ok (.iload_n 1, 1) := by decide +kernel
theorem dX9_hears_2 : decode cX9_hears 2 = .ok (.invokevirtual 113, 3) := by decide +kernel
theorem dX9_hears_5 : decode cX9_hears 5 = .ok (.ifCond .eq 12, 3) := by decide +kernel
theorem dX9_hears_8 : decode cX9_hears 8 = .ok (.iload_n 2, 1) := by decide +kernel
theorem dX9_hears_9 : decode cX9_hears 9 = .ok (.bipush 60, 2) := by decide +kernel
theorem dX9_hears_11 : decode cX9_hears 11 = .ok (.invokestatic 84, 3) := by decide +kernel
theorem dX9_hears_14 : decode cX9_hears 14 = .ok (.ifCond .ne 5, 3) := by decide +kernel
theorem dX9_hears_17 : decode cX9_hears 17 = .ok (.iconst (-1), 1) := by decide +kernel
theorem dX9_hears_18 : decode cX9_hears 18 = .ok (.ireturn, 1) := by decide +kernel
theorem dX9_hears_19 : decode cX9_hears 19 = .ok (.aload_n 0, 1) := by decide +kernel
theorem dX9_hears_20 : decode cX9_hears 20 = .ok (.getfield 33, 3) := by decide +kernel
theorem dX9_hears_23 : decode cX9_hears 23 = .ok (.getfield 146, 3) := by decide +kernel
theorem dX9_hears_26 : decode cX9_hears 26 = .ok (.bipush 9, 2) := by decide +kernel
theorem dX9_hears_28 : decode cX9_hears 28 = .ok (.if_icmp .lt 6, 3) := by decide +kernel
theorem dX9_hears_31 : decode cX9_hears 31 = .ok (.bipush (-3), 2) := by decide +kernel
theorem dX9_hears_33 : decode cX9_hears 33 = .ok (.ireturn, 1) := by decide +kernel
theorem dX9_hears_34 : decode cX9_hears 34 = .ok (.aload_n 0, 1) := by decide +kernel
theorem dX9_hears_35 : decode cX9_hears 35 = .ok (.getfield 40, 3) := by decide +kernel
theorem dX9_hears_38 : decode cX9_hears 38 = .ok (.aload_n 0, 1) := by decide +kernel
theorem dX9_hears_39 : decode cX9_hears 39 = .ok (.getfield 33, 3) := by decide +kernel
theorem dX9_hears_42 : decode cX9_hears 42 = .ok (.invokevirtual 147, 3) := by decide +kernel
theorem dX9_hears_45 : decode cX9_hears 45 = .ok (.aload_n 0, 1) := by decide +kernel
theorem dX9_hears_46 : decode cX9_hears 46 = .ok (.getfield 33, 3) := by decide +kernel
theorem dX9_hears_49 : decode cX9_hears 49 = .ok (.iload_n 1, 1) := by decide +kernel
theorem dX9_hears_50 : decode cX9_hears 50 = .ok (.iload_n 2, 1) := by decide +kernel
theorem dX9_hears_51 : decode cX9_hears 51 = .ok (.invokevirtual 150, 3) := by decide +kernel
theorem dX9_hears_54 : decode cX9_hears 54 = .ok (.aload_n 0, 1) := by decide +kernel
theorem dX9_hears_55 : decode cX9_hears 55 = .ok (.getfield 33, 3) := by decide +kernel
theorem dX9_hears_58 : decode cX9_hears 58 = .ok (.getfield 146, 3) := by decide +kernel
theorem dX9_hears_61 : decode cX9_hears 61 = .ok (.iconst 1, 1) := by decide +kernel
theorem dX9_hears_62 : decode cX9_hears 62 = .ok (.isub, 1) := by decide +kernel
theorem dX9_hears_63 : decode cX9_hears 63 = .ok (.ireturn, 1) := by decide +kernel
theorem dX9_strikes_0 : decode cX9_strikes 0 = .ok (.aload_n 0, 1) := by decide +kernel
theorem dX9_strikes_1 : decode cX9_strikes 1 = .ok (.iload_n 1, 1) := by decide +kernel
theorem dX9_strikes_2 : decode cX9_strikes 2 = .ok (.invokevirtual 126, 3) := by decide +kernel
theorem dX9_strikes_5 : decode cX9_strikes 5 = .ok (.ifCond .ne 5, 3) := by decide +kernel
theorem dX9_strikes_8 : decode cX9_strikes 8 = .ok (.iconst (-1), 1) := by decide +kernel
theorem dX9_strikes_9 : decode cX9_strikes 9 = .ok (.ireturn, 1) := by decide +kernel
theorem dX9_strikes_10 : decode cX9_strikes 10 = .ok (.aload_n 0, 1) := by decide +kernel
theorem dX9_strikes_11 : decode cX9_strikes 11 = .ok (.getfield 40, 3) := by decide +kernel
theorem dX9_strikes_14 : decode cX9_strikes 14 = .ok (.aload_n 0, 1) := by decide +kernel
theorem dX9_strikes_15 : decode cX9_strikes 15 = .ok (.getfield 33, 3) := by decide +kernel
theorem dX9_strikes_18 : decode cX9_strikes 18 = .ok (.invokevirtual 147, 3) := by decide +kernel
theorem dX9_strikes_21 : decode cX9_strikes 21 = .ok (.aload_n 0, 1) := by decide +kernel
theorem dX9_strikes_22 : decode cX9_strikes 22 = .ok (.getfield 33, 3) := by decide +kernel
theorem dX9_strikes_25 : decode cX9_strikes 25 = .ok (.iload_n 1, 1) := by decide +kernel
theorem dX9_strikes_26 : decode cX9_strikes 26 = .ok (.invokevirtual 153, 3) := by decide +kernel
theorem dX9_strikes_29 : decode cX9_strikes 29 = .ok (.aload_n 0, 1) := by decide +kernel
theorem dX9_strikes_30 : decode cX9_strikes 30 = .ok (.getfield 33, 3) := by decide +kernel
theorem dX9_strikes_33 : decode cX9_strikes 33 = .ok (.getfield 146, 3) := by decide +kernel
theorem dX9_strikes_36 : decode cX9_strikes 36 = .ok (.ireturn, 1) := by decide +kernel
theorem dX9_sets_0 : decode cX9_sets 0 = .ok (.aload_n 0, 1) := by decide +kernel
theorem dX9_sets_1 : decode cX9_sets 1 = .ok (.iload_n 1, 1) := by decide +kernel
theorem dX9_sets_2 : decode cX9_sets 2 = .ok (.invokevirtual 113, 3) := by decide +kernel
theorem dX9_sets_5 : decode cX9_sets 5 = .ok (.ifCond .eq 11, 3) := by decide +kernel
theorem dX9_sets_8 : decode cX9_sets 8 = .ok (.iload_n 2, 1) := by decide +kernel
theorem dX9_sets_9 : decode cX9_sets 9 = .ok (.iconst 4, 1) := by decide +kernel
theorem dX9_sets_10 : decode cX9_sets 10 = .ok (.invokestatic 84, 3) := by decide +kernel
theorem dX9_sets_13 : decode cX9_sets 13 = .ok (.ifCond .ne 5, 3) := by decide +kernel
theorem dX9_sets_16 : decode cX9_sets 16 = .ok (.iconst (-1), 1) := by decide +kernel
theorem dX9_sets_17 : decode cX9_sets 17 = .ok (.ireturn, 1) := by decide +kernel
theorem dX9_sets_18 : decode cX9_sets 18 = .ok (.aload_n 0, 1) := by decide +kernel
theorem dX9_sets_19 : decode cX9_sets 19 = .ok (.getfield 33, 3) := by decide +kernel
theorem dX9_sets_22 : decode cX9_sets 22 = .ok (.getfield 123, 3) := by decide +kernel
theorem dX9_sets_25 : decode cX9_sets 25 = .ok (.iload_n 1, 1) := by decide +kernel
theorem dX9_sets_26 : decode cX9_sets 26 = .ok (.iaload, 1) := by decide +kernel
theorem dX9_sets_27 : decode cX9_sets 27 = .ok (.istore_n 3, 1) := by decide +kernel
theorem dX9_sets_28 : decode cX9_sets 28 = .ok (.iload_n 3, 1) := by decide +kernel
theorem dX9_sets_29 : decode cX9_sets 29 = .ok (.iload_n 2, 1) := by decide +kernel
theorem dX9_sets_30 : decode cX9_sets 30 = .ok (.if_icmp .ne 6, 3) := by decide +kernel
theorem dX9_sets_33 : decode cX9_sets 33 = .ok (.bipush (-2), 2) := by decide +kernel
theorem dX9_sets_35 : decode cX9_sets 35 = .ok (.ireturn, 1) := by decide +kernel
theorem dX9_sets_36 : decode cX9_sets 36 = .ok (.aload_n 0, 1) := by decide +kernel
theorem dX9_sets_37 : decode cX9_sets 37 = .ok (.getfield 40, 3) := by decide +kernel
theorem dX9_sets_40 : decode cX9_sets 40 = .ok (.aload_n 0, 1) := by decide +kernel
theorem dX9_sets_41 : decode cX9_sets 41 = .ok (.getfield 33, 3) := by decide +kernel
theorem dX9_sets_44 : decode cX9_sets 44 = .ok (.invokevirtual 147, 3) := by decide +kernel
theorem dX9_sets_47 : decode cX9_sets 47 = .ok (.aload_n 0, 1) := by decide +kernel
theorem dX9_sets_48 : decode cX9_sets 48 = .ok (.getfield 33, 3) := by decide +kernel
theorem dX9_sets_51 : decode cX9_sets 51 = .ok (.getfield 123, 3) := by decide +kernel
theorem dX9_sets_54 : decode cX9_sets 54 = .ok (.iload_n 1, 1) := by decide +kernel
theorem dX9_sets_55 : decode cX9_sets 55 = .ok (.iload_n 2, 1) := by decide +kernel
theorem dX9_sets_56 : decode cX9_sets 56 = .ok (.iastore, 1) := by decide +kernel
theorem dX9_sets_57 : decode cX9_sets 57 = .ok (.iload_n 3, 1) := by decide +kernel
theorem dX9_sets_58 : decode cX9_sets 58 = .ok (.ireturn, 1) := by decide +kernel
theorem dX9_undo_0 : decode cX9_undo 0 = .ok (.aload_n 0, 1) := by decide +kernel
theorem dX9_undo_1 : decode cX9_undo 1 = .ok (.getfield 40, 3) := by decide +kernel
theorem dX9_undo_4 : decode cX9_undo 4 = .ok (.getfield 109, 3) := by decide +kernel
theorem dX9_undo_7 : decode cX9_undo 7 = .ok (.ifCond .gt 6, 3) := by decide +kernel
theorem dX9_undo_10 : decode cX9_undo 10 = .ok (.bipush (-2), 2) := by decide +kernel
theorem dX9_undo_12 : decode cX9_undo 12 = .ok (.ireturn, 1) := by decide +kernel
theorem dX9_undo_13 : decode cX9_undo 13 = .ok (.aload_n 0, 1) := by decide +kernel
theorem dX9_undo_14 : decode cX9_undo 14 = .ok (.getfield 40, 3) := by decide +kernel
theorem dX9_undo_17 : decode cX9_undo 17 = .ok (.aload_n 0, 1) := by decide +kernel
theorem dX9_undo_18 : decode cX9_undo 18 = .ok (.getfield 33, 3) := by decide +kernel
theorem dX9_undo_21 : decode cX9_undo 21 = .ok (.invokevirtual 157, 3) := by decide +kernel
theorem dX9_undo_24 : decode cX9_undo 24 = .ok (.aload_n 0, 1) := by decide +kernel
theorem dX9_undo_25 : decode cX9_undo 25 = .ok (.getfield 40, 3) := by decide +kernel
theorem dX9_undo_28 : decode cX9_undo 28 = .ok (.getfield 109, 3) := by decide +kernel
theorem dX9_undo_31 : decode cX9_undo 31 = .ok (.ireturn, 1) := by decide +kernel
theorem dX9_group_0 : decode cX9_group 0 = .ok (.aload_n 0, 1) := by decide +kernel
theorem dX9_group_1 : decode cX9_group 1 = .ok (.invokevirtual 140, 3) := by decide +kernel
theorem dX9_group_4 : decode cX9_group 4 = .ok (.iload_n 1, 1) := by decide +kernel
theorem dX9_group_5 : decode cX9_group 5 = .ok (.aload_n 0, 1) := by decide +kernel
theorem dX9_group_6 : decode cX9_group 6 = .ok (.getfield 62, 3) := by decide +kernel
theorem dX9_group_9 : decode cX9_group 9 = .ok (.getfield 160, 3) := by decide +kernel
theorem dX9_group_12 : decode cX9_group 12 = .ok (.iconst 1, 1) := by decide +kernel
theorem dX9_group_13 : decode cX9_group 13 = .ok (.isub, 1) := by decide +kernel
theorem dX9_group_14 : decode cX9_group 14 = .ok (.invokestatic 84, 3) := by decide +kernel
theorem dX9_group_17 : decode cX9_group 17 = .ok (.ifCond .eq 12, 3) := by decide +kernel
theorem dX9_group_20 : decode cX9_group 20 = .ok (.iload_n 2, 1) := by decide +kernel
theorem dX9_group_21 : decode cX9_group 21 = .ok (.bipush 7, 2) := by decide +kernel
theorem dX9_group_23 : decode cX9_group 23 = .ok (.invokestatic 84, 3) := by decide +kernel
theorem dX9_group_26 : decode cX9_group 26 = .ok (.ifCond .ne 5, 3) := by decide +kernel
theorem dX9_group_29 : decode cX9_group 29 = .ok (.iconst (-1), 1) := by decide +kernel
theorem dX9_group_30 : decode cX9_group 30 = .ok (.ireturn, 1) := by decide +kernel
theorem dX9_group_31 : decode cX9_group 31 = .ok (.aload_n 0, 1) := by decide +kernel
theorem dX9_group_32 : decode cX9_group 32 = .ok (.getfield 62, 3) := by decide +kernel
theorem dX9_group_35 : decode cX9_group 35 = .ok (.getfield 161, 3) := by decide +kernel
theorem dX9_group_38 : decode cX9_group 38 = .ok (.iload_n 1, 1) := by decide +kernel
theorem dX9_group_39 : decode cX9_group 39 = .ok (.iaload, 1) := by decide +kernel
theorem dX9_group_40 : decode cX9_group 40 = .ok (.istore_n 3, 1) := by decide +kernel
theorem dX9_group_41 : decode cX9_group 41 = .ok (.iload_n 2, 1) := by decide +kernel
theorem dX9_group_42 : decode cX9_group 42 = .ok (.tableswitch 126 0 6 #[42, 44, 60, 69, 78, 94, 110], 42) := by decide +kernel
theorem dX9_group_84 : decode cX9_group 84 = .ok (.iload_n 3, 1) := by decide +kernel
theorem dX9_group_85 : decode cX9_group 85 = .ok (.ireturn, 1) := by decide +kernel
theorem dX9_group_86 : decode cX9_group 86 = .ok (.aload_n 0, 1) := by decide +kernel
theorem dX9_group_87 : decode cX9_group 87 = .ok (.getfield 71, 3) := by decide +kernel
theorem dX9_group_90 : decode cX9_group 90 = .ok (.iload_n 3, 1) := by decide +kernel
theorem dX9_group_91 : decode cX9_group 91 = .ok (.invokevirtual 164, 3) := by decide +kernel
theorem dX9_group_94 : decode cX9_group 94 = .ok (.aload_n 0, 1) := by decide +kernel
theorem dX9_group_95 : decode cX9_group 95 = .ok (.getfield 71, 3) := by decide +kernel
theorem dX9_group_98 : decode cX9_group 98 = .ok (.getfield 167, 3) := by decide +kernel
theorem dX9_group_101 : decode cX9_group 101 = .ok (.ireturn, 1) := by decide +kernel
theorem dX9_group_102 : decode cX9_group 102 = .ok (.aload_n 0, 1) := by decide +kernel
theorem dX9_group_103 : decode cX9_group 103 = .ok (.getfield 71, 3) := by decide +kernel
theorem dX9_group_106 : decode cX9_group 106 = .ok (.iload_n 3, 1) := by decide +kernel
theorem dX9_group_107 : decode cX9_group 107 = .ok (.invokevirtual 170, 3) := by decide +kernel
theorem dX9_group_110 : decode cX9_group 110 = .ok (.ireturn, 1) := by decide +kernel
theorem dX9_group_111 : decode cX9_group 111 = .ok (.aload_n 0, 1) := by decide +kernel
theorem dX9_group_112 : decode cX9_group 112 = .ok (.getfield 80, 3) := by decide +kernel
theorem dX9_group_115 : decode cX9_group 115 = .ok (.iload_n 3, 1) := by decide +kernel
theorem dX9_group_116 : decode cX9_group 116 = .ok (.invokevirtual 174, 3) := by decide +kernel
theorem dX9_group_119 : decode cX9_group 119 = .ok (.ireturn, 1) := by decide +kernel
theorem dX9_group_120 : decode cX9_group 120 = .ok (.aload_n 0, 1) := by decide +kernel
theorem dX9_group_121 : decode cX9_group 121 = .ok (.getfield 80, 3) := by decide +kernel
theorem dX9_group_124 : decode cX9_group 124 = .ok (.iload_n 3, 1) := by decide +kernel
theorem dX9_group_125 : decode cX9_group 125 = .ok (.invokevirtual 177, 3) := by decide +kernel
theorem dX9_group_128 : decode cX9_group 128 = .ok (.aload_n 0, 1) := by decide +kernel
theorem dX9_group_129 : decode cX9_group 129 = .ok (.getfield 80, 3) := by decide +kernel
theorem dX9_group_132 : decode cX9_group 132 = .ok (.getfield 180, 3) := by decide +kernel
theorem dX9_group_135 : decode cX9_group 135 = .ok (.ireturn, 1) := by decide +kernel
theorem dX9_group_136 : decode cX9_group 136 = .ok (.aload_n 0, 1) := by decide +kernel
theorem dX9_group_137 : decode cX9_group 137 = .ok (.getfield 80, 3) := by decide +kernel
theorem dX9_group_140 : decode cX9_group 140 = .ok (.iload_n 3, 1) := by decide +kernel
theorem dX9_group_141 : decode cX9_group 141 = .ok (.invokevirtual 177, 3) := by decide +kernel
theorem dX9_group_144 : decode cX9_group 144 = .ok (.aload_n 0, 1) := by decide +kernel
theorem dX9_group_145 : decode cX9_group 145 = .ok (.getfield 80, 3) := by decide +kernel
theorem dX9_group_148 : decode cX9_group 148 = .ok (.getfield 183, 3) := by decide +kernel
theorem dX9_group_151 : decode cX9_group 151 = .ok (.ireturn, 1) := by decide +kernel
theorem dX9_group_152 : decode cX9_group 152 = .ok (.aload_n 0, 1) := by decide +kernel
theorem dX9_group_153 : decode cX9_group 153 = .ok (.getfield 80, 3) := by decide +kernel
theorem dX9_group_156 : decode cX9_group 156 = .ok (.iload_n 3, 1) := by decide +kernel
theorem dX9_group_157 : decode cX9_group 157 = .ok (.invokevirtual 186, 3) := by decide +kernel
theorem dX9_group_160 : decode cX9_group 160 = .ok (.aload_n 0, 1) := by decide +kernel
theorem dX9_group_161 : decode cX9_group 161 = .ok (.getfield 80, 3) := by decide +kernel
theorem dX9_group_164 : decode cX9_group 164 = .ok (.getfield 189, 3) := by decide +kernel
theorem dX9_group_167 : decode cX9_group 167 = .ok (.ireturn, 1) := by decide +kernel
theorem dX9_group_168 : decode cX9_group 168 = .ok (.aload_n 0, 1) := by decide +kernel
theorem dX9_group_169 : decode cX9_group 169 = .ok (.getfield 80, 3) := by decide +kernel
theorem dX9_group_172 : decode cX9_group 172 = .ok (.iload_n 3, 1) := by decide +kernel
theorem dX9_group_173 : decode cX9_group 173 = .ok (.invokevirtual 186, 3) := by decide +kernel
theorem dX9_group_176 : decode cX9_group 176 = .ok (.aload_n 0, 1) := by decide +kernel
theorem dX9_group_177 : decode cX9_group 177 = .ok (.getfield 80, 3) := by decide +kernel
theorem dX9_group_180 : decode cX9_group 180 = .ok (.getfield 192, 3) := by decide +kernel
theorem dX9_group_183 : decode cX9_group 183 = .ok (.ireturn, 1) := by decide +kernel
theorem dX9_place_0 : decode cX9_place 0 = .ok (.aload_n 0, 1) := by decide +kernel
theorem dX9_place_1 : decode cX9_place 1 = .ok (.invokevirtual 140, 3) := by decide +kernel
theorem dX9_place_4 : decode cX9_place 4 = .ok (.iload_n 1, 1) := by decide +kernel
theorem dX9_place_5 : decode cX9_place 5 = .ok (.aload_n 0, 1) := by decide +kernel
theorem dX9_place_6 : decode cX9_place 6 = .ok (.getfield 62, 3) := by decide +kernel
theorem dX9_place_9 : decode cX9_place 9 = .ok (.getfield 160, 3) := by decide +kernel
theorem dX9_place_12 : decode cX9_place 12 = .ok (.iconst 1, 1) := by decide +kernel
theorem dX9_place_13 : decode cX9_place 13 = .ok (.isub, 1) := by decide +kernel
theorem dX9_place_14 : decode cX9_place 14 = .ok (.invokestatic 84, 3) := by decide +kernel
theorem dX9_place_17 : decode cX9_place 17 = .ok (.ifCond .eq 11, 3) := by decide +kernel
theorem dX9_place_20 : decode cX9_place 20 = .ok (.iload_n 2, 1) := by decide +kernel
theorem dX9_place_21 : decode cX9_place 21 = .ok (.iconst 5, 1) := by decide +kernel
theorem dX9_place_22 : decode cX9_place 22 = .ok (.invokestatic 84, 3) := by decide +kernel
theorem dX9_place_25 : decode cX9_place 25 = .ok (.ifCond .ne 6, 3) := by decide +kernel
theorem dX9_place_28 : decode cX9_place 28 = .ok (.ldc 129, 2) := by decide +kernel
theorem dX9_place_30 : decode cX9_place 30 = .ok (.ireturn, 1) := by decide +kernel
theorem dX9_place_31 : decode cX9_place 31 = .ok (.aload_n 0, 1) := by decide +kernel
theorem dX9_place_32 : decode cX9_place 32 = .ok (.getfield 71, 3) := by decide +kernel
theorem dX9_place_35 : decode cX9_place 35 = .ok (.aload_n 0, 1) := by decide +kernel
theorem dX9_place_36 : decode cX9_place 36 = .ok (.getfield 62, 3) := by decide +kernel
theorem dX9_place_39 : decode cX9_place 39 = .ok (.getfield 161, 3) := by decide +kernel
theorem dX9_place_42 : decode cX9_place 42 = .ok (.iload_n 1, 1) := by decide +kernel
theorem dX9_place_43 : decode cX9_place 43 = .ok (.iaload, 1) := by decide +kernel
theorem dX9_place_44 : decode cX9_place 44 = .ok (.invokevirtual 170, 3) := by decide +kernel
theorem dX9_place_47 : decode cX9_place 47 = .ok (.ifCond .eq 6, 3) := by decide +kernel
theorem dX9_place_50 : decode cX9_place 50 = .ok (.ldc 129, 2) := by decide +kernel
theorem dX9_place_52 : decode cX9_place 52 = .ok (.ireturn, 1) := by decide +kernel
theorem dX9_place_53 : decode cX9_place 53 = .ok (.iload_n 2, 1) := by decide +kernel
theorem dX9_place_54 : decode cX9_place 54 = .ok (.tableswitch 124 0 4 #[34, 52, 70, 88, 106], 34) := by decide +kernel
theorem dX9_place_88 : decode cX9_place 88 = .ok (.aload_n 0, 1) := by decide +kernel
theorem dX9_place_89 : decode cX9_place 89 = .ok (.getfield 71, 3) := by decide +kernel
theorem dX9_place_92 : decode cX9_place 92 = .ok (.getfield 195, 3) := by decide +kernel
theorem dX9_place_95 : decode cX9_place 95 = .ok (.aload_n 0, 1) := by decide +kernel
theorem dX9_place_96 : decode cX9_place 96 = .ok (.getfield 71, 3) := by decide +kernel
theorem dX9_place_99 : decode cX9_place 99 = .ok (.getfield 198, 3) := by decide +kernel
theorem dX9_place_102 : decode cX9_place 102 = .ok (.invokestatic 201, 3) := by decide +kernel
theorem dX9_place_105 : decode cX9_place 105 = .ok (.ireturn, 1) := by decide +kernel
theorem dX9_place_106 : decode cX9_place 106 = .ok (.aload_n 0, 1) := by decide +kernel
theorem dX9_place_107 : decode cX9_place 107 = .ok (.getfield 71, 3) := by decide +kernel
theorem dX9_place_110 : decode cX9_place 110 = .ok (.getfield 195, 3) := by decide +kernel
theorem dX9_place_113 : decode cX9_place 113 = .ok (.aload_n 0, 1) := by decide +kernel
theorem dX9_place_114 : decode cX9_place 114 = .ok (.getfield 71, 3) := by decide +kernel
theorem dX9_place_117 : decode cX9_place 117 = .ok (.getfield 198, 3) := by decide +kernel
theorem dX9_place_120 : decode cX9_place 120 = .ok (.invokestatic 205, 3) := by decide +kernel
theorem dX9_place_123 : decode cX9_place 123 = .ok (.ireturn, 1) := by decide +kernel
theorem dX9_place_124 : decode cX9_place 124 = .ok (.aload_n 0, 1) := by decide +kernel
theorem dX9_place_125 : decode cX9_place 125 = .ok (.getfield 71, 3) := by decide +kernel
theorem dX9_place_128 : decode cX9_place 128 = .ok (.getfield 207, 3) := by decide +kernel
theorem dX9_place_131 : decode cX9_place 131 = .ok (.aload_n 0, 1) := by decide +kernel
theorem dX9_place_132 : decode cX9_place 132 = .ok (.getfield 71, 3) := by decide +kernel
theorem dX9_place_135 : decode cX9_place 135 = .ok (.getfield 198, 3) := by decide +kernel
theorem dX9_place_138 : decode cX9_place 138 = .ok (.invokestatic 201, 3) := by decide +kernel
theorem dX9_place_141 : decode cX9_place 141 = .ok (.ireturn, 1) := by decide +kernel
theorem dX9_place_142 : decode cX9_place 142 = .ok (.aload_n 0, 1) := by decide +kernel
theorem dX9_place_143 : decode cX9_place 143 = .ok (.getfield 71, 3) := by decide +kernel
theorem dX9_place_146 : decode cX9_place 146 = .ok (.getfield 207, 3) := by decide +kernel
theorem dX9_place_149 : decode cX9_place 149 = .ok (.aload_n 0, 1) := by decide +kernel
theorem dX9_place_150 : decode cX9_place 150 = .ok (.getfield 71, 3) := by decide +kernel
theorem dX9_place_153 : decode cX9_place 153 = .ok (.getfield 198, 3) := by decide +kernel
theorem dX9_place_156 : decode cX9_place 156 = .ok (.invokestatic 205, 3) := by decide +kernel
theorem dX9_place_159 : decode cX9_place 159 = .ok (.ireturn, 1) := by decide +kernel
theorem dX9_place_160 : decode cX9_place 160 = .ok (.aload_n 0, 1) := by decide +kernel
theorem dX9_place_161 : decode cX9_place 161 = .ok (.getfield 71, 3) := by decide +kernel
theorem dX9_place_164 : decode cX9_place 164 = .ok (.getfield 209, 3) := by decide +kernel
theorem dX9_place_167 : decode cX9_place 167 = .ok (.aload_n 0, 1) := by decide +kernel
theorem dX9_place_168 : decode cX9_place 168 = .ok (.getfield 71, 3) := by decide +kernel
theorem dX9_place_171 : decode cX9_place 171 = .ok (.getfield 198, 3) := by decide +kernel
theorem dX9_place_174 : decode cX9_place 174 = .ok (.invokestatic 201, 3) := by decide +kernel
theorem dX9_place_177 : decode cX9_place 177 = .ok (.ireturn, 1) := by decide +kernel
theorem dX9_place_178 : decode cX9_place 178 = .ok (.aload_n 0, 1) := by decide +kernel
theorem dX9_place_179 : decode cX9_place 179 = .ok (.getfield 71, 3) := by decide +kernel
theorem dX9_place_182 : decode cX9_place 182 = .ok (.getfield 209, 3) := by decide +kernel
theorem dX9_place_185 : decode cX9_place 185 = .ok (.aload_n 0, 1) := by decide +kernel
theorem dX9_place_186 : decode cX9_place 186 = .ok (.getfield 71, 3) := by decide +kernel
theorem dX9_place_189 : decode cX9_place 189 = .ok (.getfield 198, 3) := by decide +kernel
theorem dX9_place_192 : decode cX9_place 192 = .ok (.invokestatic 205, 3) := by decide +kernel
theorem dX9_place_195 : decode cX9_place 195 = .ok (.ireturn, 1) := by decide +kernel
theorem dX9_verdict_0 : decode cX9_verdict 0 = .ok (.iload_n 1, 1) := by decide +kernel
theorem dX9_verdict_1 : decode cX9_verdict 1 = .ok (.iconst 1, 1) := by decide +kernel
theorem dX9_verdict_2 : decode cX9_verdict 2 = .ok (.if_icmp .lt 16, 3) := by decide +kernel
theorem dX9_verdict_5 : decode cX9_verdict 5 = .ok (.iload_n 1, 1) := by decide +kernel
theorem dX9_verdict_6 : decode cX9_verdict 6 = .ok (.iconst 1, 1) := by decide +kernel
theorem dX9_verdict_7 : decode cX9_verdict 7 = .ok (.aload_n 0, 1) := by decide +kernel
theorem dX9_verdict_8 : decode cX9_verdict 8 = .ok (.getfield 33, 3) := by decide +kernel
theorem dX9_verdict_11 : decode cX9_verdict 11 = .ok (.getfield 146, 3) := by decide +kernel
theorem dX9_verdict_14 : decode cX9_verdict 14 = .ok (.ishl, 1) := by decide +kernel
theorem dX9_verdict_15 : decode cX9_verdict 15 = .ok (.if_icmp .lt 5, 3) := by decide +kernel
theorem dX9_verdict_18 : decode cX9_verdict 18 = .ok (.iconst (-1), 1) := by decide +kernel
theorem dX9_verdict_19 : decode cX9_verdict 19 = .ok (.ireturn, 1) := by decide +kernel
theorem dX9_verdict_20 : decode cX9_verdict 20 = .ok (.aload_n 0, 1) := by decide +kernel
theorem dX9_verdict_21 : decode cX9_verdict 21 = .ok (.getfield 55, 3) := by decide +kernel
theorem dX9_verdict_24 : decode cX9_verdict 24 = .ok (.aload_n 0, 1) := by decide +kernel
theorem dX9_verdict_25 : decode cX9_verdict 25 = .ok (.getfield 26, 3) := by decide +kernel
theorem dX9_verdict_28 : decode cX9_verdict 28 = .ok (.aload_n 0, 1) := by decide +kernel
theorem dX9_verdict_29 : decode cX9_verdict 29 = .ok (.getfield 33, 3) := by decide +kernel
theorem dX9_verdict_32 : decode cX9_verdict 32 = .ok (.invokevirtual 212, 3) := by decide +kernel
theorem dX9_verdict_35 : decode cX9_verdict 35 = .ok (.aload_n 0, 1) := by decide +kernel
theorem dX9_verdict_36 : decode cX9_verdict 36 = .ok (.getfield 71, 3) := by decide +kernel
theorem dX9_verdict_39 : decode cX9_verdict 39 = .ok (.iload_n 1, 1) := by decide +kernel
theorem dX9_verdict_40 : decode cX9_verdict 40 = .ok (.invokevirtual 170, 3) := by decide +kernel
theorem dX9_verdict_43 : decode cX9_verdict 43 = .ok (.ireturn, 1) := by decide +kernel
theorem dX9_due_0 : decode cX9_due 0 = .ok (.aload_n 0, 1) := by decide +kernel
theorem dX9_due_1 : decode cX9_due 1 = .ok (.iload_n 1, 1) := by decide +kernel
theorem dX9_due_2 : decode cX9_due 2 = .ok (.invokevirtual 113, 3) := by decide +kernel
theorem dX9_due_5 : decode cX9_due 5 = .ok (.ifCond .eq 21, 3) := by decide +kernel
theorem dX9_due_8 : decode cX9_due 8 = .ok (.iload_n 2, 1) := by decide +kernel
theorem dX9_due_9 : decode cX9_due 9 = .ok (.bipush 29, 2) := by decide +kernel
theorem dX9_due_11 : decode cX9_due 11 = .ok (.invokestatic 84, 3) := by decide +kernel
theorem dX9_due_14 : decode cX9_due 14 = .ok (.ifCond .eq 12, 3) := by decide +kernel
theorem dX9_due_17 : decode cX9_due 17 = .ok (.iload_n 3, 1) := by decide +kernel
theorem dX9_due_18 : decode cX9_due 18 = .ok (.bipush 29, 2) := by decide +kernel
theorem dX9_due_20 : decode cX9_due 20 = .ok (.invokestatic 84, 3) := by decide +kernel
theorem dX9_due_23 : decode cX9_due 23 = .ok (.ifCond .ne 5, 3) := by decide +kernel
theorem dX9_due_26 : decode cX9_due 26 = .ok (.iconst (-1), 1) := by decide +kernel
theorem dX9_due_27 : decode cX9_due 27 = .ok (.ireturn, 1) := by decide +kernel
theorem dX9_due_28 : decode cX9_due 28 = .ok (.iload 4, 2) := by decide +kernel
theorem dX9_due_30 : decode cX9_due 30 = .ok (.bipush 60, 2) := by decide +kernel
theorem dX9_due_32 : decode cX9_due 32 = .ok (.invokestatic 84, 3) := by decide +kernel
theorem dX9_due_35 : decode cX9_due 35 = .ok (.ifCond .eq 12, 3) := by decide +kernel
theorem dX9_due_38 : decode cX9_due 38 = .ok (.iload 5, 2) := by decide +kernel
theorem dX9_due_40 : decode cX9_due 40 = .ok (.iconst 1, 1) := by decide +kernel
theorem dX9_due_41 : decode cX9_due 41 = .ok (.invokestatic 84, 3) := by decide +kernel
theorem dX9_due_44 : decode cX9_due 44 = .ok (.ifCond .ne 5, 3) := by decide +kernel
theorem dX9_due_47 : decode cX9_due 47 = .ok (.iconst (-1), 1) := by decide +kernel
theorem dX9_due_48 : decode cX9_due 48 = .ok (.ireturn, 1) := by decide +kernel
theorem dX9_due_49 : decode cX9_due 49 = .ok (.iload_n 2, 1) := by decide +kernel
theorem dX9_due_50 : decode cX9_due 50 = .ok (.aload_n 0, 1) := by decide +kernel
theorem dX9_due_51 : decode cX9_due 51 = .ok (.getfield 26, 3) := by decide +kernel
theorem dX9_due_54 : decode cX9_due 54 = .ok (.getfield 116, 3) := by decide +kernel
theorem dX9_due_57 : decode cX9_due 57 = .ok (.iload_n 1, 1) := by decide +kernel
theorem dX9_due_58 : decode cX9_due 58 = .ok (.iaload, 1) := by decide +kernel
theorem dX9_due_59 : decode cX9_due 59 = .ok (.isub, 1) := by decide +kernel
theorem dX9_due_60 : decode cX9_due 60 = .ok (.iload_n 3, 1) := by decide +kernel
theorem dX9_due_61 : decode cX9_due 61 = .ok (.aload_n 0, 1) := by decide +kernel
theorem dX9_due_62 : decode cX9_due 62 = .ok (.getfield 26, 3) := by decide +kernel
theorem dX9_due_65 : decode cX9_due 65 = .ok (.getfield 120, 3) := by decide +kernel
theorem dX9_due_68 : decode cX9_due 68 = .ok (.iload_n 1, 1) := by decide +kernel
theorem dX9_due_69 : decode cX9_due 69 = .ok (.iaload, 1) := by decide +kernel
theorem dX9_due_70 : decode cX9_due 70 = .ok (.isub, 1) := by decide +kernel
theorem dX9_due_71 : decode cX9_due 71 = .ok (.invokestatic 216, 3) := by decide +kernel
theorem dX9_due_74 : decode cX9_due 74 = .ok (.istore 6, 2) := by decide +kernel
theorem dX9_due_76 : decode cX9_due 76 = .ok (.iload 6, 2) := by decide +kernel
theorem dX9_due_78 : decode cX9_due 78 = .ok (.ifCond .ge 6, 3) := by decide +kernel
theorem dX9_due_81 : decode cX9_due 81 = .ok (.bipush (-9), 2) := by decide +kernel
theorem dX9_due_83 : decode cX9_due 83 = .ok (.ireturn, 1) := by decide +kernel
theorem dX9_due_84 : decode cX9_due 84 = .ok (.iload 5, 2) := by decide +kernel
theorem dX9_due_86 : decode cX9_due 86 = .ok (.ifCond .ne 9, 3) := by decide +kernel
theorem dX9_due_89 : decode cX9_due 89 = .ok (.iload 4, 2) := by decide +kernel
theorem dX9_due_91 : decode cX9_due 91 = .ok (.iload 6, 2) := by decide +kernel
theorem dX9_due_93 : decode cX9_due 93 = .ok (.iadd, 1) := by decide +kernel
theorem dX9_due_94 : decode cX9_due 94 = .ok (.ireturn, 1) := by decide +kernel
theorem dX9_due_95 : decode cX9_due 95 = .ok (.aload_n 0, 1) := by decide +kernel
theorem dX9_due_96 : decode cX9_due 96 = .ok (.getfield 33, 3) := by decide +kernel
theorem dX9_due_99 : decode cX9_due 99 = .ok (.getfield 123, 3) := by decide +kernel
theorem dX9_due_102 : decode cX9_due 102 = .ok (.iload_n 1, 1) := by decide +kernel
theorem dX9_due_103 : decode cX9_due 103 = .ok (.iaload, 1) := by decide +kernel
theorem dX9_due_104 : decode cX9_due 104 = .ok (.iload 4, 2) := by decide +kernel
theorem dX9_due_106 : decode cX9_due 106 = .ok (.iload 6, 2) := by decide +kernel
theorem dX9_due_108 : decode cX9_due 108 = .ok (.iadd, 1) := by decide +kernel
theorem dX9_due_109 : decode cX9_due 109 = .ok (.invokestatic 219, 3) := by decide +kernel
theorem dX9_due_112 : decode cX9_due 112 = .ok (.istore 7, 2) := by decide +kernel
theorem dX9_due_114 : decode cX9_due 114 = .ok (.iload 7, 2) := by decide +kernel
theorem dX9_due_116 : decode cX9_due 116 = .ok (.bipush 60, 2) := by decide +kernel
theorem dX9_due_118 : decode cX9_due 118 = .ok (.invokestatic 84, 3) := by decide +kernel
theorem dX9_due_121 : decode cX9_due 121 = .ok (.ifCond .eq 8, 3) := by decide +kernel
theorem dX9_due_124 : decode cX9_due 124 = .ok (.iload 7, 2) := by decide +kernel
theorem dX9_due_126 : decode cX9_due 126 = .ok (.goto 5, 3) := by decide +kernel
theorem dX9_due_129 : decode cX9_due 129 = .ok (.bipush (-9), 2) := by decide +kernel
theorem dX9_due_131 : decode cX9_due 131 = .ok (.ireturn, 1) := by decide +kernel
theorem dX9_odds_0 : decode cX9_odds 0 = .ok (.aload_n 0, 1) := by decide +kernel
theorem dX9_odds_1 : decode cX9_odds 1 = .ok (.invokevirtual 140, 3) := by decide +kernel
theorem dX9_odds_4 : decode cX9_odds 4 = .ok (.iload_n 1, 1) := by decide +kernel
theorem dX9_odds_5 : decode cX9_odds 5 = .ok (.aload_n 0, 1) := by decide +kernel
theorem dX9_odds_6 : decode cX9_odds 6 = .ok (.getfield 62, 3) := by decide +kernel
theorem dX9_odds_9 : decode cX9_odds 9 = .ok (.getfield 160, 3) := by decide +kernel
theorem dX9_odds_12 : decode cX9_odds 12 = .ok (.iconst 1, 1) := by decide +kernel
theorem dX9_odds_13 : decode cX9_odds 13 = .ok (.isub, 1) := by decide +kernel
theorem dX9_odds_14 : decode cX9_odds 14 = .ok (.invokestatic 84, 3) := by decide +kernel
theorem dX9_odds_17 : decode cX9_odds 17 = .ok (.ifCond .eq 20, 3) := by decide +kernel
theorem dX9_odds_20 : decode cX9_odds 20 = .ok (.iload_n 2, 1) := by decide +kernel
theorem dX9_odds_21 : decode cX9_odds 21 = .ok (.bipush 10, 2) := by decide +kernel
theorem dX9_odds_23 : decode cX9_odds 23 = .ok (.invokestatic 84, 3) := by decide +kernel
theorem dX9_odds_26 : decode cX9_odds 26 = .ok (.ifCond .eq 11, 3) := by decide +kernel
theorem dX9_odds_29 : decode cX9_odds 29 = .ok (.iload_n 3, 1) := by decide +kernel
theorem dX9_odds_30 : decode cX9_odds 30 = .ok (.iconst 1, 1) := by decide +kernel
theorem dX9_odds_31 : decode cX9_odds 31 = .ok (.invokestatic 84, 3) := by decide +kernel
theorem dX9_odds_34 : decode cX9_odds 34 = .ok (.ifCond .ne 5, 3) := by decide +kernel
theorem dX9_odds_37 : decode cX9_odds 37 = .ok (.iconst (-1), 1) := by decide +kernel
theorem dX9_odds_38 : decode cX9_odds 38 = .ok (.ireturn, 1) := by decide +kernel
theorem dX9_odds_39 : decode cX9_odds 39 = .ok (.aload_n 0, 1) := by decide +kernel
theorem dX9_odds_40 : decode cX9_odds 40 = .ok (.getfield 62, 3) := by decide +kernel
theorem dX9_odds_43 : decode cX9_odds 43 = .ok (.getfield 161, 3) := by decide +kernel
theorem dX9_odds_46 : decode cX9_odds 46 = .ok (.iload_n 1, 1) := by decide +kernel
theorem dX9_odds_47 : decode cX9_odds 47 = .ok (.iaload, 1) := by decide +kernel
theorem dX9_odds_48 : decode cX9_odds 48 = .ok (.istore 4, 2) := by decide +kernel
theorem dX9_odds_50 : decode cX9_odds 50 = .ok (.bipush 10, 2) := by decide +kernel
theorem dX9_odds_52 : decode cX9_odds 52 = .ok (.iload 4, 2) := by decide +kernel
theorem dX9_odds_54 : decode cX9_odds 54 = .ok (.invokestatic 222, 3) := by decide +kernel
theorem dX9_odds_57 : decode cX9_odds 57 = .ok (.invokestatic 227, 3) := by decide +kernel
theorem dX9_odds_60 : decode cX9_odds 60 = .ok (.lstore 5, 2) := by decide +kernel
theorem dX9_odds_62 : decode cX9_odds 62 = .ok (.aload_n 0, 1) := by decide +kernel
theorem dX9_odds_63 : decode cX9_odds 63 = .ok (.getfield 80, 3) := by decide +kernel
theorem dX9_odds_66 : decode cX9_odds 66 = .ok (.iload 4, 2) := by decide +kernel
theorem dX9_odds_68 : decode cX9_odds 68 = .ok (.iload_n 2, 1) := by decide +kernel
theorem dX9_odds_69 : decode cX9_odds 69 = .ok (.invokevirtual 231, 3) := by decide +kernel
theorem dX9_odds_72 : decode cX9_odds 72 = .ok (.lstore 7, 2) := by decide +kernel
theorem dX9_odds_74 : decode cX9_odds 74 = .ok (.iload_n 3, 1) := by decide +kernel
theorem dX9_odds_75 : decode cX9_odds 75 = .ok (.ifCond .ne 13, 3) := by decide +kernel
theorem dX9_odds_78 : decode cX9_odds 78 = .ok (.lload 7, 2) := by decide +kernel
theorem dX9_odds_80 : decode cX9_odds 80 = .ok (.lload 5, 2) := by decide +kernel
theorem dX9_odds_82 : decode cX9_odds 82 = .ok (.invokestatic 201, 3) := by decide +kernel
theorem dX9_odds_85 : decode cX9_odds 85 = .ok (.goto 10, 3) := by decide +kernel
theorem dX9_odds_88 : decode cX9_odds 88 = .ok (.lload 7, 2) := by decide +kernel
theorem dX9_odds_90 : decode cX9_odds 90 = .ok (.lload 5, 2) := by decide +kernel
theorem dX9_odds_92 : decode cX9_odds 92 = .ok (.invokestatic 205, 3) := by decide +kernel
theorem dX9_odds_95 : decode cX9_odds 95 = .ok (.ireturn, 1) := by decide +kernel
theorem dX9_keep_0 : decode cX9_keep 0 = .ok (.iload_n 1, 1) := by decide +kernel
theorem dX9_keep_1 : decode cX9_keep 1 = .ok (.iconst 1, 1) := by decide +kernel
theorem dX9_keep_2 : decode cX9_keep 2 = .ok (.invokestatic 84, 3) := by decide +kernel
theorem dX9_keep_5 : decode cX9_keep 5 = .ok (.ifCond .ne 5, 3) := by decide +kernel
theorem dX9_keep_8 : decode cX9_keep 8 = .ok (.iconst (-1), 1) := by decide +kernel
theorem dX9_keep_9 : decode cX9_keep 9 = .ok (.ireturn, 1) := by decide +kernel
theorem dX9_keep_10 : decode cX9_keep 10 = .ok (.aload_n 0, 1) := by decide +kernel
theorem dX9_keep_11 : decode cX9_keep 11 = .ok (.getfield 44, 3) := by decide +kernel
theorem dX9_keep_14 : decode cX9_keep 14 = .ok (.iload_n 1, 1) := by decide +kernel
theorem dX9_keep_15 : decode cX9_keep 15 = .ok (.aaload, 1) := by decide +kernel
theorem dX9_keep_16 : decode cX9_keep 16 = .ok (.aload_n 0, 1) := by decide +kernel
theorem dX9_keep_17 : decode cX9_keep 17 = .ok (.getfield 33, 3) := by decide +kernel
theorem dX9_keep_20 : decode cX9_keep 20 = .ok (.invokevirtual 106, 3) := by decide +kernel
theorem dX9_keep_23 : decode cX9_keep 23 = .ok (.aload_n 0, 1) := by decide +kernel
theorem dX9_keep_24 : decode cX9_keep 24 = .ok (.getfield 48, 3) := by decide +kernel
theorem dX9_keep_27 : decode cX9_keep 27 = .ok (.iload_n 1, 1) := by decide +kernel
theorem dX9_keep_28 : decode cX9_keep 28 = .ok (.iconst 1, 1) := by decide +kernel
theorem dX9_keep_29 : decode cX9_keep 29 = .ok (.bastore, 1) := by decide +kernel
theorem dX9_keep_30 : decode cX9_keep 30 = .ok (.aload_n 0, 1) := by decide +kernel
theorem dX9_keep_31 : decode cX9_keep 31 = .ok (.getfield 33, 3) := by decide +kernel
theorem dX9_keep_34 : decode cX9_keep 34 = .ok (.getfield 146, 3) := by decide +kernel
theorem dX9_keep_37 : decode cX9_keep 37 = .ok (.ireturn, 1) := by decide +kernel
theorem dX9_back_0 : decode cX9_back 0 = .ok (.iload_n 1, 1) := by decide +kernel
theorem dX9_back_1 : decode cX9_back 1 = .ok (.iconst 1, 1) := by decide +kernel
theorem dX9_back_2 : decode cX9_back 2 = .ok (.invokestatic 84, 3) := by decide +kernel
theorem dX9_back_5 : decode cX9_back 5 = .ok (.ifCond .ne 5, 3) := by decide +kernel
theorem dX9_back_8 : decode cX9_back 8 = .ok (.iconst (-1), 1) := by decide +kernel
theorem dX9_back_9 : decode cX9_back 9 = .ok (.ireturn, 1) := by decide +kernel
theorem dX9_back_10 : decode cX9_back 10 = .ok (.aload_n 0, 1) := by decide +kernel
theorem dX9_back_11 : decode cX9_back 11 = .ok (.getfield 48, 3) := by decide +kernel
theorem dX9_back_14 : decode cX9_back 14 = .ok (.iload_n 1, 1) := by decide +kernel
theorem dX9_back_15 : decode cX9_back 15 = .ok (.baload, 1) := by decide +kernel
theorem dX9_back_16 : decode cX9_back 16 = .ok (.ifCond .ne 6, 3) := by decide +kernel
theorem dX9_back_19 : decode cX9_back 19 = .ok (.bipush (-2), 2) := by decide +kernel
theorem dX9_back_21 : decode cX9_back 21 = .ok (.ireturn, 1) := by decide +kernel
theorem dX9_back_22 : decode cX9_back 22 = .ok (.aload_n 0, 1) := by decide +kernel
theorem dX9_back_23 : decode cX9_back 23 = .ok (.getfield 33, 3) := by decide +kernel
theorem dX9_back_26 : decode cX9_back 26 = .ok (.aload_n 0, 1) := by decide +kernel
theorem dX9_back_27 : decode cX9_back 27 = .ok (.getfield 44, 3) := by decide +kernel
theorem dX9_back_30 : decode cX9_back 30 = .ok (.iload_n 1, 1) := by decide +kernel
theorem dX9_back_31 : decode cX9_back 31 = .ok (.aaload, 1) := by decide +kernel
theorem dX9_back_32 : decode cX9_back 32 = .ok (.invokevirtual 106, 3) := by decide +kernel
theorem dX9_back_35 : decode cX9_back 35 = .ok (.aload_n 0, 1) := by decide +kernel
theorem dX9_back_36 : decode cX9_back 36 = .ok (.getfield 40, 3) := by decide +kernel
theorem dX9_back_39 : decode cX9_back 39 = .ok (.iconst 0, 1) := by decide +kernel
theorem dX9_back_40 : decode cX9_back 40 = .ok (.putfield 109, 3) := by decide +kernel
theorem dX9_back_43 : decode cX9_back 43 = .ok (.aload_n 0, 1) := by decide +kernel
theorem dX9_back_44 : decode cX9_back 44 = .ok (.getfield 33, 3) := by decide +kernel
theorem dX9_back_47 : decode cX9_back 47 = .ok (.getfield 146, 3) := by decide +kernel
theorem dX9_back_50 : decode cX9_back 50 = .ok (.ireturn, 1) := by decide +kernel
theorem dX9_count_0 : decode cX9_count 0 = .ok (.iload_n 1, 1) := by decide +kernel
theorem dX9_count_1 : decode cX9_count 1 = .ok (.tableswitch 88 0 5 #[39, 47, 55, 67, 72, 80], 39) := by decide +kernel
theorem dX9_count_40 : decode cX9_count 40 = .ok (.aload_n 0, 1) := by decide +kernel
theorem dX9_count_41 : decode cX9_count 41 = .ok (.getfield 26, 3) := by decide +kernel
theorem dX9_count_44 : decode cX9_count 44 = .ok (.getfield 234, 3) := by decide +kernel
theorem dX9_count_47 : decode cX9_count 47 = .ok (.ireturn, 1) := by decide +kernel
theorem dX9_count_48 : decode cX9_count 48 = .ok (.aload_n 0, 1) := by decide +kernel
theorem dX9_count_49 : decode cX9_count 49 = .ok (.getfield 33, 3) := by decide +kernel
theorem dX9_count_52 : decode cX9_count 52 = .ok (.getfield 146, 3) := by decide +kernel
theorem dX9_count_55 : decode cX9_count 55 = .ok (.ireturn, 1) := by decide +kernel
theorem dX9_count_56 : decode cX9_count 56 = .ok (.aload_n 0, 1) := by decide +kernel
theorem dX9_count_57 : decode cX9_count 57 = .ok (.invokevirtual 140, 3) := by decide +kernel
theorem dX9_count_60 : decode cX9_count 60 = .ok (.aload_n 0, 1) := by decide +kernel
theorem dX9_count_61 : decode cX9_count 61 = .ok (.getfield 62, 3) := by decide +kernel
theorem dX9_count_64 : decode cX9_count 64 = .ok (.getfield 160, 3) := by decide +kernel
theorem dX9_count_67 : decode cX9_count 67 = .ok (.ireturn, 1) := by decide +kernel
theorem dX9_count_68 : decode cX9_count 68 = .ok (.aload_n 0, 1) := by decide +kernel
theorem dX9_count_69 : decode cX9_count 69 = .ok (.invokevirtual 235, 3) := by decide +kernel
theorem dX9_count_72 : decode cX9_count 72 = .ok (.ireturn, 1) := by decide +kernel
theorem dX9_count_73 : decode cX9_count 73 = .ok (.aload_n 0, 1) := by decide +kernel
theorem dX9_count_74 : decode cX9_count 74 = .ok (.getfield 12, 3) := by decide +kernel
theorem dX9_count_77 : decode cX9_count 77 = .ok (.getfield 92, 3) := by decide +kernel
theorem dX9_count_80 : decode cX9_count 80 = .ok (.ireturn, 1) := by decide +kernel
theorem dX9_count_81 : decode cX9_count 81 = .ok (.aload_n 0, 1) := by decide +kernel
theorem dX9_count_82 : decode cX9_count 82 = .ok (.getfield 40, 3) := by decide +kernel
theorem dX9_count_85 : decode cX9_count 85 = .ok (.getfield 109, 3) := by decide +kernel
theorem dX9_count_88 : decode cX9_count 88 = .ok (.ireturn, 1) := by decide +kernel
end
section
theorem dX9_count_89 : decode cX9_count 89 = .ok (.iconst (-1), 1) := by decide +kernel
theorem dX9_count_90 : decode cX9_count 90 = .ok (.ireturn, 1) := by decide +kernel
theorem dX9_regroup_0 : decode cX9_regroup 0 = .ok (.aload_n 0, 1) := by decide +kernel
theorem dX9_regroup_1 : decode cX9_regroup 1 = .ok (.getfield 55, 3) := by decide +kernel
theorem dX9_regroup_4 : decode cX9_regroup 4 = .ok (.aload_n 0, 1) := by decide +kernel
theorem dX9_regroup_5 : decode cX9_regroup 5 = .ok (.getfield 26, 3) := by decide +kernel
theorem dX9_regroup_8 : decode cX9_regroup 8 = .ok (.aload_n 0, 1) := by decide +kernel
theorem dX9_regroup_9 : decode cX9_regroup 9 = .ok (.getfield 33, 3) := by decide +kernel
theorem dX9_regroup_12 : decode cX9_regroup 12 = .ok (.invokevirtual 212, 3) := by decide +kernel
theorem dX9_regroup_15 : decode cX9_regroup 15 = .ok (.aload_n 0, 1) := by decide +kernel
theorem dX9_regroup_16 : decode cX9_regroup 16 = .ok (.getfield 62, 3) := by decide +kernel
theorem dX9_regroup_19 : decode cX9_regroup 19 = .ok (.aload_n 0, 1) := by decide +kernel
theorem dX9_regroup_20 : decode cX9_regroup 20 = .ok (.getfield 55, 3) := by decide +kernel
theorem dX9_regroup_23 : decode cX9_regroup 23 = .ok (.invokevirtual 239, 3) := by decide +kernel
theorem dX9_regroup_26 : decode cX9_regroup 26 = .ok (.return_, 1) := by decide +kernel
theorem dX9_sureGroups_0 : decode cX9_sureGroups 0 = .ok (.aload_n 0, 1) := by decide +kernel
theorem dX9_sureGroups_1 : decode cX9_sureGroups 1 = .ok (.invokevirtual 140, 3) := by decide +kernel
theorem dX9_sureGroups_4 : decode cX9_sureGroups 4 = .ok (.iconst 0, 1) := by decide +kernel
theorem dX9_sureGroups_5 : decode cX9_sureGroups 5 = .ok (.istore_n 1, 1) := by decide +kernel
theorem dX9_sureGroups_6 : decode cX9_sureGroups 6 = .ok (.iconst 0, 1) := by decide +kernel
theorem dX9_sureGroups_7 : decode cX9_sureGroups 7 = .ok (.istore_n 2, 1) := by decide +kernel
theorem dX9_sureGroups_8 : decode cX9_sureGroups 8 = .ok (.iload_n 2, 1) := by decide +kernel
theorem dX9_sureGroups_9 : decode cX9_sureGroups 9 = .ok (.aload_n 0, 1) := by decide +kernel
theorem dX9_sureGroups_10 : decode cX9_sureGroups 10 = .ok (.getfield 62, 3) := by decide +kernel
theorem dX9_sureGroups_13 : decode cX9_sureGroups 13 = .ok (.getfield 160, 3) := by decide +kernel
theorem dX9_sureGroups_16 : decode cX9_sureGroups 16 = .ok (.if_icmp .ge 31, 3) := by decide +kernel
theorem dX9_sureGroups_19 : decode cX9_sureGroups 19 = .ok (.aload_n 0, 1) := by decide +kernel
theorem dX9_sureGroups_20 : decode cX9_sureGroups 20 = .ok (.getfield 71, 3) := by decide +kernel
theorem dX9_sureGroups_23 : decode cX9_sureGroups 23 = .ok (.aload_n 0, 1) := by decide +kernel
theorem dX9_sureGroups_24 : decode cX9_sureGroups 24 = .ok (.getfield 62, 3) := by decide +kernel
theorem dX9_sureGroups_27 : decode cX9_sureGroups 27 = .ok (.getfield 161, 3) := by decide +kernel
theorem dX9_sureGroups_30 : decode cX9_sureGroups 30 = .ok (.iload_n 2, 1) := by decide +kernel
theorem dX9_sureGroups_31 : decode cX9_sureGroups 31 = .ok (.iaload, 1) := by decide +kernel
theorem dX9_sureGroups_32 : decode cX9_sureGroups 32 = .ok (.invokevirtual 170, 3) := by decide +kernel
theorem dX9_sureGroups_35 : decode cX9_sureGroups 35 = .ok (.ifCond .ne 6, 3) := by decide +kernel
theorem dX9_sureGroups_38 : decode cX9_sureGroups 38 = .ok (.iinc 1 1, 3) := by decide +kernel
theorem dX9_sureGroups_41 : decode cX9_sureGroups 41 = .ok (.iinc 2 1, 3) := by decide +kernel
theorem dX9_sureGroups_44 : decode cX9_sureGroups 44 = .ok (.goto (-36), 3) := by decide +kernel
theorem dX9_sureGroups_47 : decode cX9_sureGroups 47 = .ok (.iload_n 1, 1) := by decide +kernel
theorem dX9_sureGroups_48 : decode cX9_sureGroups 48 = .ok (.ireturn, 1) := by decide +kernel
theorem dX9_hasStation_0 : decode cX9_hasStation 0 = .ok (.iload_n 1, 1) := by decide +kernel
theorem dX9_hasStation_1 : decode cX9_hasStation 1 = .ok (.aload_n 0, 1) := by decide +kernel
theorem dX9_hasStation_2 : decode cX9_hasStation 2 = .ok (.getfield 26, 3) := by decide +kernel
theorem dX9_hasStation_5 : decode cX9_hasStation 5 = .ok (.getfield 234, 3) := by decide +kernel
theorem dX9_hasStation_8 : decode cX9_hasStation 8 = .ok (.iconst 1, 1) := by decide +kernel
theorem dX9_hasStation_9 : decode cX9_hasStation 9 = .ok (.isub, 1) := by decide +kernel
theorem dX9_hasStation_10 : decode cX9_hasStation 10 = .ok (.invokestatic 84, 3) := by decide +kernel
theorem dX9_hasStation_13 : decode cX9_hasStation 13 = .ok (.ireturn, 1) := by decide +kernel
theorem dX9_hasReading_0 : decode cX9_hasReading 0 = .ok (.iload_n 1, 1) := by decide +kernel
theorem dX9_hasReading_1 : decode cX9_hasReading 1 = .ok (.aload_n 0, 1) := by decide +kernel
theorem dX9_hasReading_2 : decode cX9_hasReading 2 = .ok (.getfield 33, 3) := by decide +kernel
theorem dX9_hasReading_5 : decode cX9_hasReading 5 = .ok (.getfield 146, 3) := by decide +kernel
theorem dX9_hasReading_8 : decode cX9_hasReading 8 = .ok (.iconst 1, 1) := by decide +kernel
theorem dX9_hasReading_9 : decode cX9_hasReading 9 = .ok (.isub, 1) := by decide +kernel
theorem dX9_hasReading_10 : decode cX9_hasReading 10 = .ok (.invokestatic 84, 3) := by decide +kernel
theorem dX9_hasReading_13 : decode cX9_hasReading 13 = .ok (.ireturn, 1) := by decide +kernel
theorem dX9_within_0 : decode cX9_within 0 = .ok (.iload_n 0, 1) := by decide +kernel
theorem dX9_within_1 : decode cX9_within 1 = .ok (.ifCond .lt 12, 3) := by decide +kernel
theorem dX9_within_4 : decode cX9_within 4 = .ok (.iload_n 0, 1) := by decide +kernel
theorem dX9_within_5 : decode cX9_within 5 = .ok (.iload_n 1, 1) := by decide +kernel
theorem dX9_within_6 : decode cX9_within 6 = .ok (.if_icmp .gt 7, 3) := by decide +kernel
theorem dX9_within_9 : decode cX9_within 9 = .ok (.iconst 1, 1) := by decide +kernel
theorem dX9_within_10 : decode cX9_within 10 = .ok (.goto 4, 3) := by decide +kernel
theorem dX9_within_13 : decode cX9_within 13 = .ok (.iconst 0, 1) := by decide +kernel
theorem dX9_within_14 : decode cX9_within 14 = .ok (.ireturn, 1) := by decide +kernel
theorem dX9_holds_0 : decode cX9_holds 0 = .ok (.iload_n 0, 1) := by decide +kernel
theorem dX9_holds_1 : decode cX9_holds 1 = .ok (.iload_n 1, 1) := by decide +kernel
theorem dX9_holds_2 : decode cX9_holds 2 = .ok (.ishr, 1) := by decide +kernel
theorem dX9_holds_3 : decode cX9_holds 3 = .ok (.iconst 1, 1) := by decide +kernel
theorem dX9_holds_4 : decode cX9_holds 4 = .ok (.iand, 1) := by decide +kernel
theorem dX9_holds_5 : decode cX9_holds 5 = .ok (.ifCond .eq 7, 3) := by decide +kernel
theorem dX9_holds_8 : decode cX9_holds 8 = .ok (.iconst 1, 1) := by decide +kernel
theorem dX9_holds_9 : decode cX9_holds 9 = .ok (.goto 4, 3) := by decide +kernel
theorem dX9_holds_12 : decode cX9_holds 12 = .ok (.iconst 0, 1) := by decide +kernel
theorem dX9_holds_13 : decode cX9_holds 13 = .ok (.ireturn, 1) := by decide +kernel
theorem dX9_timeOf_0 : decode cX9_timeOf 0 = .ok (.iload_n 0, 1) := by decide +kernel
theorem dX9_timeOf_1 : decode cX9_timeOf 1 = .ok (.tableswitch 48 1 4 #[31, 35, 39, 43], 31) := by decide +kernel
theorem dX9_timeOf_32 : decode cX9_timeOf 32 = .ok (.iload_n 1, 1) := by decide +kernel
theorem dX9_timeOf_33 : decode cX9_timeOf 33 = .ok (.iconst 3, 1) := by decide +kernel
theorem dX9_timeOf_34 : decode cX9_timeOf 34 = .ok (.isub, 1) := by decide +kernel
theorem dX9_timeOf_35 : decode cX9_timeOf 35 = .ok (.ireturn, 1) := by decide +kernel
theorem dX9_timeOf_36 : decode cX9_timeOf 36 = .ok (.iload_n 1, 1) := by decide +kernel
theorem dX9_timeOf_37 : decode cX9_timeOf 37 = .ok (.iconst 3, 1) := by decide +kernel
theorem dX9_timeOf_38 : decode cX9_timeOf 38 = .ok (.iadd, 1) := by decide +kernel
theorem dX9_timeOf_39 : decode cX9_timeOf 39 = .ok (.ireturn, 1) := by decide +kernel
theorem dX9_timeOf_40 : decode cX9_timeOf 40 = .ok (.iload_n 1, 1) := by decide +kernel
theorem dX9_timeOf_41 : decode cX9_timeOf 41 = .ok (.iconst 2, 1) := by decide +kernel
theorem dX9_timeOf_42 : decode cX9_timeOf 42 = .ok (.idiv, 1) := by decide +kernel
theorem dX9_timeOf_43 : decode cX9_timeOf 43 = .ok (.ireturn, 1) := by decide +kernel
theorem dX9_timeOf_44 : decode cX9_timeOf 44 = .ok (.bipush 60, 2) := by decide +kernel
theorem dX9_timeOf_46 : decode cX9_timeOf 46 = .ok (.iload_n 1, 1) := by decide +kernel
theorem dX9_timeOf_47 : decode cX9_timeOf 47 = .ok (.isub, 1) := by decide +kernel
theorem dX9_timeOf_48 : decode cX9_timeOf 48 = .ok (.ireturn, 1) := by decide +kernel
theorem dX9_timeOf_49 : decode cX9_timeOf 49 = .ok (.iload_n 1, 1) := by decide +kernel
theorem dX9_timeOf_50 : decode cX9_timeOf 50 = .ok (.ireturn, 1) := by decide +kernel
theorem dX9_toldAt_0 : decode cX9_toldAt 0 = .ok (.iload_n 0, 1) := by decide +kernel
theorem dX9_toldAt_1 : decode cX9_toldAt 1 = .ok (.tableswitch 48 1 4 #[31, 35, 39, 43], 31) := by decide +kernel
theorem dX9_toldAt_32 : decode cX9_toldAt 32 = .ok (.iload_n 1, 1) := by decide +kernel
theorem dX9_toldAt_33 : decode cX9_toldAt 33 = .ok (.iconst 3, 1) := by decide +kernel
theorem dX9_toldAt_34 : decode cX9_toldAt 34 = .ok (.iadd, 1) := by decide +kernel
theorem dX9_toldAt_35 : decode cX9_toldAt 35 = .ok (.ireturn, 1) := by decide +kernel
theorem dX9_toldAt_36 : decode cX9_toldAt 36 = .ok (.iload_n 1, 1) := by decide +kernel
theorem dX9_toldAt_37 : decode cX9_toldAt 37 = .ok (.iconst 3, 1) := by decide +kernel
theorem dX9_toldAt_38 : decode cX9_toldAt 38 = .ok (.isub, 1) := by decide +kernel
theorem dX9_toldAt_39 : decode cX9_toldAt 39 = .ok (.ireturn, 1) := by decide +kernel
theorem dX9_toldAt_40 : decode cX9_toldAt 40 = .ok (.iconst 2, 1) := by decide +kernel
theorem dX9_toldAt_41 : decode cX9_toldAt 41 = .ok (.iload_n 1, 1) := by decide +kernel
theorem dX9_toldAt_42 : decode cX9_toldAt 42 = .ok (.imul, 1) := by decide +kernel
theorem dX9_toldAt_43 : decode cX9_toldAt 43 = .ok (.ireturn, 1) := by decide +kernel
theorem dX9_toldAt_44 : decode cX9_toldAt 44 = .ok (.bipush 60, 2) := by decide +kernel
theorem dX9_toldAt_46 : decode cX9_toldAt 46 = .ok (.iload_n 1, 1) := by decide +kernel
theorem dX9_toldAt_47 : decode cX9_toldAt 47 = .ok (.isub, 1) := by decide +kernel
theorem dX9_toldAt_48 : decode cX9_toldAt 48 = .ok (.ireturn, 1) := by decide +kernel
theorem dX9_toldAt_49 : decode cX9_toldAt 49 = .ok (.iload_n 1, 1) := by decide +kernel
theorem dX9_toldAt_50 : decode cX9_toldAt 50 = .ok (.ireturn, 1) := by decide +kernel
theorem dX9_wholeWay_0 : decode cX9_wholeWay 0 = .ok (.iload_n 0, 1) := by decide +kernel
theorem dX9_wholeWay_1 : decode cX9_wholeWay 1 = .ok (.iload_n 0, 1) := by decide +kernel
theorem dX9_wholeWay_2 : decode cX9_wholeWay 2 = .ok (.imul, 1) := by decide +kernel
theorem dX9_wholeWay_3 : decode cX9_wholeWay 3 = .ok (.iload_n 1, 1) := by decide +kernel
theorem dX9_wholeWay_4 : decode cX9_wholeWay 4 = .ok (.iload_n 1, 1) := by decide +kernel
theorem dX9_wholeWay_5 : decode cX9_wholeWay 5 = .ok (.imul, 1) := by decide +kernel
theorem dX9_wholeWay_6 : decode cX9_wholeWay 6 = .ok (.iadd, 1) := by decide +kernel
theorem dX9_wholeWay_7 : decode cX9_wholeWay 7 = .ok (.istore_n 2, 1) := by decide +kernel
theorem dX9_wholeWay_8 : decode cX9_wholeWay 8 = .ok (.iconst 0, 1) := by decide +kernel
theorem dX9_wholeWay_9 : decode cX9_wholeWay 9 = .ok (.istore_n 3, 1) := by decide +kernel
theorem dX9_wholeWay_10 : decode cX9_wholeWay 10 = .ok (.iload_n 3, 1) := by decide +kernel
theorem dX9_wholeWay_11 : decode cX9_wholeWay 11 = .ok (.bipush 41, 2) := by decide +kernel
theorem dX9_wholeWay_13 : decode cX9_wholeWay 13 = .ok (.if_icmp .gt 29, 3) := by decide +kernel
theorem dX9_wholeWay_16 : decode cX9_wholeWay 16 = .ok (.iload_n 3, 1) := by decide +kernel
theorem dX9_wholeWay_17 : decode cX9_wholeWay 17 = .ok (.iload_n 3, 1) := by decide +kernel
theorem dX9_wholeWay_18 : decode cX9_wholeWay 18 = .ok (.imul, 1) := by decide +kernel
theorem dX9_wholeWay_19 : decode cX9_wholeWay 19 = .ok (.iload_n 2, 1) := by decide +kernel
theorem dX9_wholeWay_20 : decode cX9_wholeWay 20 = .ok (.if_icmp .lt 16, 3) := by decide +kernel
theorem dX9_wholeWay_23 : decode cX9_wholeWay 23 = .ok (.iload_n 3, 1) := by decide +kernel
theorem dX9_wholeWay_24 : decode cX9_wholeWay 24 = .ok (.iload_n 3, 1) := by decide +kernel
theorem dX9_wholeWay_25 : decode cX9_wholeWay 25 = .ok (.imul, 1) := by decide +kernel
theorem dX9_wholeWay_26 : decode cX9_wholeWay 26 = .ok (.iload_n 2, 1) := by decide +kernel
theorem dX9_wholeWay_27 : decode cX9_wholeWay 27 = .ok (.if_icmp .ne 7, 3) := by decide +kernel
theorem dX9_wholeWay_30 : decode cX9_wholeWay 30 = .ok (.iload_n 3, 1) := by decide +kernel
theorem dX9_wholeWay_31 : decode cX9_wholeWay 31 = .ok (.goto 4, 3) := by decide +kernel
theorem dX9_wholeWay_34 : decode cX9_wholeWay 34 = .ok (.iconst (-1), 1) := by decide +kernel
theorem dX9_wholeWay_35 : decode cX9_wholeWay 35 = .ok (.ireturn, 1) := by decide +kernel
theorem dX9_wholeWay_36 : decode cX9_wholeWay 36 = .ok (.iinc 3 1, 3) := by decide +kernel
theorem dX9_wholeWay_39 : decode cX9_wholeWay 39 = .ok (.goto (-29), 3) := by decide +kernel
theorem dX9_wholeWay_42 : decode cX9_wholeWay 42 = .ok (.iconst (-1), 1) := by decide +kernel
theorem dX9_wholeWay_43 : decode cX9_wholeWay 43 = .ok (.ireturn, 1) := by decide +kernel
theorem dX9_power_0 : decode cX9_power 0 = .ok (.lconst 1, 1) := by decide +kernel
theorem dX9_power_1 : decode cX9_power 1 = .ok (.lstore_n 2, 1) := by decide +kernel
theorem dX9_power_2 : decode cX9_power 2 = .ok (.iconst 0, 1) := by decide +kernel
theorem dX9_power_3 : decode cX9_power 3 = .ok (.istore 4, 2) := by decide +kernel
theorem dX9_power_5 : decode cX9_power 5 = .ok (.iload 4, 2) := by decide +kernel
theorem dX9_power_7 : decode cX9_power 7 = .ok (.iload_n 1, 1) := by decide +kernel
theorem dX9_power_8 : decode cX9_power 8 = .ok (.if_icmp .ge 14, 3) := by decide +kernel
theorem dX9_power_11 : decode cX9_power 11 = .ok (.lload_n 2, 1) := by decide +kernel
theorem dX9_power_12 : decode cX9_power 12 = .ok (.iload_n 0, 1) := by decide +kernel
theorem dX9_power_13 : decode cX9_power 13 = .ok (.i2l, 1) := by decide +kernel
theorem dX9_power_14 : decode cX9_power 14 = .ok (.lmul, 1) := by decide +kernel
theorem dX9_power_15 : decode cX9_power 15 = .ok (.lstore_n 2, 1) := by decide +kernel
theorem dX9_power_16 : decode cX9_power 16 = .ok (.iinc 4 1, 3) := by decide +kernel
theorem dX9_power_19 : decode cX9_power 19 = .ok (.goto (-14), 3) := by decide +kernel
theorem dX9_power_22 : decode cX9_power 22 = .ok (.lload_n 2, 1) := by decide +kernel
theorem dX9_power_23 : decode cX9_power 23 = .ok (.lreturn, 1) := by decide +kernel
theorem dX9_commonDivisor_0 : decode cX9_commonDivisor 0 = .ok (.lload_n 0, 1) := by decide +kernel
theorem dX9_commonDivisor_1 : decode cX9_commonDivisor 1 = .ok (.invokestatic 242, 3) := by decide +kernel
theorem dX9_commonDivisor_4 : decode cX9_commonDivisor 4 = .ok (.lstore 4, 2) := by decide +kernel
theorem dX9_commonDivisor_6 : decode cX9_commonDivisor 6 = .ok (.lload_n 2, 1) := by decide +kernel
theorem dX9_commonDivisor_7 : decode cX9_commonDivisor 7 = .ok (.invokestatic 242, 3) := by decide +kernel
theorem dX9_commonDivisor_10 : decode cX9_commonDivisor 10 = .ok (.lstore 6, 2) := by decide +kernel
theorem dX9_commonDivisor_12 : decode cX9_commonDivisor 12 = .ok (.iconst 0, 1) := by decide +kernel
theorem dX9_commonDivisor_13 : decode cX9_commonDivisor 13 = .ok (.istore 8, 2) := by decide +kernel
theorem dX9_commonDivisor_15 : decode cX9_commonDivisor 15 = .ok (.iload 8, 2) := by decide +kernel
theorem dX9_commonDivisor_17 : decode cX9_commonDivisor 17 = .ok (.bipush 100, 2) := by decide +kernel
theorem dX9_commonDivisor_19 : decode cX9_commonDivisor 19 = .ok (.if_icmp .ge 31, 3) := by decide +kernel
theorem dX9_commonDivisor_22 : decode cX9_commonDivisor 22 = .ok (.lload 6, 2) := by decide +kernel
theorem dX9_commonDivisor_24 : decode cX9_commonDivisor 24 = .ok (.lconst 0, 1) := by decide +kernel
theorem dX9_commonDivisor_25 : decode cX9_commonDivisor 25 = .ok (.lcmp, 1) := by decide +kernel
theorem dX9_commonDivisor_26 : decode cX9_commonDivisor 26 = .ok (.ifCond .eq 24, 3) := by decide +kernel
theorem dX9_commonDivisor_29 : decode cX9_commonDivisor 29 = .ok (.lload 4, 2) := by decide +kernel
theorem dX9_commonDivisor_31 : decode cX9_commonDivisor 31 = .ok (.lload 6, 2) := by decide +kernel
theorem dX9_commonDivisor_33 : decode cX9_commonDivisor 33 = .ok (.lrem, 1) := by decide +kernel
theorem dX9_commonDivisor_34 : decode cX9_commonDivisor 34 = .ok (.lstore 9, 2) := by decide +kernel
theorem dX9_commonDivisor_36 : decode cX9_commonDivisor 36 = .ok (.lload 6, 2) := by decide +kernel
theorem dX9_commonDivisor_38 : decode cX9_commonDivisor 38 = .ok (.lstore 4, 2) := by decide +kernel
theorem dX9_commonDivisor_40 : decode cX9_commonDivisor 40 = .ok (.lload 9, 2) := by decide +kernel
theorem dX9_commonDivisor_42 : decode cX9_commonDivisor 42 = .ok (.lstore 6, 2) := by decide +kernel
theorem dX9_commonDivisor_44 : decode cX9_commonDivisor 44 = .ok (.iinc 8 1, 3) := by decide +kernel
theorem dX9_commonDivisor_47 : decode cX9_commonDivisor 47 = .ok (.goto (-32), 3) := by decide +kernel
theorem dX9_commonDivisor_50 : decode cX9_commonDivisor 50 = .ok (.lload 4, 2) := by decide +kernel
theorem dX9_commonDivisor_52 : decode cX9_commonDivisor 52 = .ok (.lreturn, 1) := by decide +kernel
theorem dX9_upper_0 : decode cX9_upper 0 = .ok (.lload_n 0, 1) := by decide +kernel
theorem dX9_upper_1 : decode cX9_upper 1 = .ok (.lload_n 2, 1) := by decide +kernel
theorem dX9_upper_2 : decode cX9_upper 2 = .ok (.invokestatic 248, 3) := by decide +kernel
theorem dX9_upper_5 : decode cX9_upper 5 = .ok (.lstore 4, 2) := by decide +kernel
theorem dX9_upper_7 : decode cX9_upper 7 = .ok (.lload 4, 2) := by decide +kernel
theorem dX9_upper_9 : decode cX9_upper 9 = .ok (.lconst 0, 1) := by decide +kernel
theorem dX9_upper_10 : decode cX9_upper 10 = .ok (.lcmp, 1) := by decide +kernel
theorem dX9_upper_11 : decode cX9_upper 11 = .ok (.ifCond .ne 7, 3) := by decide +kernel
theorem dX9_upper_14 : decode cX9_upper 14 = .ok (.iconst 0, 1) := by decide +kernel
theorem dX9_upper_15 : decode cX9_upper 15 = .ok (.goto 8, 3) := by decide +kernel
theorem dX9_upper_18 : decode cX9_upper 18 = .ok (.lload_n 0, 1) := by decide +kernel
theorem dX9_upper_19 : decode cX9_upper 19 = .ok (.lload 4, 2) := by decide +kernel
theorem dX9_upper_21 : decode cX9_upper 21 = .ok (.ldiv, 1) := by decide +kernel
theorem dX9_upper_22 : decode cX9_upper 22 = .ok (.l2i, 1) := by decide +kernel
theorem dX9_upper_23 : decode cX9_upper 23 = .ok (.ireturn, 1) := by decide +kernel
theorem dX9_lower_0 : decode cX9_lower 0 = .ok (.lload_n 0, 1) := by decide +kernel
theorem dX9_lower_1 : decode cX9_lower 1 = .ok (.lload_n 2, 1) := by decide +kernel
theorem dX9_lower_2 : decode cX9_lower 2 = .ok (.invokestatic 248, 3) := by decide +kernel
theorem dX9_lower_5 : decode cX9_lower 5 = .ok (.lstore 4, 2) := by decide +kernel
theorem dX9_lower_7 : decode cX9_lower 7 = .ok (.lload 4, 2) := by decide +kernel
theorem dX9_lower_9 : decode cX9_lower 9 = .ok (.lconst 0, 1) := by decide +kernel
theorem dX9_lower_10 : decode cX9_lower 10 = .ok (.lcmp, 1) := by decide +kernel
theorem dX9_lower_11 : decode cX9_lower 11 = .ok (.ifCond .ne 7, 3) := by decide +kernel
theorem dX9_lower_14 : decode cX9_lower 14 = .ok (.iconst 1, 1) := by decide +kernel
theorem dX9_lower_15 : decode cX9_lower 15 = .ok (.goto 8, 3) := by decide +kernel
theorem dX9_lower_18 : decode cX9_lower 18 = .ok (.lload_n 2, 1) := by decide +kernel
theorem dX9_lower_19 : decode cX9_lower 19 = .ok (.lload 4, 2) := by decide +kernel
theorem dX9_lower_21 : decode cX9_lower 21 = .ok (.ldiv, 1) := by decide +kernel
theorem dX9_lower_22 : decode cX9_lower 22 = .ok (.l2i, 1) := by decide +kernel
theorem dX9_lower_23 : decode cX9_lower 23 = .ok (.ireturn, 1) := by decide +kernel
end
section
theorem dX10_init_0 : decode cX10_init 0 = .ok (.aload_n 0, 1) := by decide +kernel
theorem dX10_init_1 : decode cX10_init 1 = .ok (.invokespecial 1, 3) := by decide +kernel
theorem dX10_init_4 : decode cX10_init 4 = .ok (.aload_n 0, 1) := by decide +kernel
theorem dX10_init_5 : decode cX10_init 5 = .ok (.bipush 6, 2) := by decide +kernel
theorem dX10_init_7 : decode cX10_init 7 = .ok (.newarray .int, 2) := by decide +kernel
theorem dX10_init_9 : decode cX10_init 9 = .ok (.putfield 7, 3) := by decide +kernel
theorem dX10_init_12 : decode cX10_init 12 = .ok (.aload_n 0, 1) := by decide +kernel
theorem dX10_init_13 : decode cX10_init 13 = .ok (.bipush 6, 2) := by decide +kernel
theorem dX10_init_15 : decode cX10_init 15 = .ok (.newarray .int, 2) := by decide +kernel
theorem dX10_init_17 : decode cX10_init 17 = .ok (.putfield 13, 3) := by decide +kernel
theorem dX10_init_20 : decode cX10_init 20 = .ok (.aload_n 0, 1) := by decide +kernel
theorem dX10_init_21 : decode cX10_init 21 = .ok (.bipush 25, 2) := by decide +kernel
theorem dX10_init_23 : decode cX10_init 23 = .ok (.newarray .int, 2) := by decide +kernel
theorem dX10_init_25 : decode cX10_init 25 = .ok (.putfield 16, 3) := by decide +kernel
theorem dX10_init_28 : decode cX10_init 28 = .ok (.aload_n 0, 1) := by decide +kernel
theorem dX10_init_29 : decode cX10_init 29 = .ok (.sipush 250, 3) := by decide +kernel
theorem dX10_init_32 : decode cX10_init 32 = .ok (.newarray .int, 2) := by decide +kernel
theorem dX10_init_34 : decode cX10_init 34 = .ok (.putfield 19, 3) := by decide +kernel
theorem dX10_init_37 : decode cX10_init 37 = .ok (.aload_n 0, 1) := by decide +kernel
theorem dX10_init_38 : decode cX10_init 38 = .ok (.iconst 2, 1) := by decide +kernel
theorem dX10_init_39 : decode cX10_init 39 = .ok (.newarray .boolean, 2) := by decide +kernel
theorem dX10_init_41 : decode cX10_init 41 = .ok (.putfield 22, 3) := by decide +kernel
theorem dX10_init_44 : decode cX10_init 44 = .ok (.aload_n 0, 1) := by decide +kernel
theorem dX10_init_45 : decode cX10_init 45 = .ok (.bipush 50, 2) := by decide +kernel
theorem dX10_init_47 : decode cX10_init 47 = .ok (.newarray .int, 2) := by decide +kernel
theorem dX10_init_49 : decode cX10_init 49 = .ok (.putfield 26, 3) := by decide +kernel
theorem dX10_init_52 : decode cX10_init 52 = .ok (.aload_n 0, 1) := by decide +kernel
theorem dX10_init_53 : decode cX10_init 53 = .ok (.bipush 110, 2) := by decide +kernel
theorem dX10_init_55 : decode cX10_init 55 = .ok (.newarray .int, 2) := by decide +kernel
theorem dX10_init_57 : decode cX10_init 57 = .ok (.putfield 29, 3) := by decide +kernel
theorem dX10_init_60 : decode cX10_init 60 = .ok (.aload_n 0, 1) := by decide +kernel
theorem dX10_init_61 : decode cX10_init 61 = .ok (.bipush 6, 2) := by decide +kernel
theorem dX10_init_63 : decode cX10_init 63 = .ok (.newarray .int, 2) := by decide +kernel
theorem dX10_init_65 : decode cX10_init 65 = .ok (.putfield 32, 3) := by decide +kernel
theorem dX10_init_68 : decode cX10_init 68 = .ok (.aload_n 0, 1) := by decide +kernel
theorem dX10_init_69 : decode cX10_init 69 = .ok (.bipush 6, 2) := by decide +kernel
theorem dX10_init_71 : decode cX10_init 71 = .ok (.newarray .int, 2) := by decide +kernel
theorem dX10_init_73 : decode cX10_init 73 = .ok (.putfield 35, 3) := by decide +kernel
theorem dX10_init_76 : decode cX10_init 76 = .ok (.aload_n 0, 1) := by decide +kernel
theorem dX10_init_77 : decode cX10_init 77 = .ok (.bipush 25, 2) := by decide +kernel
theorem dX10_init_79 : decode cX10_init 79 = .ok (.newarray .int, 2) := by decide +kernel
theorem dX10_init_81 : decode cX10_init 81 = .ok (.putfield 38, 3) := by decide +kernel
theorem dX10_init_84 : decode cX10_init 84 = .ok (.aload_n 0, 1) := by decide +kernel
theorem dX10_init_85 : decode cX10_init 85 = .ok (.bipush 9, 2) := by decide +kernel
theorem dX10_init_87 : decode cX10_init 87 = .ok (.newarray .int, 2) := by decide +kernel
theorem dX10_init_89 : decode cX10_init 89 = .ok (.putfield 41, 3) := by decide +kernel
theorem dX10_init_92 : decode cX10_init 92 = .ok (.aload_n 0, 1) := by decide +kernel
theorem dX10_init_93 : decode cX10_init 93 = .ok (.bipush 36, 2) := by decide +kernel
theorem dX10_init_95 : decode cX10_init 95 = .ok (.newarray .long, 2) := by decide +kernel
theorem dX10_init_97 : decode cX10_init 97 = .ok (.putfield 44, 3) := by decide +kernel
theorem dX10_init_100 : decode cX10_init 100 = .ok (.return_, 1) := by decide +kernel
theorem dX10_in_0 : decode cX10_in 0 = .ok (.iload_n 0, 1) := by decide +kernel
theorem dX10_in_1 : decode cX10_in 1 = .ok (.iload_n 1, 1) := by decide +kernel
theorem dX10_in_2 : decode cX10_in 2 = .ok (.if_icmp .lt 12, 3) := by decide +kernel
theorem dX10_in_5 : decode cX10_in 5 = .ok (.iload_n 0, 1) := by decide +kernel
theorem dX10_in_6 : decode cX10_in 6 = .ok (.iload_n 2, 1) := by decide +kernel
theorem dX10_in_7 : decode cX10_in 7 = .ok (.if_icmp .gt 7, 3) := by decide +kernel
theorem dX10_in_10 : decode cX10_in 10 = .ok (.iconst 1, 1) := by decide +kernel
theorem dX10_in_11 : decode cX10_in 11 = .ok (.goto 4, 3) := by decide +kernel
theorem dX10_in_14 : decode cX10_in 14 = .ok (.iconst 0, 1) := by decide +kernel
theorem dX10_in_15 : decode cX10_in 15 = .ok (.ireturn, 1) := by decide +kernel
theorem dX10_has_0 : decode cX10_has 0 = .ok (.iload_n 0, 1) := by decide +kernel
theorem dX10_has_1 : decode cX10_has 1 = .ok (.iload_n 1, 1) := by decide +kernel
theorem dX10_has_2 : decode cX10_has 2 = .ok (.ishr, 1) := by decide +kernel
theorem dX10_has_3 : decode cX10_has 3 = .ok (.iconst 1, 1) := by decide +kernel
theorem dX10_has_4 : decode cX10_has 4 = .ok (.iand, 1) := by decide +kernel
theorem dX10_has_5 : decode cX10_has 5 = .ok (.iconst 1, 1) := by decide +kernel
theorem dX10_has_6 : decode cX10_has 6 = .ok (.if_icmp .ne 7, 3) := by decide +kernel
theorem dX10_has_9 : decode cX10_has 9 = .ok (.iconst 1, 1) := by decide +kernel
theorem dX10_has_10 : decode cX10_has 10 = .ok (.goto 4, 3) := by decide +kernel
theorem dX10_has_13 : decode cX10_has 13 = .ok (.iconst 0, 1) := by decide +kernel
theorem dX10_has_14 : decode cX10_has 14 = .ok (.ireturn, 1) := by decide +kernel
theorem dX10_bits_0 : decode cX10_bits 0 = .ok (.iconst 0, 1) := by decide +kernel
theorem dX10_bits_1 : decode cX10_bits 1 = .ok (.istore_n 1, 1) := by decide +kernel
theorem dX10_bits_2 : decode cX10_bits 2 = .ok (.iload_n 0, 1) := by decide +kernel
theorem dX10_bits_3 : decode cX10_bits 3 = .ok (.istore_n 2, 1) := by decide +kernel
theorem dX10_bits_4 : decode cX10_bits 4 = .ok (.iload_n 2, 1) := by decide +kernel
theorem dX10_bits_5 : decode cX10_bits 5 = .ok (.ifCond .eq 15, 3) := by decide +kernel
theorem dX10_bits_8 : decode cX10_bits 8 = .ok (.iinc 1 1, 3) := by decide +kernel
theorem dX10_bits_11 : decode cX10_bits 11 = .ok (.iload_n 2, 1) := by decide +kernel
theorem dX10_bits_12 : decode cX10_bits 12 = .ok (.iload_n 2, 1) := by decide +kernel
theorem dX10_bits_13 : decode cX10_bits 13 = .ok (.iconst 1, 1) := by decide +kernel
theorem dX10_bits_14 : decode cX10_bits 14 = .ok (.isub, 1) := by decide +kernel
theorem dX10_bits_15 : decode cX10_bits 15 = .ok (.iand, 1) := by decide +kernel
theorem dX10_bits_16 : decode cX10_bits 16 = .ok (.istore_n 2, 1) := by decide +kernel
theorem dX10_bits_17 : decode cX10_bits 17 = .ok (.goto (-13), 3) := by decide +kernel
theorem dX10_bits_20 : decode cX10_bits 20 = .ok (.iload_n 1, 1) := by decide +kernel
theorem dX10_bits_21 : decode cX10_bits 21 = .ok (.ireturn, 1) := by decide +kernel
theorem dX10_type_0 : decode cX10_type 0 = .ok (.iload_n 1, 1) := by decide +kernel
theorem dX10_type_1 : decode cX10_type 1 = .ok (.iconst 0, 1) := by decide +kernel
theorem dX10_type_2 : decode cX10_type 2 = .ok (.sipush 255, 3) := by decide +kernel
theorem dX10_type_5 : decode cX10_type 5 = .ok (.invokestatic 48, 3) := by decide +kernel
theorem dX10_type_8 : decode cX10_type 8 = .ok (.ifCond .ne 5, 3) := by decide +kernel
theorem dX10_type_11 : decode cX10_type 11 = .ok (.iconst (-1), 1) := by decide +kernel
theorem dX10_type_12 : decode cX10_type 12 = .ok (.ireturn, 1) := by decide +kernel
theorem dX10_type_13 : decode cX10_type 13 = .ok (.aload_n 0, 1) := by decide +kernel
theorem dX10_type_14 : decode cX10_type 14 = .ok (.getfield 52, 3) := by decide +kernel
theorem dX10_type_17 : decode cX10_type 17 = .ok (.bipush 110, 2) := by decide +kernel
theorem dX10_type_19 : decode cX10_type 19 = .ok (.if_icmp .ne 6, 3) := by decide +kernel
theorem dX10_type_22 : decode cX10_type 22 = .ok (.bipush (-3), 2) := by decide +kernel
theorem dX10_type_24 : decode cX10_type 24 = .ok (.ireturn, 1) := by decide +kernel
theorem dX10_type_25 : decode cX10_type 25 = .ok (.aload_n 0, 1) := by decide +kernel
theorem dX10_type_26 : decode cX10_type 26 = .ok (.getfield 29, 3) := by decide +kernel
theorem dX10_type_29 : decode cX10_type 29 = .ok (.aload_n 0, 1) := by decide +kernel
theorem dX10_type_30 : decode cX10_type 30 = .ok (.getfield 52, 3) := by decide +kernel
theorem dX10_type_33 : decode cX10_type 33 = .ok (.iload_n 1, 1) := by decide +kernel
theorem dX10_type_34 : decode cX10_type 34 = .ok (.iastore, 1) := by decide +kernel
theorem dX10_type_35 : decode cX10_type 35 = .ok (.aload_n 0, 1) := by decide +kernel
theorem dX10_type_36 : decode cX10_type 36 = .ok (.dup, 1) := by decide +kernel
theorem dX10_type_37 : decode cX10_type 37 = .ok (.getfield 52, 3) := by decide +kernel
theorem dX10_type_40 : decode cX10_type 40 = .ok (.iconst 1, 1) := by decide +kernel
theorem dX10_type_41 : decode cX10_type 41 = .ok (.iadd, 1) := by decide +kernel
theorem dX10_type_42 : decode cX10_type 42 = .ok (.putfield 52, 3) := by decide +kernel
theorem dX10_type_45 : decode cX10_type 45 = .ok (.aload_n 0, 1) := by decide +kernel
theorem dX10_type_46 : decode cX10_type 46 = .ok (.getfield 52, 3) := by decide +kernel
theorem dX10_type_49 : decode cX10_type 49 = .ok (.ireturn, 1) := by decide +kernel
theorem dX10_clear_0 : decode cX10_clear 0 = .ok (.aload_n 0, 1) := by decide +kernel
theorem dX10_clear_1 : decode cX10_clear 1 = .ok (.getfield 52, 3) := by decide +kernel
theorem dX10_clear_4 : decode cX10_clear 4 = .ok (.istore_n 1, 1) := by decide +kernel
theorem dX10_clear_5 : decode cX10_clear 5 = .ok (.aload_n 0, 1) := by decide +kernel
theorem dX10_clear_6 : decode cX10_clear 6 = .ok (.iconst 0, 1) := by decide +kernel
theorem dX10_clear_7 : decode cX10_clear 7 = .ok (.putfield 52, 3) := by decide +kernel
theorem dX10_clear_10 : decode cX10_clear 10 = .ok (.iload_n 1, 1) := by decide +kernel
theorem dX10_clear_11 : decode cX10_clear 11 = .ok (.ireturn, 1) := by decide +kernel
theorem dX10_isFigure_0 : decode cX10_isFigure 0 = .ok (.aload_n 0, 1) := by decide +kernel
theorem dX10_isFigure_1 : decode cX10_isFigure 1 = .ok (.getfield 56, 3) := by decide +kernel
theorem dX10_isFigure_4 : decode cX10_isFigure 4 = .ok (.aload_n 0, 1) := by decide +kernel
theorem dX10_isFigure_5 : decode cX10_isFigure 5 = .ok (.getfield 52, 3) := by decide +kernel
theorem dX10_isFigure_8 : decode cX10_isFigure 8 = .ok (.if_icmp .ge 26, 3) := by decide +kernel
theorem dX10_isFigure_11 : decode cX10_isFigure 11 = .ok (.aload_n 0, 1) := by decide +kernel
theorem dX10_isFigure_12 : decode cX10_isFigure 12 = .ok (.getfield 29, 3) := by decide +kernel
theorem dX10_isFigure_15 : decode cX10_isFigure 15 = .ok (.aload_n 0, 1) := by decide +kernel
theorem dX10_isFigure_16 : decode cX10_isFigure 16 = .ok (.getfield 56, 3) := by decide +kernel
theorem dX10_isFigure_19 : decode cX10_isFigure 19 = .ok (.iaload, 1) := by decide +kernel
theorem dX10_isFigure_20 : decode cX10_isFigure 20 = .ok (.bipush 48, 2) := by decide +kernel
theorem dX10_isFigure_22 : decode cX10_isFigure 22 = .ok (.bipush 57, 2) := by decide +kernel
theorem dX10_isFigure_24 : decode cX10_isFigure 24 = .ok (.invokestatic 48, 3) := by decide +kernel
theorem dX10_isFigure_27 : decode cX10_isFigure 27 = .ok (.ifCond .eq 7, 3) := by decide +kernel
theorem dX10_isFigure_30 : decode cX10_isFigure 30 = .ok (.iconst 1, 1) := by decide +kernel
theorem dX10_isFigure_31 : decode cX10_isFigure 31 = .ok (.goto 4, 3) := by decide +kernel
theorem dX10_isFigure_34 : decode cX10_isFigure 34 = .ok (.iconst 0, 1) := by decide +kernel
theorem dX10_isFigure_35 : decode cX10_isFigure 35 = .ok (.ireturn, 1) := by decide +kernel
theorem dX10_blanks_0 : decode cX10_blanks 0 = .ok (.aload_n 0, 1) := by decide +kernel
theorem dX10_blanks_1 : decode cX10_blanks 1 = .ok (.getfield 56, 3) := by decide +kernel
theorem dX10_blanks_4 : decode cX10_blanks 4 = .ok (.aload_n 0, 1) := by decide +kernel
theorem dX10_blanks_5 : decode cX10_blanks 5 = .ok (.getfield 52, 3) := by decide +kernel
theorem dX10_blanks_8 : decode cX10_blanks 8 = .ok (.if_icmp .ge 30, 3) := by decide +kernel
theorem dX10_blanks_11 : decode cX10_blanks 11 = .ok (.aload_n 0, 1) := by decide +kernel
theorem dX10_blanks_12 : decode cX10_blanks 12 = .ok (.getfield 29, 3) := by decide +kernel
theorem dX10_blanks_15 : decode cX10_blanks 15 = .ok (.aload_n 0, 1) := by decide +kernel
theorem dX10_blanks_16 : decode cX10_blanks 16 = .ok (.getfield 56, 3) := by decide +kernel
theorem dX10_blanks_19 : decode cX10_blanks 19 = .ok (.iaload, 1) := by decide +kernel
theorem dX10_blanks_20 : decode cX10_blanks 20 = .ok (.bipush 32, 2) := by decide +kernel
theorem dX10_blanks_22 : decode cX10_blanks 22 = .ok (.if_icmp .ne 16, 3) := by decide +kernel
theorem dX10_blanks_25 : decode cX10_blanks 25 = .ok (.aload_n 0, 1) := by decide +kernel
theorem dX10_blanks_26 : decode cX10_blanks 26 = .ok (.dup, 1) := by decide +kernel
theorem dX10_blanks_27 : decode cX10_blanks 27 = .ok (.getfield 56, 3) := by decide +kernel
theorem dX10_blanks_30 : decode cX10_blanks 30 = .ok (.iconst 1, 1) := by decide +kernel
theorem dX10_blanks_31 : decode cX10_blanks 31 = .ok (.iadd, 1) := by decide +kernel
theorem dX10_blanks_32 : decode cX10_blanks 32 = .ok (.putfield 56, 3) := by decide +kernel
theorem dX10_blanks_35 : decode cX10_blanks 35 = .ok (.goto (-35), 3) := by decide +kernel
theorem dX10_blanks_38 : decode cX10_blanks 38 = .ok (.return_, 1) := by decide +kernel
theorem dX10_next_0 : decode cX10_next 0 = .ok (.aload_n 0, 1) := by decide +kernel
theorem dX10_next_1 : decode cX10_next 1 = .ok (.invokevirtual 59, 3) := by decide +kernel
theorem dX10_next_4 : decode cX10_next 4 = .ok (.aload_n 0, 1) := by decide +kernel
theorem dX10_next_5 : decode cX10_next 5 = .ok (.aload_n 0, 1) := by decide +kernel
theorem dX10_next_6 : decode cX10_next 6 = .ok (.getfield 56, 3) := by decide +kernel
theorem dX10_next_9 : decode cX10_next 9 = .ok (.putfield 62, 3) := by decide +kernel
theorem dX10_next_12 : decode cX10_next 12 = .ok (.aload_n 0, 1) := by decide +kernel
theorem dX10_next_13 : decode cX10_next 13 = .ok (.getfield 56, 3) := by decide +kernel
theorem dX10_next_16 : decode cX10_next 16 = .ok (.aload_n 0, 1) := by decide +kernel
theorem dX10_next_17 : decode cX10_next 17 = .ok (.getfield 52, 3) := by decide +kernel
theorem dX10_next_20 : decode cX10_next 20 = .ok (.if_icmp .ne 11, 3) := by decide +kernel
theorem dX10_next_23 : decode cX10_next 23 = .ok (.aload_n 0, 1) := by decide +kernel
theorem dX10_next_24 : decode cX10_next 24 = .ok (.iconst (-1), 1) := by decide +kernel
theorem dX10_next_25 : decode cX10_next 25 = .ok (.putfield 65, 3) := by decide +kernel
theorem dX10_next_28 : decode cX10_next 28 = .ok (.goto 185, 3) := by decide +kernel
theorem dX10_next_31 : decode cX10_next 31 = .ok (.aload_n 0, 1) := by decide +kernel
theorem dX10_next_32 : decode cX10_next 32 = .ok (.invokevirtual 68, 3) := by decide +kernel
theorem dX10_next_35 : decode cX10_next 35 = .ok (.ifCond .eq 117, 3) := by decide +kernel
theorem dX10_next_38 : decode cX10_next 38 = .ok (.aload_n 0, 1) := by decide +kernel
theorem dX10_next_39 : decode cX10_next 39 = .ok (.iconst 0, 1) := by decide +kernel
theorem dX10_next_40 : decode cX10_next 40 = .ok (.putfield 72, 3) := by decide +kernel
theorem dX10_next_43 : decode cX10_next 43 = .ok (.aload_n 0, 1) := by decide +kernel
theorem dX10_next_44 : decode cX10_next 44 = .ok (.invokevirtual 68, 3) := by decide +kernel
theorem dX10_next_47 : decode cX10_next 47 = .ok (.ifCond .eq 56, 3) := by decide +kernel
theorem dX10_next_50 : decode cX10_next 50 = .ok (.aload_n 0, 1) := by decide +kernel
theorem dX10_next_51 : decode cX10_next 51 = .ok (.aload_n 0, 1) := by decide +kernel
theorem dX10_next_52 : decode cX10_next 52 = .ok (.getfield 72, 3) := by decide +kernel
theorem dX10_next_55 : decode cX10_next 55 = .ok (.bipush 99, 2) := by decide +kernel
theorem dX10_next_57 : decode cX10_next 57 = .ok (.if_icmp .le 10, 3) := by decide +kernel
theorem dX10_next_60 : decode cX10_next 60 = .ok (.aload_n 0, 1) := by decide +kernel
theorem dX10_next_61 : decode cX10_next 61 = .ok (.getfield 72, 3) := by decide +kernel
theorem dX10_next_64 : decode cX10_next 64 = .ok (.goto 23, 3) := by decide +kernel
theorem dX10_next_67 : decode cX10_next 67 = .ok (.bipush 10, 2) := by decide +kernel
theorem dX10_next_69 : decode cX10_next 69 = .ok (.aload_n 0, 1) := by decide +kernel
theorem dX10_next_70 : decode cX10_next 70 = .ok (.getfield 72, 3) := by decide +kernel
theorem dX10_next_73 : decode cX10_next 73 = .ok (.imul, 1) := by decide +kernel
theorem dX10_next_74 : decode cX10_next 74 = .ok (.aload_n 0, 1) := by decide +kernel
theorem dX10_next_75 : decode cX10_next 75 = .ok (.getfield 29, 3) := by decide +kernel
theorem dX10_next_78 : decode cX10_next 78 = .ok (.aload_n 0, 1) := by decide +kernel
theorem dX10_next_79 : decode cX10_next 79 = .ok (.getfield 56, 3) := by decide +kernel
theorem dX10_next_82 : decode cX10_next 82 = .ok (.iaload, 1) := by decide +kernel
theorem dX10_next_83 : decode cX10_next 83 = .ok (.iadd, 1) := by decide +kernel
theorem dX10_next_84 : decode cX10_next 84 = .ok (.bipush 48, 2) := by decide +kernel
theorem dX10_next_86 : decode cX10_next 86 = .ok (.isub, 1) := by decide +kernel
theorem dX10_next_87 : decode cX10_next 87 = .ok (.putfield 72, 3) := by decide +kernel
theorem dX10_next_90 : decode cX10_next 90 = .ok (.aload_n 0, 1) := by decide +kernel
theorem dX10_next_91 : decode cX10_next 91 = .ok (.dup, 1) := by decide +kernel
theorem dX10_next_92 : decode cX10_next 92 = .ok (.getfield 56, 3) := by decide +kernel
theorem dX10_next_95 : decode cX10_next 95 = .ok (.iconst 1, 1) := by decide +kernel
theorem dX10_next_96 : decode cX10_next 96 = .ok (.iadd, 1) := by decide +kernel
theorem dX10_next_97 : decode cX10_next 97 = .ok (.putfield 56, 3) := by decide +kernel
theorem dX10_next_100 : decode cX10_next 100 = .ok (.goto (-57), 3) := by decide +kernel
theorem dX10_next_103 : decode cX10_next 103 = .ok (.aload_n 0, 1) := by decide +kernel
theorem dX10_next_104 : decode cX10_next 104 = .ok (.aload_n 0, 1) := by decide +kernel
theorem dX10_next_105 : decode cX10_next 105 = .ok (.getfield 72, 3) := by decide +kernel
theorem dX10_next_108 : decode cX10_next 108 = .ok (.bipush 99, 2) := by decide +kernel
theorem dX10_next_110 : decode cX10_next 110 = .ok (.if_icmp .gt 30, 3) := by decide +kernel
theorem dX10_next_113 : decode cX10_next 113 = .ok (.aload_n 0, 1) := by decide +kernel
theorem dX10_next_114 : decode cX10_next 114 = .ok (.getfield 29, 3) := by decide +kernel
theorem dX10_next_117 : decode cX10_next 117 = .ok (.aload_n 0, 1) := by decide +kernel
theorem dX10_next_118 : decode cX10_next 118 = .ok (.getfield 62, 3) := by decide +kernel
theorem dX10_next_121 : decode cX10_next 121 = .ok (.iaload, 1) := by decide +kernel
theorem dX10_next_122 : decode cX10_next 122 = .ok (.bipush 48, 2) := by decide +kernel
theorem dX10_next_124 : decode cX10_next 124 = .ok (.if_icmp .ne 21, 3) := by decide +kernel
theorem dX10_next_127 : decode cX10_next 127 = .ok (.aload_n 0, 1) := by decide +kernel
theorem dX10_next_128 : decode cX10_next 128 = .ok (.getfield 56, 3) := by decide +kernel
theorem dX10_next_131 : decode cX10_next 131 = .ok (.aload_n 0, 1) := by decide +kernel
theorem dX10_next_132 : decode cX10_next 132 = .ok (.getfield 62, 3) := by decide +kernel
theorem dX10_next_135 : decode cX10_next 135 = .ok (.isub, 1) := by decide +kernel
theorem dX10_next_136 : decode cX10_next 136 = .ok (.iconst 1, 1) := by decide +kernel
theorem dX10_next_137 : decode cX10_next 137 = .ok (.if_icmp .le 8, 3) := by decide +kernel
theorem dX10_next_140 : decode cX10_next 140 = .ok (.bipush (-2), 2) := by decide +kernel
theorem dX10_next_142 : decode cX10_next 142 = .ok (.goto 4, 3) := by decide +kernel
theorem dX10_next_145 : decode cX10_next 145 = .ok (.iconst 0, 1) := by decide +kernel
theorem dX10_next_146 : decode cX10_next 146 = .ok (.putfield 65, 3) := by decide +kernel
theorem dX10_next_149 : decode cX10_next 149 = .ok (.goto 64, 3) := by decide +kernel
theorem dX10_next_152 : decode cX10_next 152 = .ok (.aload_n 0, 1) := by decide +kernel
theorem dX10_next_153 : decode cX10_next 153 = .ok (.aload_n 0, 1) := by decide +kernel
theorem dX10_next_154 : decode cX10_next 154 = .ok (.getfield 29, 3) := by decide +kernel
theorem dX10_next_157 : decode cX10_next 157 = .ok (.aload_n 0, 1) := by decide +kernel
theorem dX10_next_158 : decode cX10_next 158 = .ok (.getfield 56, 3) := by decide +kernel
theorem dX10_next_161 : decode cX10_next 161 = .ok (.iaload, 1) := by decide +kernel
theorem dX10_next_162 : decode cX10_next 162 = .ok (.bipush 97, 2) := by decide +kernel
theorem dX10_next_164 : decode cX10_next 164 = .ok (.bipush 122, 2) := by decide +kernel
theorem dX10_next_166 : decode cX10_next 166 = .ok (.invokestatic 48, 3) := by decide +kernel
theorem dX10_next_169 : decode cX10_next 169 = .ok (.ifCond .ne 17, 3) := by decide +kernel
theorem dX10_next_172 : decode cX10_next 172 = .ok (.aload_n 0, 1) := by decide +kernel
theorem dX10_next_173 : decode cX10_next 173 = .ok (.getfield 29, 3) := by decide +kernel
theorem dX10_next_176 : decode cX10_next 176 = .ok (.aload_n 0, 1) := by decide +kernel
theorem dX10_next_177 : decode cX10_next 177 = .ok (.getfield 56, 3) := by decide +kernel
theorem dX10_next_180 : decode cX10_next 180 = .ok (.iaload, 1) := by decide +kernel
theorem dX10_next_181 : decode cX10_next 181 = .ok (.bipush 59, 2) := by decide +kernel
theorem dX10_next_183 : decode cX10_next 183 = .ok (.if_icmp .ne 15, 3) := by decide +kernel
theorem dX10_next_186 : decode cX10_next 186 = .ok (.aload_n 0, 1) := by decide +kernel
theorem dX10_next_187 : decode cX10_next 187 = .ok (.getfield 29, 3) := by decide +kernel
theorem dX10_next_190 : decode cX10_next 190 = .ok (.aload_n 0, 1) := by decide +kernel
theorem dX10_next_191 : decode cX10_next 191 = .ok (.getfield 56, 3) := by decide +kernel
theorem dX10_next_194 : decode cX10_next 194 = .ok (.iaload, 1) := by decide +kernel
theorem dX10_next_195 : decode cX10_next 195 = .ok (.goto 5, 3) := by decide +kernel
theorem dX10_next_198 : decode cX10_next 198 = .ok (.bipush (-2), 2) := by decide +kernel
theorem dX10_next_200 : decode cX10_next 200 = .ok (.putfield 65, 3) := by decide +kernel
theorem dX10_next_203 : decode cX10_next 203 = .ok (.aload_n 0, 1) := by decide +kernel
theorem dX10_next_204 : decode cX10_next 204 = .ok (.dup, 1) := by decide +kernel
theorem dX10_next_205 : decode cX10_next 205 = .ok (.getfield 56, 3) := by decide +kernel
theorem dX10_next_208 : decode cX10_next 208 = .ok (.iconst 1, 1) := by decide +kernel
theorem dX10_next_209 : decode cX10_next 209 = .ok (.iadd, 1) := by decide +kernel
theorem dX10_next_210 : decode cX10_next 210 = .ok (.putfield 56, 3) := by decide +kernel
theorem dX10_next_213 : decode cX10_next 213 = .ok (.return_, 1) := by decide +kernel
theorem dX10_fails_0 : decode cX10_fails 0 = .ok (.aload_n 0, 1) := by decide +kernel
theorem dX10_fails_1 : decode cX10_fails 1 = .ok (.aload_n 0, 1) := by decide +kernel
theorem dX10_fails_2 : decode cX10_fails 2 = .ok (.getfield 62, 3) := by decide +kernel
theorem dX10_fails_5 : decode cX10_fails 5 = .ok (.putfield 75, 3) := by decide +kernel
theorem dX10_fails_8 : decode cX10_fails 8 = .ok (.iconst 0, 1) := by decide +kernel
theorem dX10_fails_9 : decode cX10_fails 9 = .ok (.ireturn, 1) := by decide +kernel
theorem dX10_number_0 : decode cX10_number 0 = .ok (.aload_n 0, 1) := by decide +kernel
theorem dX10_number_1 : decode cX10_number 1 = .ok (.invokevirtual 78, 3) := by decide +kernel
theorem dX10_number_4 : decode cX10_number 4 = .ok (.aload_n 0, 1) := by decide +kernel
theorem dX10_number_5 : decode cX10_number 5 = .ok (.getfield 65, 3) := by decide +kernel
theorem dX10_number_8 : decode cX10_number 8 = .ok (.ifCond .ne 11, 3) := by decide +kernel
theorem dX10_number_11 : decode cX10_number 11 = .ok (.aload_n 0, 1) := by decide +kernel
theorem dX10_number_12 : decode cX10_number 12 = .ok (.getfield 72, 3) := by decide +kernel
theorem dX10_number_15 : decode cX10_number 15 = .ok (.iload_n 1, 1) := by decide +kernel
theorem dX10_number_16 : decode cX10_number 16 = .ok (.if_icmp .le 10, 3) := by decide +kernel
theorem dX10_number_19 : decode cX10_number 19 = .ok (.aload_n 0, 1) := by decide +kernel
theorem dX10_number_20 : decode cX10_number 20 = .ok (.invokevirtual 81, 3) := by decide +kernel
theorem dX10_number_23 : decode cX10_number 23 = .ok (.ifCond .eq 7, 3) := by decide +kernel
theorem dX10_number_26 : decode cX10_number 26 = .ok (.iconst 1, 1) := by decide +kernel
theorem dX10_number_27 : decode cX10_number 27 = .ok (.goto 4, 3) := by decide +kernel
theorem dX10_number_30 : decode cX10_number 30 = .ok (.iconst 0, 1) := by decide +kernel
theorem dX10_number_31 : decode cX10_number 31 = .ok (.ireturn, 1) := by decide +kernel
theorem dX10_ends_0 : decode cX10_ends 0 = .ok (.aload_n 0, 1) := by decide +kernel
theorem dX10_ends_1 : decode cX10_ends 1 = .ok (.invokevirtual 78, 3) := by decide +kernel
theorem dX10_ends_4 : decode cX10_ends 4 = .ok (.aload_n 0, 1) := by decide +kernel
theorem dX10_ends_5 : decode cX10_ends 5 = .ok (.getfield 65, 3) := by decide +kernel
theorem dX10_ends_8 : decode cX10_ends 8 = .ok (.bipush 59, 2) := by decide +kernel
theorem dX10_ends_10 : decode cX10_ends 10 = .ok (.if_icmp .eq 10, 3) := by decide +kernel
theorem dX10_ends_13 : decode cX10_ends 13 = .ok (.aload_n 0, 1) := by decide +kernel
theorem dX10_ends_14 : decode cX10_ends 14 = .ok (.invokevirtual 81, 3) := by decide +kernel
theorem dX10_ends_17 : decode cX10_ends 17 = .ok (.ifCond .eq 7, 3) := by decide +kernel
theorem dX10_ends_20 : decode cX10_ends 20 = .ok (.iconst 1, 1) := by decide +kernel
theorem dX10_ends_21 : decode cX10_ends 21 = .ok (.goto 4, 3) := by decide +kernel
theorem dX10_ends_24 : decode cX10_ends 24 = .ok (.iconst 0, 1) := by decide +kernel
theorem dX10_ends_25 : decode cX10_ends 25 = .ok (.ireturn, 1) := by decide +kernel
theorem dX10_clockOf_0 : decode cX10_clockOf 0 = .ok (.iload_n 0, 1) := by decide +kernel
theorem dX10_clockOf_1 : decode cX10_clockOf 1 = .ok (.bipush 112, 2) := by decide +kernel
theorem dX10_clockOf_3 : decode cX10_clockOf 3 = .ok (.if_icmp .ne 7, 3) := by decide +kernel
theorem dX10_clockOf_6 : decode cX10_clockOf 6 = .ok (.iconst 0, 1) := by decide +kernel
theorem dX10_clockOf_7 : decode cX10_clockOf 7 = .ok (.goto 45, 3) := by decide +kernel
theorem dX10_clockOf_10 : decode cX10_clockOf 10 = .ok (.iload_n 0, 1) := by decide +kernel
theorem dX10_clockOf_11 : decode cX10_clockOf 11 = .ok (.bipush 108, 2) := by decide +kernel
theorem dX10_clockOf_13 : decode cX10_clockOf 13 = .ok (.if_icmp .ne 7, 3) := by decide +kernel
theorem dX10_clockOf_16 : decode cX10_clockOf 16 = .ok (.iconst 1, 1) := by decide +kernel
theorem dX10_clockOf_17 : decode cX10_clockOf 17 = .ok (.goto 35, 3) := by decide +kernel
theorem dX10_clockOf_20 : decode cX10_clockOf 20 = .ok (.iload_n 0, 1) := by decide +kernel
theorem dX10_clockOf_21 : decode cX10_clockOf 21 = .ok (.bipush 101, 2) := by decide +kernel
theorem dX10_clockOf_23 : decode cX10_clockOf 23 = .ok (.if_icmp .ne 7, 3) := by decide +kernel
theorem dX10_clockOf_26 : decode cX10_clockOf 26 = .ok (.iconst 2, 1) := by decide +kernel
theorem dX10_clockOf_27 : decode cX10_clockOf 27 = .ok (.goto 25, 3) := by decide +kernel
theorem dX10_clockOf_30 : decode cX10_clockOf 30 = .ok (.iload_n 0, 1) := by decide +kernel
theorem dX10_clockOf_31 : decode cX10_clockOf 31 = .ok (.bipush 100, 2) := by decide +kernel
theorem dX10_clockOf_33 : decode cX10_clockOf 33 = .ok (.if_icmp .ne 7, 3) := by decide +kernel
theorem dX10_clockOf_36 : decode cX10_clockOf 36 = .ok (.iconst 3, 1) := by decide +kernel
theorem dX10_clockOf_37 : decode cX10_clockOf 37 = .ok (.goto 15, 3) := by decide +kernel
theorem dX10_clockOf_40 : decode cX10_clockOf 40 = .ok (.iload_n 0, 1) := by decide +kernel
theorem dX10_clockOf_41 : decode cX10_clockOf 41 = .ok (.bipush 98, 2) := by decide +kernel
theorem dX10_clockOf_43 : decode cX10_clockOf 43 = .ok (.if_icmp .ne 7, 3) := by decide +kernel
theorem dX10_clockOf_46 : decode cX10_clockOf 46 = .ok (.iconst 4, 1) := by decide +kernel
theorem dX10_clockOf_47 : decode cX10_clockOf 47 = .ok (.goto 5, 3) := by decide +kernel
theorem dX10_clockOf_50 : decode cX10_clockOf 50 = .ok (.bipush (-9), 2) := by decide +kernel
theorem dX10_clockOf_52 : decode cX10_clockOf 52 = .ok (.ireturn, 1) := by decide +kernel
theorem dX10_readsStation_0 : decode cX10_readsStation 0 = .ok (.aload_n 0, 1) := by decide +kernel
theorem dX10_readsStation_1 : decode cX10_readsStation 1 = .ok (.getfield 84, 3) := by decide +kernel
theorem dX10_readsStation_4 : decode cX10_readsStation 4 = .ok (.bipush 6, 2) := by decide +kernel
theorem dX10_readsStation_6 : decode cX10_readsStation 6 = .ok (.if_icmp .ne 8, 3) := by decide +kernel
theorem dX10_readsStation_9 : decode cX10_readsStation 9 = .ok (.aload_n 0, 1) := by decide +kernel
theorem dX10_readsStation_10 : decode cX10_readsStation 10 = .ok (.invokevirtual 81, 3) := by decide +kernel
theorem dX10_readsStation_13 : decode cX10_readsStation 13 = .ok (.ireturn, 1) := by decide +kernel
theorem dX10_readsStation_14 : decode cX10_readsStation 14 = .ok (.aload_n 0, 1) := by decide +kernel
theorem dX10_readsStation_15 : decode cX10_readsStation 15 = .ok (.bipush 29, 2) := by decide +kernel
theorem dX10_readsStation_17 : decode cX10_readsStation 17 = .ok (.invokevirtual 87, 3) := by decide +kernel
theorem dX10_readsStation_20 : decode cX10_readsStation 20 = .ok (.ifCond .ne 5, 3) := by decide +kernel
theorem dX10_readsStation_23 : decode cX10_readsStation 23 = .ok (.iconst 0, 1) := by decide +kernel
theorem dX10_readsStation_24 : decode cX10_readsStation 24 = .ok (.ireturn, 1) := by decide +kernel
theorem dX10_readsStation_25 : decode cX10_readsStation 25 = .ok (.aload_n 0, 1) := by decide +kernel
theorem dX10_readsStation_26 : decode cX10_readsStation 26 = .ok (.getfield 32, 3) := by decide +kernel
theorem dX10_readsStation_29 : decode cX10_readsStation 29 = .ok (.aload_n 0, 1) := by decide +kernel
theorem dX10_readsStation_30 : decode cX10_readsStation 30 = .ok (.getfield 84, 3) := by decide +kernel
theorem dX10_readsStation_33 : decode cX10_readsStation 33 = .ok (.aload_n 0, 1) := by decide +kernel
theorem dX10_readsStation_34 : decode cX10_readsStation 34 = .ok (.getfield 72, 3) := by decide +kernel
theorem dX10_readsStation_37 : decode cX10_readsStation 37 = .ok (.iastore, 1) := by decide +kernel
theorem dX10_readsStation_38 : decode cX10_readsStation 38 = .ok (.aload_n 0, 1) := by decide +kernel
theorem dX10_readsStation_39 : decode cX10_readsStation 39 = .ok (.bipush 29, 2) := by decide +kernel
theorem dX10_readsStation_41 : decode cX10_readsStation 41 = .ok (.invokevirtual 87, 3) := by decide +kernel
theorem dX10_readsStation_44 : decode cX10_readsStation 44 = .ok (.ifCond .ne 5, 3) := by decide +kernel
theorem dX10_readsStation_47 : decode cX10_readsStation 47 = .ok (.iconst 0, 1) := by decide +kernel
theorem dX10_readsStation_48 : decode cX10_readsStation 48 = .ok (.ireturn, 1) := by decide +kernel
theorem dX10_readsStation_49 : decode cX10_readsStation 49 = .ok (.aload_n 0, 1) := by decide +kernel
theorem dX10_readsStation_50 : decode cX10_readsStation 50 = .ok (.getfield 35, 3) := by decide +kernel
theorem dX10_readsStation_53 : decode cX10_readsStation 53 = .ok (.aload_n 0, 1) := by decide +kernel
theorem dX10_readsStation_54 : decode cX10_readsStation 54 = .ok (.getfield 84, 3) := by decide +kernel
theorem dX10_readsStation_57 : decode cX10_readsStation 57 = .ok (.aload_n 0, 1) := by decide +kernel
theorem dX10_readsStation_58 : decode cX10_readsStation 58 = .ok (.getfield 72, 3) := by decide +kernel
theorem dX10_readsStation_61 : decode cX10_readsStation 61 = .ok (.iastore, 1) := by decide +kernel
theorem dX10_readsStation_62 : decode cX10_readsStation 62 = .ok (.aload_n 0, 1) := by decide +kernel
theorem dX10_readsStation_63 : decode cX10_readsStation 63 = .ok (.invokevirtual 78, 3) := by decide +kernel
theorem dX10_readsStation_66 : decode cX10_readsStation 66 = .ok (.aload_n 0, 1) := by decide +kernel
theorem dX10_readsStation_67 : decode cX10_readsStation 67 = .ok (.getfield 65, 3) := by decide +kernel
theorem dX10_readsStation_70 : decode cX10_readsStation 70 = .ok (.invokestatic 91, 3) := by decide +kernel
theorem dX10_readsStation_73 : decode cX10_readsStation 73 = .ok (.bipush (-9), 2) := by decide +kernel
theorem dX10_readsStation_75 : decode cX10_readsStation 75 = .ok (.if_icmp .ne 8, 3) := by decide +kernel
theorem dX10_readsStation_78 : decode cX10_readsStation 78 = .ok (.aload_n 0, 1) := by decide +kernel
theorem dX10_readsStation_79 : decode cX10_readsStation 79 = .ok (.invokevirtual 81, 3) := by decide +kernel
theorem dX10_readsStation_82 : decode cX10_readsStation 82 = .ok (.ireturn, 1) := by decide +kernel
theorem dX10_readsStation_83 : decode cX10_readsStation 83 = .ok (.aload_n 0, 1) := by decide +kernel
theorem dX10_readsStation_84 : decode cX10_readsStation 84 = .ok (.getfield 38, 3) := by decide +kernel
theorem dX10_readsStation_87 : decode cX10_readsStation 87 = .ok (.iconst 1, 1) := by decide +kernel
theorem dX10_readsStation_88 : decode cX10_readsStation 88 = .ok (.aload_n 0, 1) := by decide +kernel
theorem dX10_readsStation_89 : decode cX10_readsStation 89 = .ok (.getfield 84, 3) := by decide +kernel
theorem dX10_readsStation_92 : decode cX10_readsStation 92 = .ok (.iadd, 1) := by decide +kernel
theorem dX10_readsStation_93 : decode cX10_readsStation 93 = .ok (.aload_n 0, 1) := by decide +kernel
theorem dX10_readsStation_94 : decode cX10_readsStation 94 = .ok (.getfield 65, 3) := by decide +kernel
theorem dX10_readsStation_97 : decode cX10_readsStation 97 = .ok (.invokestatic 91, 3) := by decide +kernel
theorem dX10_readsStation_100 : decode cX10_readsStation 100 = .ok (.iastore, 1) := by decide +kernel
theorem dX10_readsStation_101 : decode cX10_readsStation 101 = .ok (.aload_n 0, 1) := by decide +kernel
theorem dX10_readsStation_102 : decode cX10_readsStation 102 = .ok (.dup, 1) := by decide +kernel
theorem dX10_readsStation_103 : decode cX10_readsStation 103 = .ok (.getfield 84, 3) := by decide +kernel
theorem dX10_readsStation_106 : decode cX10_readsStation 106 = .ok (.iconst 1, 1) := by decide +kernel
theorem dX10_readsStation_107 : decode cX10_readsStation 107 = .ok (.iadd, 1) := by decide +kernel
theorem dX10_readsStation_108 : decode cX10_readsStation 108 = .ok (.putfield 84, 3) := by decide +kernel
theorem dX10_readsStation_111 : decode cX10_readsStation 111 = .ok (.aload_n 0, 1) := by decide +kernel
theorem dX10_readsStation_112 : decode cX10_readsStation 112 = .ok (.invokevirtual 95, 3) := by decide +kernel
theorem dX10_readsStation_115 : decode cX10_readsStation 115 = .ok (.ireturn, 1) := by decide +kernel
theorem dX10_readsReading_0 : decode cX10_readsReading 0 = .ok (.aload_n 0, 1) := by decide +kernel
theorem dX10_readsReading_1 : decode cX10_readsReading 1 = .ok (.getfield 38, 3) := by decide +kernel
theorem dX10_readsReading_4 : decode cX10_readsReading 4 = .ok (.iconst 0, 1) := by decide +kernel
theorem dX10_readsReading_5 : decode cX10_readsReading 5 = .ok (.iaload, 1) := by decide +kernel
theorem dX10_readsReading_6 : decode cX10_readsReading 6 = .ok (.bipush 9, 2) := by decide +kernel
theorem dX10_readsReading_8 : decode cX10_readsReading 8 = .ok (.if_icmp .ne 8, 3) := by decide +kernel
theorem dX10_readsReading_11 : decode cX10_readsReading 11 = .ok (.aload_n 0, 1) := by decide +kernel
theorem dX10_readsReading_12 : decode cX10_readsReading 12 = .ok (.invokevirtual 81, 3) := by decide +kernel
theorem dX10_readsReading_15 : decode cX10_readsReading 15 = .ok (.ireturn, 1) := by decide +kernel
theorem dX10_readsReading_16 : decode cX10_readsReading 16 = .ok (.aload_n 0, 1) := by decide +kernel
theorem dX10_readsReading_17 : decode cX10_readsReading 17 = .ok (.aload_n 0, 1) := by decide +kernel
theorem dX10_readsReading_18 : decode cX10_readsReading 18 = .ok (.getfield 84, 3) := by decide +kernel
theorem dX10_readsReading_21 : decode cX10_readsReading 21 = .ok (.iconst 1, 1) := by decide +kernel
theorem dX10_readsReading_22 : decode cX10_readsReading 22 = .ok (.isub, 1) := by decide +kernel
theorem dX10_readsReading_23 : decode cX10_readsReading 23 = .ok (.invokevirtual 87, 3) := by decide +kernel
theorem dX10_readsReading_26 : decode cX10_readsReading 26 = .ok (.ifCond .ne 5, 3) := by decide +kernel
theorem dX10_readsReading_29 : decode cX10_readsReading 29 = .ok (.iconst 0, 1) := by decide +kernel
theorem dX10_readsReading_30 : decode cX10_readsReading 30 = .ok (.ireturn, 1) := by decide +kernel
theorem dX10_readsReading_31 : decode cX10_readsReading 31 = .ok (.aload_n 0, 1) := by decide +kernel
theorem dX10_readsReading_32 : decode cX10_readsReading 32 = .ok (.getfield 38, 3) := by decide +kernel
theorem dX10_readsReading_35 : decode cX10_readsReading 35 = .ok (.bipush 7, 2) := by decide +kernel
theorem dX10_readsReading_37 : decode cX10_readsReading 37 = .ok (.aload_n 0, 1) := by decide +kernel
theorem dX10_readsReading_38 : decode cX10_readsReading 38 = .ok (.getfield 38, 3) := by decide +kernel
theorem dX10_readsReading_41 : decode cX10_readsReading 41 = .ok (.iconst 0, 1) := by decide +kernel
theorem dX10_readsReading_42 : decode cX10_readsReading 42 = .ok (.iaload, 1) := by decide +kernel
theorem dX10_readsReading_43 : decode cX10_readsReading 43 = .ok (.iadd, 1) := by decide +kernel
theorem dX10_readsReading_44 : decode cX10_readsReading 44 = .ok (.aload_n 0, 1) := by decide +kernel
theorem dX10_readsReading_45 : decode cX10_readsReading 45 = .ok (.getfield 72, 3) := by decide +kernel
theorem dX10_readsReading_48 : decode cX10_readsReading 48 = .ok (.iastore, 1) := by decide +kernel
theorem dX10_readsReading_49 : decode cX10_readsReading 49 = .ok (.aload_n 0, 1) := by decide +kernel
theorem dX10_readsReading_50 : decode cX10_readsReading 50 = .ok (.bipush 60, 2) := by decide +kernel
theorem dX10_readsReading_52 : decode cX10_readsReading 52 = .ok (.invokevirtual 87, 3) := by decide +kernel
theorem dX10_readsReading_55 : decode cX10_readsReading 55 = .ok (.ifCond .ne 5, 3) := by decide +kernel
theorem dX10_readsReading_58 : decode cX10_readsReading 58 = .ok (.iconst 0, 1) := by decide +kernel
theorem dX10_readsReading_59 : decode cX10_readsReading 59 = .ok (.ireturn, 1) := by decide +kernel
theorem dX10_readsReading_60 : decode cX10_readsReading 60 = .ok (.aload_n 0, 1) := by decide +kernel
theorem dX10_readsReading_61 : decode cX10_readsReading 61 = .ok (.getfield 38, 3) := by decide +kernel
theorem dX10_readsReading_64 : decode cX10_readsReading 64 = .ok (.bipush 16, 2) := by decide +kernel
theorem dX10_readsReading_66 : decode cX10_readsReading 66 = .ok (.aload_n 0, 1) := by decide +kernel
theorem dX10_readsReading_67 : decode cX10_readsReading 67 = .ok (.getfield 38, 3) := by decide +kernel
theorem dX10_readsReading_70 : decode cX10_readsReading 70 = .ok (.iconst 0, 1) := by decide +kernel
theorem dX10_readsReading_71 : decode cX10_readsReading 71 = .ok (.iaload, 1) := by decide +kernel
theorem dX10_readsReading_72 : decode cX10_readsReading 72 = .ok (.iadd, 1) := by decide +kernel
theorem dX10_readsReading_73 : decode cX10_readsReading 73 = .ok (.aload_n 0, 1) := by decide +kernel
theorem dX10_readsReading_74 : decode cX10_readsReading 74 = .ok (.getfield 72, 3) := by decide +kernel
theorem dX10_readsReading_77 : decode cX10_readsReading 77 = .ok (.iastore, 1) := by decide +kernel
theorem dX10_readsReading_78 : decode cX10_readsReading 78 = .ok (.aload_n 0, 1) := by decide +kernel
theorem dX10_readsReading_79 : decode cX10_readsReading 79 = .ok (.getfield 38, 3) := by decide +kernel
theorem dX10_readsReading_82 : decode cX10_readsReading 82 = .ok (.iconst 0, 1) := by decide +kernel
theorem dX10_readsReading_83 : decode cX10_readsReading 83 = .ok (.dup2, 1) := by decide +kernel
theorem dX10_readsReading_84 : decode cX10_readsReading 84 = .ok (.iaload, 1) := by decide +kernel
theorem dX10_readsReading_85 : decode cX10_readsReading 85 = .ok (.iconst 1, 1) := by decide +kernel
theorem dX10_readsReading_86 : decode cX10_readsReading 86 = .ok (.iadd, 1) := by decide +kernel
theorem dX10_readsReading_87 : decode cX10_readsReading 87 = .ok (.iastore, 1) := by decide +kernel
theorem dX10_readsReading_88 : decode cX10_readsReading 88 = .ok (.aload_n 0, 1) := by decide +kernel
theorem dX10_readsReading_89 : decode cX10_readsReading 89 = .ok (.invokevirtual 95, 3) := by decide +kernel
theorem dX10_readsReading_92 : decode cX10_readsReading 92 = .ok (.ireturn, 1) := by decide +kernel
theorem dX10_field_0 : decode cX10_field 0 = .ok (.aload_n 0, 1) := by decide +kernel
theorem dX10_field_1 : decode cX10_field 1 = .ok (.iconst 0, 1) := by decide +kernel
theorem dX10_field_2 : decode cX10_field 2 = .ok (.putfield 56, 3) := by decide +kernel
theorem dX10_field_5 : decode cX10_field 5 = .ok (.aload_n 0, 1) := by decide +kernel
theorem dX10_field_6 : decode cX10_field 6 = .ok (.iconst 0, 1) := by decide +kernel
theorem dX10_field_7 : decode cX10_field 7 = .ok (.putfield 84, 3) := by decide +kernel
theorem dX10_field_10 : decode cX10_field 10 = .ok (.iconst 0, 1) := by decide +kernel
theorem dX10_field_11 : decode cX10_field 11 = .ok (.istore_n 1, 1) := by decide +kernel
theorem dX10_field_12 : decode cX10_field 12 = .ok (.iload_n 1, 1) := by decide +kernel
theorem dX10_field_13 : decode cX10_field 13 = .ok (.bipush 25, 2) := by decide +kernel
theorem dX10_field_15 : decode cX10_field 15 = .ok (.if_icmp .ge 16, 3) := by decide +kernel
theorem dX10_field_18 : decode cX10_field 18 = .ok (.aload_n 0, 1) := by decide +kernel
theorem dX10_field_19 : decode cX10_field 19 = .ok (.getfield 38, 3) := by decide +kernel
theorem dX10_field_22 : decode cX10_field 22 = .ok (.iload_n 1, 1) := by decide +kernel
theorem dX10_field_23 : decode cX10_field 23 = .ok (.iconst 0, 1) := by decide +kernel
theorem dX10_field_24 : decode cX10_field 24 = .ok (.iastore, 1) := by decide +kernel
theorem dX10_field_25 : decode cX10_field 25 = .ok (.iinc 1 1, 3) := by decide +kernel
theorem dX10_field_28 : decode cX10_field 28 = .ok (.goto (-16), 3) := by decide +kernel
theorem dX10_field_31 : decode cX10_field 31 = .ok (.iconst 0, 1) := by decide +kernel
theorem dX10_field_32 : decode cX10_field 32 = .ok (.istore_n 1, 1) := by decide +kernel
theorem dX10_field_33 : decode cX10_field 33 = .ok (.aload_n 0, 1) := by decide +kernel
theorem dX10_field_34 : decode cX10_field 34 = .ok (.invokevirtual 59, 3) := by decide +kernel
theorem dX10_field_37 : decode cX10_field 37 = .ok (.aload_n 0, 1) := by decide +kernel
theorem dX10_field_38 : decode cX10_field 38 = .ok (.getfield 56, 3) := by decide +kernel
theorem dX10_field_41 : decode cX10_field 41 = .ok (.aload_n 0, 1) := by decide +kernel
theorem dX10_field_42 : decode cX10_field 42 = .ok (.getfield 52, 3) := by decide +kernel
theorem dX10_field_45 : decode cX10_field 45 = .ok (.if_icmp .ge 66, 3) := by decide +kernel
theorem dX10_field_48 : decode cX10_field 48 = .ok (.aload_n 0, 1) := by decide +kernel
theorem dX10_field_49 : decode cX10_field 49 = .ok (.invokevirtual 78, 3) := by decide +kernel
theorem dX10_field_52 : decode cX10_field 52 = .ok (.aload_n 0, 1) := by decide +kernel
theorem dX10_field_53 : decode cX10_field 53 = .ok (.getfield 65, 3) := by decide +kernel
theorem dX10_field_56 : decode cX10_field 56 = .ok (.bipush 115, 2) := by decide +kernel
theorem dX10_field_58 : decode cX10_field 58 = .ok (.if_icmp .ne 10, 3) := by decide +kernel
theorem dX10_field_61 : decode cX10_field 61 = .ok (.aload_n 0, 1) := by decide +kernel
theorem dX10_field_62 : decode cX10_field 62 = .ok (.invokevirtual 98, 3) := by decide +kernel
theorem dX10_field_65 : decode cX10_field 65 = .ok (.goto 23, 3) := by decide +kernel
theorem dX10_field_68 : decode cX10_field 68 = .ok (.aload_n 0, 1) := by decide +kernel
theorem dX10_field_69 : decode cX10_field 69 = .ok (.getfield 65, 3) := by decide +kernel
theorem dX10_field_72 : decode cX10_field 72 = .ok (.bipush 104, 2) := by decide +kernel
theorem dX10_field_74 : decode cX10_field 74 = .ok (.if_icmp .ne 10, 3) := by decide +kernel
theorem dX10_field_77 : decode cX10_field 77 = .ok (.aload_n 0, 1) := by decide +kernel
theorem dX10_field_78 : decode cX10_field 78 = .ok (.invokevirtual 101, 3) := by decide +kernel
theorem dX10_field_81 : decode cX10_field 81 = .ok (.goto 7, 3) := by decide +kernel
theorem dX10_field_84 : decode cX10_field 84 = .ok (.aload_n 0, 1) := by decide +kernel
theorem dX10_field_85 : decode cX10_field 85 = .ok (.invokevirtual 81, 3) := by decide +kernel
theorem dX10_field_88 : decode cX10_field 88 = .ok (.istore_n 2, 1) := by decide +kernel
theorem dX10_field_89 : decode cX10_field 89 = .ok (.iload_n 2, 1) := by decide +kernel
theorem dX10_field_90 : decode cX10_field 90 = .ok (.ifCond .ne 11, 3) := by decide +kernel
theorem dX10_field_93 : decode cX10_field 93 = .ok (.bipush (-10), 2) := by decide +kernel
theorem dX10_field_95 : decode cX10_field 95 = .ok (.aload_n 0, 1) := by decide +kernel
theorem dX10_field_96 : decode cX10_field 96 = .ok (.getfield 75, 3) := by decide +kernel
theorem dX10_field_99 : decode cX10_field 99 = .ok (.isub, 1) := by decide +kernel
theorem dX10_field_100 : decode cX10_field 100 = .ok (.ireturn, 1) := by decide +kernel
theorem dX10_field_101 : decode cX10_field 101 = .ok (.iinc 1 1, 3) := by decide +kernel
theorem dX10_field_104 : decode cX10_field 104 = .ok (.aload_n 0, 1) := by decide +kernel
theorem dX10_field_105 : decode cX10_field 105 = .ok (.invokevirtual 59, 3) := by decide +kernel
theorem dX10_field_108 : decode cX10_field 108 = .ok (.goto (-71), 3) := by decide +kernel
theorem dX10_field_111 : decode cX10_field 111 = .ok (.aload_n 0, 1) := by decide +kernel
theorem dX10_field_112 : decode cX10_field 112 = .ok (.iconst 0, 1) := by decide +kernel
theorem dX10_field_113 : decode cX10_field 113 = .ok (.putfield 52, 3) := by decide +kernel
theorem dX10_field_116 : decode cX10_field 116 = .ok (.aload_n 0, 1) := by decide +kernel
theorem dX10_field_117 : decode cX10_field 117 = .ok (.aload_n 0, 1) := by decide +kernel
theorem dX10_field_118 : decode cX10_field 118 = .ok (.getfield 84, 3) := by decide +kernel
theorem dX10_field_121 : decode cX10_field 121 = .ok (.putfield 104, 3) := by decide +kernel
theorem dX10_field_124 : decode cX10_field 124 = .ok (.iconst 0, 1) := by decide +kernel
theorem dX10_field_125 : decode cX10_field 125 = .ok (.istore_n 2, 1) := by decide +kernel
theorem dX10_field_126 : decode cX10_field 126 = .ok (.iload_n 2, 1) := by decide +kernel
theorem dX10_field_127 : decode cX10_field 127 = .ok (.bipush 6, 2) := by decide +kernel
theorem dX10_field_129 : decode cX10_field 129 = .ok (.if_icmp .ge 33, 3) := by decide +kernel
theorem dX10_field_132 : decode cX10_field 132 = .ok (.aload_n 0, 1) := by decide +kernel
theorem dX10_field_133 : decode cX10_field 133 = .ok (.getfield 7, 3) := by decide +kernel
theorem dX10_field_136 : decode cX10_field 136 = .ok (.iload_n 2, 1) := by decide +kernel
theorem dX10_field_137 : decode cX10_field 137 = .ok (.aload_n 0, 1) := by decide +kernel
theorem dX10_field_138 : decode cX10_field 138 = .ok (.getfield 32, 3) := by decide +kernel
theorem dX10_field_141 : decode cX10_field 141 = .ok (.iload_n 2, 1) := by decide +kernel
theorem dX10_field_142 : decode cX10_field 142 = .ok (.iaload, 1) := by decide +kernel
theorem dX10_field_143 : decode cX10_field 143 = .ok (.iastore, 1) := by decide +kernel
theorem dX10_field_144 : decode cX10_field 144 = .ok (.aload_n 0, 1) := by decide +kernel
theorem dX10_field_145 : decode cX10_field 145 = .ok (.getfield 13, 3) := by decide +kernel
theorem dX10_field_148 : decode cX10_field 148 = .ok (.iload_n 2, 1) := by decide +kernel
theorem dX10_field_149 : decode cX10_field 149 = .ok (.aload_n 0, 1) := by decide +kernel
theorem dX10_field_150 : decode cX10_field 150 = .ok (.getfield 35, 3) := by decide +kernel
theorem dX10_field_153 : decode cX10_field 153 = .ok (.iload_n 2, 1) := by decide +kernel
theorem dX10_field_154 : decode cX10_field 154 = .ok (.iaload, 1) := by decide +kernel
theorem dX10_field_155 : decode cX10_field 155 = .ok (.iastore, 1) := by decide +kernel
theorem dX10_field_156 : decode cX10_field 156 = .ok (.iinc 2 1, 3) := by decide +kernel
theorem dX10_field_159 : decode cX10_field 159 = .ok (.goto (-33), 3) := by decide +kernel
theorem dX10_field_162 : decode cX10_field 162 = .ok (.iconst 0, 1) := by decide +kernel
theorem dX10_field_163 : decode cX10_field 163 = .ok (.istore_n 2, 1) := by decide +kernel
theorem dX10_field_164 : decode cX10_field 164 = .ok (.iload_n 2, 1) := by decide +kernel
theorem dX10_field_165 : decode cX10_field 165 = .ok (.bipush 25, 2) := by decide +kernel
theorem dX10_field_167 : decode cX10_field 167 = .ok (.if_icmp .ge 21, 3) := by decide +kernel
theorem dX10_field_170 : decode cX10_field 170 = .ok (.aload_n 0, 1) := by decide +kernel
theorem dX10_field_171 : decode cX10_field 171 = .ok (.getfield 16, 3) := by decide +kernel
theorem dX10_field_174 : decode cX10_field 174 = .ok (.iload_n 2, 1) := by decide +kernel
theorem dX10_field_175 : decode cX10_field 175 = .ok (.aload_n 0, 1) := by decide +kernel
theorem dX10_field_176 : decode cX10_field 176 = .ok (.getfield 38, 3) := by decide +kernel
theorem dX10_field_179 : decode cX10_field 179 = .ok (.iload_n 2, 1) := by decide +kernel
theorem dX10_field_180 : decode cX10_field 180 = .ok (.iaload, 1) := by decide +kernel
theorem dX10_field_181 : decode cX10_field 181 = .ok (.iastore, 1) := by decide +kernel
theorem dX10_field_182 : decode cX10_field 182 = .ok (.iinc 2 1, 3) := by decide +kernel
theorem dX10_field_185 : decode cX10_field 185 = .ok (.goto (-21), 3) := by decide +kernel
theorem dX10_field_188 : decode cX10_field 188 = .ok (.aload_n 0, 1) := by decide +kernel
theorem dX10_field_189 : decode cX10_field 189 = .ok (.iconst 0, 1) := by decide +kernel
theorem dX10_field_190 : decode cX10_field 190 = .ok (.putfield 107, 3) := by decide +kernel
theorem dX10_field_193 : decode cX10_field 193 = .ok (.aload_n 0, 1) := by decide +kernel
theorem dX10_field_194 : decode cX10_field 194 = .ok (.getfield 22, 3) := by decide +kernel
theorem dX10_field_197 : decode cX10_field 197 = .ok (.iconst 0, 1) := by decide +kernel
theorem dX10_field_198 : decode cX10_field 198 = .ok (.iconst 0, 1) := by decide +kernel
theorem dX10_field_199 : decode cX10_field 199 = .ok (.bastore, 1) := by decide +kernel
theorem dX10_field_200 : decode cX10_field 200 = .ok (.aload_n 0, 1) := by decide +kernel
theorem dX10_field_201 : decode cX10_field 201 = .ok (.getfield 22, 3) := by decide +kernel
theorem dX10_field_204 : decode cX10_field 204 = .ok (.iconst 1, 1) := by decide +kernel
theorem dX10_field_205 : decode cX10_field 205 = .ok (.iconst 0, 1) := by decide +kernel
theorem dX10_field_206 : decode cX10_field 206 = .ok (.bastore, 1) := by decide +kernel
theorem dX10_field_207 : decode cX10_field 207 = .ok (.iload_n 1, 1) := by decide +kernel
theorem dX10_field_208 : decode cX10_field 208 = .ok (.ireturn, 1) := by decide +kernel
theorem dX10_isStation_0 : decode cX10_isStation 0 = .ok (.iload_n 1, 1) := by decide +kernel
theorem dX10_isStation_1 : decode cX10_isStation 1 = .ok (.iconst 0, 1) := by decide +kernel
theorem dX10_isStation_2 : decode cX10_isStation 2 = .ok (.aload_n 0, 1) := by decide +kernel
theorem dX10_isStation_3 : decode cX10_isStation 3 = .ok (.getfield 104, 3) := by decide +kernel
theorem dX10_isStation_6 : decode cX10_isStation 6 = .ok (.iconst 1, 1) := by decide +kernel
theorem dX10_isStation_7 : decode cX10_isStation 7 = .ok (.isub, 1) := by decide +kernel
theorem dX10_isStation_8 : decode cX10_isStation 8 = .ok (.invokestatic 48, 3) := by decide +kernel
theorem dX10_isStation_11 : decode cX10_isStation 11 = .ok (.ireturn, 1) := by decide +kernel
theorem dX10_isReading_0 : decode cX10_isReading 0 = .ok (.iload_n 1, 1) := by decide +kernel
theorem dX10_isReading_1 : decode cX10_isReading 1 = .ok (.iconst 0, 1) := by decide +kernel
theorem dX10_isReading_2 : decode cX10_isReading 2 = .ok (.aload_n 0, 1) := by decide +kernel
theorem dX10_isReading_3 : decode cX10_isReading 3 = .ok (.getfield 16, 3) := by decide +kernel
theorem dX10_isReading_6 : decode cX10_isReading 6 = .ok (.iconst 0, 1) := by decide +kernel
theorem dX10_isReading_7 : decode cX10_isReading 7 = .ok (.iaload, 1) := by decide +kernel
theorem dX10_isReading_8 : decode cX10_isReading 8 = .ok (.iconst 1, 1) := by decide +kernel
theorem dX10_isReading_9 : decode cX10_isReading 9 = .ok (.isub, 1) := by decide +kernel
theorem dX10_isReading_10 : decode cX10_isReading 10 = .ok (.invokestatic 48, 3) := by decide +kernel
theorem dX10_isReading_13 : decode cX10_isReading 13 = .ok (.ireturn, 1) := by decide +kernel
theorem dX10_timeOf_0 : decode cX10_timeOf 0 = .ok (.aload_n 0, 1) := by decide +kernel
theorem dX10_timeOf_1 : decode cX10_timeOf 1 = .ok (.getfield 16, 3) := by decide +kernel
theorem dX10_timeOf_4 : decode cX10_timeOf 4 = .ok (.bipush 16, 2) := by decide +kernel
theorem dX10_timeOf_6 : decode cX10_timeOf 6 = .ok (.iload_n 1, 1) := by decide +kernel
theorem dX10_timeOf_7 : decode cX10_timeOf 7 = .ok (.iadd, 1) := by decide +kernel
theorem dX10_timeOf_8 : decode cX10_timeOf 8 = .ok (.iaload, 1) := by decide +kernel
theorem dX10_timeOf_9 : decode cX10_timeOf 9 = .ok (.istore_n 2, 1) := by decide +kernel
theorem dX10_timeOf_10 : decode cX10_timeOf 10 = .ok (.aload_n 0, 1) := by decide +kernel
theorem dX10_timeOf_11 : decode cX10_timeOf 11 = .ok (.getfield 16, 3) := by decide +kernel
theorem dX10_timeOf_14 : decode cX10_timeOf 14 = .ok (.iconst 1, 1) := by decide +kernel
theorem dX10_timeOf_15 : decode cX10_timeOf 15 = .ok (.aload_n 0, 1) := by decide +kernel
theorem dX10_timeOf_16 : decode cX10_timeOf 16 = .ok (.getfield 16, 3) := by decide +kernel
theorem dX10_timeOf_19 : decode cX10_timeOf 19 = .ok (.bipush 7, 2) := by decide +kernel
theorem dX10_timeOf_21 : decode cX10_timeOf 21 = .ok (.iload_n 1, 1) := by decide +kernel
theorem dX10_timeOf_22 : decode cX10_timeOf 22 = .ok (.iadd, 1) := by decide +kernel
theorem dX10_timeOf_23 : decode cX10_timeOf 23 = .ok (.iaload, 1) := by decide +kernel
theorem dX10_timeOf_24 : decode cX10_timeOf 24 = .ok (.iadd, 1) := by decide +kernel
theorem dX10_timeOf_25 : decode cX10_timeOf 25 = .ok (.iaload, 1) := by decide +kernel
theorem dX10_timeOf_26 : decode cX10_timeOf 26 = .ok (.tableswitch 47 1 4 #[30, 34, 38, 42], 30) := by decide +kernel
theorem dX10_timeOf_56 : decode cX10_timeOf 56 = .ok (.iload_n 2, 1) := by decide +kernel
theorem dX10_timeOf_57 : decode cX10_timeOf 57 = .ok (.iconst 3, 1) := by decide +kernel
theorem dX10_timeOf_58 : decode cX10_timeOf 58 = .ok (.isub, 1) := by decide +kernel
theorem dX10_timeOf_59 : decode cX10_timeOf 59 = .ok (.ireturn, 1) := by decide +kernel
theorem dX10_timeOf_60 : decode cX10_timeOf 60 = .ok (.iload_n 2, 1) := by decide +kernel
theorem dX10_timeOf_61 : decode cX10_timeOf 61 = .ok (.iconst 3, 1) := by decide +kernel
theorem dX10_timeOf_62 : decode cX10_timeOf 62 = .ok (.iadd, 1) := by decide +kernel
theorem dX10_timeOf_63 : decode cX10_timeOf 63 = .ok (.ireturn, 1) := by decide +kernel
theorem dX10_timeOf_64 : decode cX10_timeOf 64 = .ok (.iload_n 2, 1) := by decide +kernel
theorem dX10_timeOf_65 : decode cX10_timeOf 65 = .ok (.iconst 2, 1) := by decide +kernel
theorem dX10_timeOf_66 : decode cX10_timeOf 66 = .ok (.idiv, 1) := by decide +kernel
theorem dX10_timeOf_67 : decode cX10_timeOf 67 = .ok (.ireturn, 1) := by decide +kernel
theorem dX10_timeOf_68 : decode cX10_timeOf 68 = .ok (.bipush 60, 2) := by decide +kernel
theorem dX10_timeOf_70 : decode cX10_timeOf 70 = .ok (.iload_n 2, 1) := by decide +kernel
theorem dX10_timeOf_71 : decode cX10_timeOf 71 = .ok (.isub, 1) := by decide +kernel
theorem dX10_timeOf_72 : decode cX10_timeOf 72 = .ok (.ireturn, 1) := by decide +kernel
theorem dX10_timeOf_73 : decode cX10_timeOf 73 = .ok (.iload_n 2, 1) := by decide +kernel
theorem dX10_timeOf_74 : decode cX10_timeOf 74 = .ok (.ireturn, 1) := by decide +kernel
theorem dX10_xOf_0 : decode cX10_xOf 0 = .ok (.aload_n 0, 1) := by decide +kernel
theorem dX10_xOf_1 : decode cX10_xOf 1 = .ok (.getfield 7, 3) := by decide +kernel
theorem dX10_xOf_4 : decode cX10_xOf 4 = .ok (.aload_n 0, 1) := by decide +kernel
theorem dX10_xOf_5 : decode cX10_xOf 5 = .ok (.getfield 16, 3) := by decide +kernel
theorem dX10_xOf_8 : decode cX10_xOf 8 = .ok (.bipush 7, 2) := by decide +kernel
theorem dX10_xOf_10 : decode cX10_xOf 10 = .ok (.iload_n 1, 1) := by decide +kernel
theorem dX10_xOf_11 : decode cX10_xOf 11 = .ok (.iadd, 1) := by decide +kernel
theorem dX10_xOf_12 : decode cX10_xOf 12 = .ok (.iaload, 1) := by decide +kernel
theorem dX10_xOf_13 : decode cX10_xOf 13 = .ok (.iaload, 1) := by decide +kernel
theorem dX10_xOf_14 : decode cX10_xOf 14 = .ok (.ireturn, 1) := by decide +kernel
theorem dX10_yOf_0 : decode cX10_yOf 0 = .ok (.aload_n 0, 1) := by decide +kernel
theorem dX10_yOf_1 : decode cX10_yOf 1 = .ok (.getfield 13, 3) := by decide +kernel
theorem dX10_yOf_4 : decode cX10_yOf 4 = .ok (.aload_n 0, 1) := by decide +kernel
theorem dX10_yOf_5 : decode cX10_yOf 5 = .ok (.getfield 16, 3) := by decide +kernel
theorem dX10_yOf_8 : decode cX10_yOf 8 = .ok (.bipush 7, 2) := by decide +kernel
theorem dX10_yOf_10 : decode cX10_yOf 10 = .ok (.iload_n 1, 1) := by decide +kernel
theorem dX10_yOf_11 : decode cX10_yOf 11 = .ok (.iadd, 1) := by decide +kernel
theorem dX10_yOf_12 : decode cX10_yOf 12 = .ok (.iaload, 1) := by decide +kernel
theorem dX10_yOf_13 : decode cX10_yOf 13 = .ok (.iaload, 1) := by decide +kernel
theorem dX10_yOf_14 : decode cX10_yOf 14 = .ok (.ireturn, 1) := by decide +kernel
theorem dX10_square_0 : decode cX10_square 0 = .ok (.iload_n 0, 1) := by decide +kernel
theorem dX10_square_1 : decode cX10_square 1 = .ok (.iload_n 0, 1) := by decide +kernel
theorem dX10_square_2 : decode cX10_square 2 = .ok (.imul, 1) := by decide +kernel
theorem dX10_square_3 : decode cX10_square 3 = .ok (.ireturn, 1) := by decide +kernel
theorem dX10_isTogether_0 : decode cX10_isTogether 0 = .ok (.aload_n 0, 1) := by decide +kernel
theorem dX10_isTogether_1 : decode cX10_isTogether 1 = .ok (.getfield 16, 3) := by decide +kernel
theorem dX10_isTogether_4 : decode cX10_isTogether 4 = .ok (.bipush 7, 2) := by decide +kernel
theorem dX10_isTogether_6 : decode cX10_isTogether 6 = .ok (.iload_n 1, 1) := by decide +kernel
theorem dX10_isTogether_7 : decode cX10_isTogether 7 = .ok (.iadd, 1) := by decide +kernel
theorem dX10_isTogether_8 : decode cX10_isTogether 8 = .ok (.iaload, 1) := by decide +kernel
theorem dX10_isTogether_9 : decode cX10_isTogether 9 = .ok (.aload_n 0, 1) := by decide +kernel
theorem dX10_isTogether_10 : decode cX10_isTogether 10 = .ok (.getfield 16, 3) := by decide +kernel
theorem dX10_isTogether_13 : decode cX10_isTogether 13 = .ok (.bipush 7, 2) := by decide +kernel
theorem dX10_isTogether_15 : decode cX10_isTogether 15 = .ok (.iload_n 2, 1) := by decide +kernel
theorem dX10_isTogether_16 : decode cX10_isTogether 16 = .ok (.iadd, 1) := by decide +kernel
theorem dX10_isTogether_17 : decode cX10_isTogether 17 = .ok (.iaload, 1) := by decide +kernel
theorem dX10_isTogether_18 : decode cX10_isTogether 18 = .ok (.if_icmp .eq 53, 3) := by decide +kernel
theorem dX10_isTogether_21 : decode cX10_isTogether 21 = .ok (.aload_n 0, 1) := by decide +kernel
theorem dX10_isTogether_22 : decode cX10_isTogether 22 = .ok (.iload_n 1, 1) := by decide +kernel
theorem dX10_isTogether_23 : decode cX10_isTogether 23 = .ok (.invokevirtual 110, 3) := by decide +kernel
theorem dX10_isTogether_26 : decode cX10_isTogether 26 = .ok (.aload_n 0, 1) := by decide +kernel
theorem dX10_isTogether_27 : decode cX10_isTogether 27 = .ok (.iload_n 2, 1) := by decide +kernel
theorem dX10_isTogether_28 : decode cX10_isTogether 28 = .ok (.invokevirtual 110, 3) := by decide +kernel
theorem dX10_isTogether_31 : decode cX10_isTogether 31 = .ok (.isub, 1) := by decide +kernel
theorem dX10_isTogether_32 : decode cX10_isTogether 32 = .ok (.invokestatic 113, 3) := by decide +kernel
theorem dX10_isTogether_35 : decode cX10_isTogether 35 = .ok (.aload_n 0, 1) := by decide +kernel
theorem dX10_isTogether_36 : decode cX10_isTogether 36 = .ok (.iload_n 1, 1) := by decide +kernel
theorem dX10_isTogether_37 : decode cX10_isTogether 37 = .ok (.invokevirtual 116, 3) := by decide +kernel
theorem dX10_isTogether_40 : decode cX10_isTogether 40 = .ok (.aload_n 0, 1) := by decide +kernel
theorem dX10_isTogether_41 : decode cX10_isTogether 41 = .ok (.iload_n 2, 1) := by decide +kernel
theorem dX10_isTogether_42 : decode cX10_isTogether 42 = .ok (.invokevirtual 116, 3) := by decide +kernel
theorem dX10_isTogether_45 : decode cX10_isTogether 45 = .ok (.isub, 1) := by decide +kernel
theorem dX10_isTogether_46 : decode cX10_isTogether 46 = .ok (.invokestatic 113, 3) := by decide +kernel
theorem dX10_isTogether_49 : decode cX10_isTogether 49 = .ok (.aload_n 0, 1) := by decide +kernel
theorem dX10_isTogether_50 : decode cX10_isTogether 50 = .ok (.iload_n 1, 1) := by decide +kernel
theorem dX10_isTogether_51 : decode cX10_isTogether 51 = .ok (.invokevirtual 119, 3) := by decide +kernel
theorem dX10_isTogether_54 : decode cX10_isTogether 54 = .ok (.aload_n 0, 1) := by decide +kernel
theorem dX10_isTogether_55 : decode cX10_isTogether 55 = .ok (.iload_n 2, 1) := by decide +kernel
theorem dX10_isTogether_56 : decode cX10_isTogether 56 = .ok (.invokevirtual 119, 3) := by decide +kernel
theorem dX10_isTogether_59 : decode cX10_isTogether 59 = .ok (.isub, 1) := by decide +kernel
theorem dX10_isTogether_60 : decode cX10_isTogether 60 = .ok (.invokestatic 113, 3) := by decide +kernel
theorem dX10_isTogether_63 : decode cX10_isTogether 63 = .ok (.iadd, 1) := by decide +kernel
theorem dX10_isTogether_64 : decode cX10_isTogether 64 = .ok (.if_icmp .gt 7, 3) := by decide +kernel
theorem dX10_isTogether_67 : decode cX10_isTogether 67 = .ok (.iconst 1, 1) := by decide +kernel
theorem dX10_isTogether_68 : decode cX10_isTogether 68 = .ok (.goto 4, 3) := by decide +kernel
theorem dX10_isTogether_71 : decode cX10_isTogether 71 = .ok (.iconst 0, 1) := by decide +kernel
theorem dX10_isTogether_72 : decode cX10_isTogether 72 = .ok (.ireturn, 1) := by decide +kernel
theorem dX10_isAhead_0 : decode cX10_isAhead 0 = .ok (.aload_n 0, 1) := by decide +kernel
theorem dX10_isAhead_1 : decode cX10_isAhead 1 = .ok (.iload_n 1, 1) := by decide +kernel
theorem dX10_isAhead_2 : decode cX10_isAhead 2 = .ok (.invokevirtual 110, 3) := by decide +kernel
theorem dX10_isAhead_5 : decode cX10_isAhead 5 = .ok (.aload_n 0, 1) := by decide +kernel
theorem dX10_isAhead_6 : decode cX10_isAhead 6 = .ok (.iload_n 2, 1) := by decide +kernel
theorem dX10_isAhead_7 : decode cX10_isAhead 7 = .ok (.invokevirtual 110, 3) := by decide +kernel
theorem dX10_isAhead_10 : decode cX10_isAhead 10 = .ok (.isub, 1) := by decide +kernel
theorem dX10_isAhead_11 : decode cX10_isAhead 11 = .ok (.istore_n 3, 1) := by decide +kernel
theorem dX10_isAhead_12 : decode cX10_isAhead 12 = .ok (.iload_n 3, 1) := by decide +kernel
theorem dX10_isAhead_13 : decode cX10_isAhead 13 = .ok (.ifCond .ne 25, 3) := by decide +kernel
end
section
theorem dX10_isAhead_16 : decode cX10_isAhead 16 = .ok (.aload_n 0, 1) := by decide +kernel
theorem dX10_isAhead_17 : decode cX10_isAhead 17 = .ok (.getfield 16, 3) := by decide +kernel
theorem dX10_isAhead_20 : decode cX10_isAhead 20 = .ok (.bipush 7, 2) := by decide +kernel
theorem dX10_isAhead_22 : decode cX10_isAhead 22 = .ok (.iload_n 1, 1) := by decide +kernel
theorem dX10_isAhead_23 : decode cX10_isAhead 23 = .ok (.iadd, 1) := by decide +kernel
theorem dX10_isAhead_24 : decode cX10_isAhead 24 = .ok (.iaload, 1) := by decide +kernel
theorem dX10_isAhead_25 : decode cX10_isAhead 25 = .ok (.aload_n 0, 1) := by decide +kernel
theorem dX10_isAhead_26 : decode cX10_isAhead 26 = .ok (.getfield 16, 3) := by decide +kernel
theorem dX10_isAhead_29 : decode cX10_isAhead 29 = .ok (.bipush 7, 2) := by decide +kernel
theorem dX10_isAhead_31 : decode cX10_isAhead 31 = .ok (.iload_n 2, 1) := by decide +kernel
theorem dX10_isAhead_32 : decode cX10_isAhead 32 = .ok (.iadd, 1) := by decide +kernel
theorem dX10_isAhead_33 : decode cX10_isAhead 33 = .ok (.iaload, 1) := by decide +kernel
theorem dX10_isAhead_34 : decode cX10_isAhead 34 = .ok (.isub, 1) := by decide +kernel
theorem dX10_isAhead_35 : decode cX10_isAhead 35 = .ok (.goto 4, 3) := by decide +kernel
theorem dX10_isAhead_38 : decode cX10_isAhead 38 = .ok (.iload_n 3, 1) := by decide +kernel
theorem dX10_isAhead_39 : decode cX10_isAhead 39 = .ok (.istore_n 3, 1) := by decide +kernel
theorem dX10_isAhead_40 : decode cX10_isAhead 40 = .ok (.iload_n 3, 1) := by decide +kernel
theorem dX10_isAhead_41 : decode cX10_isAhead 41 = .ok (.ifCond .lt 12, 3) := by decide +kernel
theorem dX10_isAhead_44 : decode cX10_isAhead 44 = .ok (.iload_n 3, 1) := by decide +kernel
theorem dX10_isAhead_45 : decode cX10_isAhead 45 = .ok (.ifCond .ne 12, 3) := by decide +kernel
theorem dX10_isAhead_48 : decode cX10_isAhead 48 = .ok (.iload_n 1, 1) := by decide +kernel
theorem dX10_isAhead_49 : decode cX10_isAhead 49 = .ok (.iload_n 2, 1) := by decide +kernel
theorem dX10_isAhead_50 : decode cX10_isAhead 50 = .ok (.if_icmp .ge 7, 3) := by decide +kernel
theorem dX10_isAhead_53 : decode cX10_isAhead 53 = .ok (.iconst 1, 1) := by decide +kernel
theorem dX10_isAhead_54 : decode cX10_isAhead 54 = .ok (.goto 4, 3) := by decide +kernel
theorem dX10_isAhead_57 : decode cX10_isAhead 57 = .ok (.iconst 0, 1) := by decide +kernel
theorem dX10_isAhead_58 : decode cX10_isAhead 58 = .ok (.ireturn, 1) := by decide +kernel
theorem dX10_layGroups_0 : decode cX10_layGroups 0 = .ok (.aload_n 0, 1) := by decide +kernel
theorem dX10_layGroups_1 : decode cX10_layGroups 1 = .ok (.iconst 0, 1) := by decide +kernel
theorem dX10_layGroups_2 : decode cX10_layGroups 2 = .ok (.putfield 122, 3) := by decide +kernel
theorem dX10_layGroups_5 : decode cX10_layGroups 5 = .ok (.iconst 0, 1) := by decide +kernel
theorem dX10_layGroups_6 : decode cX10_layGroups 6 = .ok (.istore_n 1, 1) := by decide +kernel
theorem dX10_layGroups_7 : decode cX10_layGroups 7 = .ok (.iconst 0, 1) := by decide +kernel
theorem dX10_layGroups_8 : decode cX10_layGroups 8 = .ok (.istore_n 2, 1) := by decide +kernel
theorem dX10_layGroups_9 : decode cX10_layGroups 9 = .ok (.iload_n 2, 1) := by decide +kernel
theorem dX10_layGroups_10 : decode cX10_layGroups 10 = .ok (.aload_n 0, 1) := by decide +kernel
theorem dX10_layGroups_11 : decode cX10_layGroups 11 = .ok (.getfield 16, 3) := by decide +kernel
theorem dX10_layGroups_14 : decode cX10_layGroups 14 = .ok (.iconst 0, 1) := by decide +kernel
theorem dX10_layGroups_15 : decode cX10_layGroups 15 = .ok (.iaload, 1) := by decide +kernel
theorem dX10_layGroups_16 : decode cX10_layGroups 16 = .ok (.if_icmp .ge 209, 3) := by decide +kernel
theorem dX10_layGroups_19 : decode cX10_layGroups 19 = .ok (.bipush (-9), 2) := by decide +kernel
theorem dX10_layGroups_21 : decode cX10_layGroups 21 = .ok (.istore_n 3, 1) := by decide +kernel
theorem dX10_layGroups_22 : decode cX10_layGroups 22 = .ok (.iconst 0, 1) := by decide +kernel
theorem dX10_layGroups_23 : decode cX10_layGroups 23 = .ok (.istore 4, 2) := by decide +kernel
theorem dX10_layGroups_25 : decode cX10_layGroups 25 = .ok (.iload 4, 2) := by decide +kernel
theorem dX10_layGroups_27 : decode cX10_layGroups 27 = .ok (.aload_n 0, 1) := by decide +kernel
theorem dX10_layGroups_28 : decode cX10_layGroups 28 = .ok (.getfield 16, 3) := by decide +kernel
theorem dX10_layGroups_31 : decode cX10_layGroups 31 = .ok (.iconst 0, 1) := by decide +kernel
theorem dX10_layGroups_32 : decode cX10_layGroups 32 = .ok (.iaload, 1) := by decide +kernel
theorem dX10_layGroups_33 : decode cX10_layGroups 33 = .ok (.if_icmp .ge 41, 3) := by decide +kernel
theorem dX10_layGroups_36 : decode cX10_layGroups 36 = .ok (.iload_n 1, 1) := by decide +kernel
theorem dX10_layGroups_37 : decode cX10_layGroups 37 = .ok (.iload 4, 2) := by decide +kernel
theorem dX10_layGroups_39 : decode cX10_layGroups 39 = .ok (.invokestatic 125, 3) := by decide +kernel
theorem dX10_layGroups_42 : decode cX10_layGroups 42 = .ok (.ifCond .ne 24, 3) := by decide +kernel
theorem dX10_layGroups_45 : decode cX10_layGroups 45 = .ok (.iload_n 3, 1) := by decide +kernel
theorem dX10_layGroups_46 : decode cX10_layGroups 46 = .ok (.bipush (-9), 2) := by decide +kernel
theorem dX10_layGroups_48 : decode cX10_layGroups 48 = .ok (.if_icmp .eq 13, 3) := by decide +kernel
theorem dX10_layGroups_51 : decode cX10_layGroups 51 = .ok (.aload_n 0, 1) := by decide +kernel
theorem dX10_layGroups_52 : decode cX10_layGroups 52 = .ok (.iload 4, 2) := by decide +kernel
theorem dX10_layGroups_54 : decode cX10_layGroups 54 = .ok (.iload_n 3, 1) := by decide +kernel
theorem dX10_layGroups_55 : decode cX10_layGroups 55 = .ok (.invokevirtual 129, 3) := by decide +kernel
theorem dX10_layGroups_58 : decode cX10_layGroups 58 = .ok (.ifCond .eq 8, 3) := by decide +kernel
theorem dX10_layGroups_61 : decode cX10_layGroups 61 = .ok (.iload 4, 2) := by decide +kernel
theorem dX10_layGroups_63 : decode cX10_layGroups 63 = .ok (.goto 4, 3) := by decide +kernel
theorem dX10_layGroups_66 : decode cX10_layGroups 66 = .ok (.iload_n 3, 1) := by decide +kernel
theorem dX10_layGroups_67 : decode cX10_layGroups 67 = .ok (.istore_n 3, 1) := by decide +kernel
theorem dX10_layGroups_68 : decode cX10_layGroups 68 = .ok (.iinc 4 1, 3) := by decide +kernel
theorem dX10_layGroups_71 : decode cX10_layGroups 71 = .ok (.goto (-46), 3) := by decide +kernel
theorem dX10_layGroups_74 : decode cX10_layGroups 74 = .ok (.iload_n 1, 1) := by decide +kernel
theorem dX10_layGroups_75 : decode cX10_layGroups 75 = .ok (.iconst 1, 1) := by decide +kernel
theorem dX10_layGroups_76 : decode cX10_layGroups 76 = .ok (.iload_n 3, 1) := by decide +kernel
theorem dX10_layGroups_77 : decode cX10_layGroups 77 = .ok (.ishl, 1) := by decide +kernel
theorem dX10_layGroups_78 : decode cX10_layGroups 78 = .ok (.ior, 1) := by decide +kernel
theorem dX10_layGroups_79 : decode cX10_layGroups 79 = .ok (.istore_n 1, 1) := by decide +kernel
theorem dX10_layGroups_80 : decode cX10_layGroups 80 = .ok (.aload_n 0, 1) := by decide +kernel
theorem dX10_layGroups_81 : decode cX10_layGroups 81 = .ok (.getfield 122, 3) := by decide +kernel
theorem dX10_layGroups_84 : decode cX10_layGroups 84 = .ok (.istore 4, 2) := by decide +kernel
theorem dX10_layGroups_86 : decode cX10_layGroups 86 = .ok (.aload_n 0, 1) := by decide +kernel
theorem dX10_layGroups_87 : decode cX10_layGroups 87 = .ok (.getfield 122, 3) := by decide +kernel
theorem dX10_layGroups_90 : decode cX10_layGroups 90 = .ok (.iconst 1, 1) := by decide +kernel
theorem dX10_layGroups_91 : decode cX10_layGroups 91 = .ok (.isub, 1) := by decide +kernel
theorem dX10_layGroups_92 : decode cX10_layGroups 92 = .ok (.istore 5, 2) := by decide +kernel
theorem dX10_layGroups_94 : decode cX10_layGroups 94 = .ok (.iload 5, 2) := by decide +kernel
theorem dX10_layGroups_96 : decode cX10_layGroups 96 = .ok (.ifCond .lt 83, 3) := by decide +kernel
theorem dX10_layGroups_99 : decode cX10_layGroups 99 = .ok (.iconst 1, 1) := by decide +kernel
theorem dX10_layGroups_100 : decode cX10_layGroups 100 = .ok (.istore 6, 2) := by decide +kernel
theorem dX10_layGroups_102 : decode cX10_layGroups 102 = .ok (.iconst 0, 1) := by decide +kernel
theorem dX10_layGroups_103 : decode cX10_layGroups 103 = .ok (.istore 7, 2) := by decide +kernel
theorem dX10_layGroups_105 : decode cX10_layGroups 105 = .ok (.iload 7, 2) := by decide +kernel
theorem dX10_layGroups_107 : decode cX10_layGroups 107 = .ok (.aload_n 0, 1) := by decide +kernel
theorem dX10_layGroups_108 : decode cX10_layGroups 108 = .ok (.getfield 16, 3) := by decide +kernel
theorem dX10_layGroups_111 : decode cX10_layGroups 111 = .ok (.iconst 0, 1) := by decide +kernel
theorem dX10_layGroups_112 : decode cX10_layGroups 112 = .ok (.iaload, 1) := by decide +kernel
theorem dX10_layGroups_113 : decode cX10_layGroups 113 = .ok (.if_icmp .ge 46, 3) := by decide +kernel
theorem dX10_layGroups_116 : decode cX10_layGroups 116 = .ok (.iload 6, 2) := by decide +kernel
theorem dX10_layGroups_118 : decode cX10_layGroups 118 = .ok (.ifCond .eq 32, 3) := by decide +kernel
theorem dX10_layGroups_121 : decode cX10_layGroups 121 = .ok (.aload_n 0, 1) := by decide +kernel
theorem dX10_layGroups_122 : decode cX10_layGroups 122 = .ok (.getfield 41, 3) := by decide +kernel
theorem dX10_layGroups_125 : decode cX10_layGroups 125 = .ok (.iload 5, 2) := by decide +kernel
theorem dX10_layGroups_127 : decode cX10_layGroups 127 = .ok (.iaload, 1) := by decide +kernel
theorem dX10_layGroups_128 : decode cX10_layGroups 128 = .ok (.iload 7, 2) := by decide +kernel
theorem dX10_layGroups_130 : decode cX10_layGroups 130 = .ok (.invokestatic 125, 3) := by decide +kernel
theorem dX10_layGroups_133 : decode cX10_layGroups 133 = .ok (.ifCond .eq 13, 3) := by decide +kernel
theorem dX10_layGroups_136 : decode cX10_layGroups 136 = .ok (.aload_n 0, 1) := by decide +kernel
theorem dX10_layGroups_137 : decode cX10_layGroups 137 = .ok (.iload 7, 2) := by decide +kernel
theorem dX10_layGroups_139 : decode cX10_layGroups 139 = .ok (.iload_n 3, 1) := by decide +kernel
theorem dX10_layGroups_140 : decode cX10_layGroups 140 = .ok (.invokevirtual 132, 3) := by decide +kernel
theorem dX10_layGroups_143 : decode cX10_layGroups 143 = .ok (.ifCond .eq 7, 3) := by decide +kernel
theorem dX10_layGroups_146 : decode cX10_layGroups 146 = .ok (.iconst 1, 1) := by decide +kernel
theorem dX10_layGroups_147 : decode cX10_layGroups 147 = .ok (.goto 4, 3) := by decide +kernel
theorem dX10_layGroups_150 : decode cX10_layGroups 150 = .ok (.iconst 0, 1) := by decide +kernel
theorem dX10_layGroups_151 : decode cX10_layGroups 151 = .ok (.istore 6, 2) := by decide +kernel
theorem dX10_layGroups_153 : decode cX10_layGroups 153 = .ok (.iinc 7 1, 3) := by decide +kernel
theorem dX10_layGroups_156 : decode cX10_layGroups 156 = .ok (.goto (-51), 3) := by decide +kernel
theorem dX10_layGroups_159 : decode cX10_layGroups 159 = .ok (.iload 6, 2) := by decide +kernel
theorem dX10_layGroups_161 : decode cX10_layGroups 161 = .ok (.ifCond .eq 8, 3) := by decide +kernel
theorem dX10_layGroups_164 : decode cX10_layGroups 164 = .ok (.iload 5, 2) := by decide +kernel
theorem dX10_layGroups_166 : decode cX10_layGroups 166 = .ok (.goto 5, 3) := by decide +kernel
theorem dX10_layGroups_169 : decode cX10_layGroups 169 = .ok (.iload 4, 2) := by decide +kernel
theorem dX10_layGroups_171 : decode cX10_layGroups 171 = .ok (.istore 4, 2) := by decide +kernel
theorem dX10_layGroups_173 : decode cX10_layGroups 173 = .ok (.iinc 5 (-1), 3) := by decide +kernel
theorem dX10_layGroups_176 : decode cX10_layGroups 176 = .ok (.goto (-82), 3) := by decide +kernel
theorem dX10_layGroups_179 : decode cX10_layGroups 179 = .ok (.iload 4, 2) := by decide +kernel
theorem dX10_layGroups_181 : decode cX10_layGroups 181 = .ok (.aload_n 0, 1) := by decide +kernel
theorem dX10_layGroups_182 : decode cX10_layGroups 182 = .ok (.getfield 122, 3) := by decide +kernel
theorem dX10_layGroups_185 : decode cX10_layGroups 185 = .ok (.if_icmp .ne 21, 3) := by decide +kernel
theorem dX10_layGroups_188 : decode cX10_layGroups 188 = .ok (.aload_n 0, 1) := by decide +kernel
theorem dX10_layGroups_189 : decode cX10_layGroups 189 = .ok (.getfield 41, 3) := by decide +kernel
theorem dX10_layGroups_192 : decode cX10_layGroups 192 = .ok (.iload 4, 2) := by decide +kernel
theorem dX10_layGroups_194 : decode cX10_layGroups 194 = .ok (.iconst 0, 1) := by decide +kernel
theorem dX10_layGroups_195 : decode cX10_layGroups 195 = .ok (.iastore, 1) := by decide +kernel
theorem dX10_layGroups_196 : decode cX10_layGroups 196 = .ok (.aload_n 0, 1) := by decide +kernel
theorem dX10_layGroups_197 : decode cX10_layGroups 197 = .ok (.dup, 1) := by decide +kernel
theorem dX10_layGroups_198 : decode cX10_layGroups 198 = .ok (.getfield 122, 3) := by decide +kernel
theorem dX10_layGroups_201 : decode cX10_layGroups 201 = .ok (.iconst 1, 1) := by decide +kernel
theorem dX10_layGroups_202 : decode cX10_layGroups 202 = .ok (.iadd, 1) := by decide +kernel
theorem dX10_layGroups_203 : decode cX10_layGroups 203 = .ok (.putfield 122, 3) := by decide +kernel
theorem dX10_layGroups_206 : decode cX10_layGroups 206 = .ok (.aload_n 0, 1) := by decide +kernel
theorem dX10_layGroups_207 : decode cX10_layGroups 207 = .ok (.getfield 41, 3) := by decide +kernel
theorem dX10_layGroups_210 : decode cX10_layGroups 210 = .ok (.iload 4, 2) := by decide +kernel
theorem dX10_layGroups_212 : decode cX10_layGroups 212 = .ok (.dup2, 1) := by decide +kernel
theorem dX10_layGroups_213 : decode cX10_layGroups 213 = .ok (.iaload, 1) := by decide +kernel
theorem dX10_layGroups_214 : decode cX10_layGroups 214 = .ok (.iconst 1, 1) := by decide +kernel
theorem dX10_layGroups_215 : decode cX10_layGroups 215 = .ok (.iload_n 3, 1) := by decide +kernel
theorem dX10_layGroups_216 : decode cX10_layGroups 216 = .ok (.ishl, 1) := by decide +kernel
theorem dX10_layGroups_217 : decode cX10_layGroups 217 = .ok (.ior, 1) := by decide +kernel
theorem dX10_layGroups_218 : decode cX10_layGroups 218 = .ok (.iastore, 1) := by decide +kernel
theorem dX10_layGroups_219 : decode cX10_layGroups 219 = .ok (.iinc 2 1, 3) := by decide +kernel
theorem dX10_layGroups_222 : decode cX10_layGroups 222 = .ok (.goto (-213), 3) := by decide +kernel
theorem dX10_layGroups_225 : decode cX10_layGroups 225 = .ok (.return_, 1) := by decide +kernel
theorem dX10_groupOf_0 : decode cX10_groupOf 0 = .ok (.aload_n 0, 1) := by decide +kernel
theorem dX10_groupOf_1 : decode cX10_groupOf 1 = .ok (.invokevirtual 135, 3) := by decide +kernel
theorem dX10_groupOf_4 : decode cX10_groupOf 4 = .ok (.iconst 0, 1) := by decide +kernel
theorem dX10_groupOf_5 : decode cX10_groupOf 5 = .ok (.istore_n 2, 1) := by decide +kernel
theorem dX10_groupOf_6 : decode cX10_groupOf 6 = .ok (.aload_n 0, 1) := by decide +kernel
theorem dX10_groupOf_7 : decode cX10_groupOf 7 = .ok (.getfield 41, 3) := by decide +kernel
theorem dX10_groupOf_10 : decode cX10_groupOf 10 = .ok (.iload_n 2, 1) := by decide +kernel
theorem dX10_groupOf_11 : decode cX10_groupOf 11 = .ok (.iaload, 1) := by decide +kernel
theorem dX10_groupOf_12 : decode cX10_groupOf 12 = .ok (.iload_n 1, 1) := by decide +kernel
theorem dX10_groupOf_13 : decode cX10_groupOf 13 = .ok (.invokestatic 125, 3) := by decide +kernel
theorem dX10_groupOf_16 : decode cX10_groupOf 16 = .ok (.ifCond .ne 9, 3) := by decide +kernel
theorem dX10_groupOf_19 : decode cX10_groupOf 19 = .ok (.iinc 2 1, 3) := by decide +kernel
theorem dX10_groupOf_22 : decode cX10_groupOf 22 = .ok (.goto (-16), 3) := by decide +kernel
theorem dX10_groupOf_25 : decode cX10_groupOf 25 = .ok (.iload_n 2, 1) := by decide +kernel
theorem dX10_groupOf_26 : decode cX10_groupOf 26 = .ok (.ireturn, 1) := by decide +kernel
theorem dX10_station_0 : decode cX10_station 0 = .ok (.aload_n 0, 1) := by decide +kernel
theorem dX10_station_1 : decode cX10_station 1 = .ok (.iload_n 1, 1) := by decide +kernel
theorem dX10_station_2 : decode cX10_station 2 = .ok (.invokevirtual 138, 3) := by decide +kernel
theorem dX10_station_5 : decode cX10_station 5 = .ok (.ifCond .eq 12, 3) := by decide +kernel
theorem dX10_station_8 : decode cX10_station 8 = .ok (.iload_n 2, 1) := by decide +kernel
theorem dX10_station_9 : decode cX10_station 9 = .ok (.iconst 0, 1) := by decide +kernel
theorem dX10_station_10 : decode cX10_station 10 = .ok (.iconst 2, 1) := by decide +kernel
theorem dX10_station_11 : decode cX10_station 11 = .ok (.invokestatic 48, 3) := by decide +kernel
theorem dX10_station_14 : decode cX10_station 14 = .ok (.ifCond .ne 5, 3) := by decide +kernel
theorem dX10_station_17 : decode cX10_station 17 = .ok (.iconst (-1), 1) := by decide +kernel
theorem dX10_station_18 : decode cX10_station 18 = .ok (.ireturn, 1) := by decide +kernel
theorem dX10_station_19 : decode cX10_station 19 = .ok (.iload_n 2, 1) := by decide +kernel
theorem dX10_station_20 : decode cX10_station 20 = .ok (.ifCond .ne 12, 3) := by decide +kernel
theorem dX10_station_23 : decode cX10_station 23 = .ok (.aload_n 0, 1) := by decide +kernel
theorem dX10_station_24 : decode cX10_station 24 = .ok (.getfield 7, 3) := by decide +kernel
theorem dX10_station_27 : decode cX10_station 27 = .ok (.iload_n 1, 1) := by decide +kernel
theorem dX10_station_28 : decode cX10_station 28 = .ok (.iaload, 1) := by decide +kernel
theorem dX10_station_29 : decode cX10_station 29 = .ok (.goto 25, 3) := by decide +kernel
theorem dX10_station_32 : decode cX10_station 32 = .ok (.iload_n 2, 1) := by decide +kernel
theorem dX10_station_33 : decode cX10_station 33 = .ok (.iconst 1, 1) := by decide +kernel
theorem dX10_station_34 : decode cX10_station 34 = .ok (.if_icmp .ne 12, 3) := by decide +kernel
theorem dX10_station_37 : decode cX10_station 37 = .ok (.aload_n 0, 1) := by decide +kernel
theorem dX10_station_38 : decode cX10_station 38 = .ok (.getfield 13, 3) := by decide +kernel
theorem dX10_station_41 : decode cX10_station 41 = .ok (.iload_n 1, 1) := by decide +kernel
theorem dX10_station_42 : decode cX10_station 42 = .ok (.iaload, 1) := by decide +kernel
theorem dX10_station_43 : decode cX10_station 43 = .ok (.goto 11, 3) := by decide +kernel
theorem dX10_station_46 : decode cX10_station 46 = .ok (.aload_n 0, 1) := by decide +kernel
theorem dX10_station_47 : decode cX10_station 47 = .ok (.getfield 16, 3) := by decide +kernel
theorem dX10_station_50 : decode cX10_station 50 = .ok (.iconst 1, 1) := by decide +kernel
theorem dX10_station_51 : decode cX10_station 51 = .ok (.iload_n 1, 1) := by decide +kernel
theorem dX10_station_52 : decode cX10_station 52 = .ok (.iadd, 1) := by decide +kernel
theorem dX10_station_53 : decode cX10_station 53 = .ok (.iaload, 1) := by decide +kernel
theorem dX10_station_54 : decode cX10_station 54 = .ok (.ireturn, 1) := by decide +kernel
theorem dX10_reading_0 : decode cX10_reading 0 = .ok (.aload_n 0, 1) := by decide +kernel
theorem dX10_reading_1 : decode cX10_reading 1 = .ok (.iload_n 1, 1) := by decide +kernel
theorem dX10_reading_2 : decode cX10_reading 2 = .ok (.invokevirtual 141, 3) := by decide +kernel
theorem dX10_reading_5 : decode cX10_reading 5 = .ok (.ifCond .eq 12, 3) := by decide +kernel
theorem dX10_reading_8 : decode cX10_reading 8 = .ok (.iload_n 2, 1) := by decide +kernel
theorem dX10_reading_9 : decode cX10_reading 9 = .ok (.iconst 0, 1) := by decide +kernel
theorem dX10_reading_10 : decode cX10_reading 10 = .ok (.iconst 3, 1) := by decide +kernel
theorem dX10_reading_11 : decode cX10_reading 11 = .ok (.invokestatic 48, 3) := by decide +kernel
theorem dX10_reading_14 : decode cX10_reading 14 = .ok (.ifCond .ne 6, 3) := by decide +kernel
theorem dX10_reading_17 : decode cX10_reading 17 = .ok (.ldc 144, 2) := by decide +kernel
theorem dX10_reading_19 : decode cX10_reading 19 = .ok (.ireturn, 1) := by decide +kernel
theorem dX10_reading_20 : decode cX10_reading 20 = .ok (.iload_n 2, 1) := by decide +kernel
theorem dX10_reading_21 : decode cX10_reading 21 = .ok (.ifCond .ne 15, 3) := by decide +kernel
theorem dX10_reading_24 : decode cX10_reading 24 = .ok (.aload_n 0, 1) := by decide +kernel
theorem dX10_reading_25 : decode cX10_reading 25 = .ok (.getfield 16, 3) := by decide +kernel
theorem dX10_reading_28 : decode cX10_reading 28 = .ok (.bipush 7, 2) := by decide +kernel
theorem dX10_reading_30 : decode cX10_reading 30 = .ok (.iload_n 1, 1) := by decide +kernel
theorem dX10_reading_31 : decode cX10_reading 31 = .ok (.iadd, 1) := by decide +kernel
theorem dX10_reading_32 : decode cX10_reading 32 = .ok (.iaload, 1) := by decide +kernel
theorem dX10_reading_33 : decode cX10_reading 33 = .ok (.goto 38, 3) := by decide +kernel
theorem dX10_reading_36 : decode cX10_reading 36 = .ok (.iload_n 2, 1) := by decide +kernel
theorem dX10_reading_37 : decode cX10_reading 37 = .ok (.iconst 1, 1) := by decide +kernel
theorem dX10_reading_38 : decode cX10_reading 38 = .ok (.if_icmp .ne 15, 3) := by decide +kernel
theorem dX10_reading_41 : decode cX10_reading 41 = .ok (.aload_n 0, 1) := by decide +kernel
theorem dX10_reading_42 : decode cX10_reading 42 = .ok (.getfield 16, 3) := by decide +kernel
theorem dX10_reading_45 : decode cX10_reading 45 = .ok (.bipush 16, 2) := by decide +kernel
theorem dX10_reading_47 : decode cX10_reading 47 = .ok (.iload_n 1, 1) := by decide +kernel
theorem dX10_reading_48 : decode cX10_reading 48 = .ok (.iadd, 1) := by decide +kernel
theorem dX10_reading_49 : decode cX10_reading 49 = .ok (.iaload, 1) := by decide +kernel
theorem dX10_reading_50 : decode cX10_reading 50 = .ok (.goto 21, 3) := by decide +kernel
theorem dX10_reading_53 : decode cX10_reading 53 = .ok (.iload_n 2, 1) := by decide +kernel
theorem dX10_reading_54 : decode cX10_reading 54 = .ok (.iconst 2, 1) := by decide +kernel
theorem dX10_reading_55 : decode cX10_reading 55 = .ok (.if_icmp .ne 11, 3) := by decide +kernel
theorem dX10_reading_58 : decode cX10_reading 58 = .ok (.aload_n 0, 1) := by decide +kernel
theorem dX10_reading_59 : decode cX10_reading 59 = .ok (.iload_n 1, 1) := by decide +kernel
theorem dX10_reading_60 : decode cX10_reading 60 = .ok (.invokevirtual 110, 3) := by decide +kernel
theorem dX10_reading_63 : decode cX10_reading 63 = .ok (.goto 8, 3) := by decide +kernel
theorem dX10_reading_66 : decode cX10_reading 66 = .ok (.aload_n 0, 1) := by decide +kernel
theorem dX10_reading_67 : decode cX10_reading 67 = .ok (.iload_n 1, 1) := by decide +kernel
theorem dX10_reading_68 : decode cX10_reading 68 = .ok (.invokevirtual 145, 3) := by decide +kernel
theorem dX10_reading_71 : decode cX10_reading 71 = .ok (.ireturn, 1) := by decide +kernel
theorem dX10_remember_0 : decode cX10_remember 0 = .ok (.iconst 0, 1) := by decide +kernel
theorem dX10_remember_1 : decode cX10_remember 1 = .ok (.istore_n 1, 1) := by decide +kernel
theorem dX10_remember_2 : decode cX10_remember 2 = .ok (.iload_n 1, 1) := by decide +kernel
theorem dX10_remember_3 : decode cX10_remember 3 = .ok (.bipush 25, 2) := by decide +kernel
theorem dX10_remember_5 : decode cX10_remember 5 = .ok (.if_icmp .ge 29, 3) := by decide +kernel
theorem dX10_remember_8 : decode cX10_remember 8 = .ok (.aload_n 0, 1) := by decide +kernel
theorem dX10_remember_9 : decode cX10_remember 9 = .ok (.getfield 19, 3) := by decide +kernel
theorem dX10_remember_12 : decode cX10_remember 12 = .ok (.bipush 25, 2) := by decide +kernel
theorem dX10_remember_14 : decode cX10_remember 14 = .ok (.aload_n 0, 1) := by decide +kernel
theorem dX10_remember_15 : decode cX10_remember 15 = .ok (.getfield 148, 3) := by decide +kernel
theorem dX10_remember_18 : decode cX10_remember 18 = .ok (.imul, 1) := by decide +kernel
theorem dX10_remember_19 : decode cX10_remember 19 = .ok (.iload_n 1, 1) := by decide +kernel
theorem dX10_remember_20 : decode cX10_remember 20 = .ok (.iadd, 1) := by decide +kernel
theorem dX10_remember_21 : decode cX10_remember 21 = .ok (.aload_n 0, 1) := by decide +kernel
theorem dX10_remember_22 : decode cX10_remember 22 = .ok (.getfield 16, 3) := by decide +kernel
theorem dX10_remember_25 : decode cX10_remember 25 = .ok (.iload_n 1, 1) := by decide +kernel
theorem dX10_remember_26 : decode cX10_remember 26 = .ok (.iaload, 1) := by decide +kernel
theorem dX10_remember_27 : decode cX10_remember 27 = .ok (.iastore, 1) := by decide +kernel
theorem dX10_remember_28 : decode cX10_remember 28 = .ok (.iinc 1 1, 3) := by decide +kernel
theorem dX10_remember_31 : decode cX10_remember 31 = .ok (.goto (-29), 3) := by decide +kernel
theorem dX10_remember_34 : decode cX10_remember 34 = .ok (.aload_n 0, 1) := by decide +kernel
theorem dX10_remember_35 : decode cX10_remember 35 = .ok (.aload_n 0, 1) := by decide +kernel
theorem dX10_remember_36 : decode cX10_remember 36 = .ok (.getfield 148, 3) := by decide +kernel
theorem dX10_remember_39 : decode cX10_remember 39 = .ok (.iconst 1, 1) := by decide +kernel
theorem dX10_remember_40 : decode cX10_remember 40 = .ok (.iadd, 1) := by decide +kernel
theorem dX10_remember_41 : decode cX10_remember 41 = .ok (.bipush 10, 2) := by decide +kernel
theorem dX10_remember_43 : decode cX10_remember 43 = .ok (.irem, 1) := by decide +kernel
theorem dX10_remember_44 : decode cX10_remember 44 = .ok (.putfield 148, 3) := by decide +kernel
theorem dX10_remember_47 : decode cX10_remember 47 = .ok (.aload_n 0, 1) := by decide +kernel
theorem dX10_remember_48 : decode cX10_remember 48 = .ok (.dup, 1) := by decide +kernel
theorem dX10_remember_49 : decode cX10_remember 49 = .ok (.getfield 107, 3) := by decide +kernel
theorem dX10_remember_52 : decode cX10_remember 52 = .ok (.aload_n 0, 1) := by decide +kernel
theorem dX10_remember_53 : decode cX10_remember 53 = .ok (.getfield 107, 3) := by decide +kernel
theorem dX10_remember_56 : decode cX10_remember 56 = .ok (.bipush 10, 2) := by decide +kernel
theorem dX10_remember_58 : decode cX10_remember 58 = .ok (.if_icmp .ge 7, 3) := by decide +kernel
theorem dX10_remember_61 : decode cX10_remember 61 = .ok (.iconst 1, 1) := by decide +kernel
theorem dX10_remember_62 : decode cX10_remember 62 = .ok (.goto 4, 3) := by decide +kernel
theorem dX10_remember_65 : decode cX10_remember 65 = .ok (.iconst 0, 1) := by decide +kernel
theorem dX10_remember_66 : decode cX10_remember 66 = .ok (.iadd, 1) := by decide +kernel
theorem dX10_remember_67 : decode cX10_remember 67 = .ok (.putfield 107, 3) := by decide +kernel
theorem dX10_remember_70 : decode cX10_remember 70 = .ok (.return_, 1) := by decide +kernel
theorem dX10_hears_0 : decode cX10_hears 0 = .ok (.aload_n 0, 1) := by decide +kernel
theorem dX10_hears_1 : decode cX10_hears 1 = .ok (.iload_n 1, 1) := by decide +kernel
theorem dX10_hears_2 : decode cX10_hears 2 = .ok (.invokevirtual 138, 3) := by decide +kernel
theorem dX10_hears_5 : decode cX10_hears 5 = .ok (.ifCond .eq 13, 3) := by decide +kernel
theorem dX10_hears_8 : decode cX10_hears 8 = .ok (.iload_n 2, 1) := by decide +kernel
theorem dX10_hears_9 : decode cX10_hears 9 = .ok (.iconst 0, 1) := by decide +kernel
theorem dX10_hears_10 : decode cX10_hears 10 = .ok (.bipush 60, 2) := by decide +kernel
theorem dX10_hears_12 : decode cX10_hears 12 = .ok (.invokestatic 48, 3) := by decide +kernel
theorem dX10_hears_15 : decode cX10_hears 15 = .ok (.ifCond .ne 5, 3) := by decide +kernel
theorem dX10_hears_18 : decode cX10_hears 18 = .ok (.iconst (-1), 1) := by decide +kernel
theorem dX10_hears_19 : decode cX10_hears 19 = .ok (.ireturn, 1) := by decide +kernel
theorem dX10_hears_20 : decode cX10_hears 20 = .ok (.aload_n 0, 1) := by decide +kernel
theorem dX10_hears_21 : decode cX10_hears 21 = .ok (.getfield 16, 3) := by decide +kernel
theorem dX10_hears_24 : decode cX10_hears 24 = .ok (.iconst 0, 1) := by decide +kernel
theorem dX10_hears_25 : decode cX10_hears 25 = .ok (.iaload, 1) := by decide +kernel
theorem dX10_hears_26 : decode cX10_hears 26 = .ok (.istore_n 3, 1) := by decide +kernel
theorem dX10_hears_27 : decode cX10_hears 27 = .ok (.iload_n 3, 1) := by decide +kernel
theorem dX10_hears_28 : decode cX10_hears 28 = .ok (.bipush 9, 2) := by decide +kernel
theorem dX10_hears_30 : decode cX10_hears 30 = .ok (.if_icmp .ne 6, 3) := by decide +kernel
theorem dX10_hears_33 : decode cX10_hears 33 = .ok (.bipush (-3), 2) := by decide +kernel
theorem dX10_hears_35 : decode cX10_hears 35 = .ok (.ireturn, 1) := by decide +kernel
theorem dX10_hears_36 : decode cX10_hears 36 = .ok (.aload_n 0, 1) := by decide +kernel
theorem dX10_hears_37 : decode cX10_hears 37 = .ok (.invokevirtual 151, 3) := by decide +kernel
theorem dX10_hears_40 : decode cX10_hears 40 = .ok (.aload_n 0, 1) := by decide +kernel
theorem dX10_hears_41 : decode cX10_hears 41 = .ok (.getfield 16, 3) := by decide +kernel
theorem dX10_hears_44 : decode cX10_hears 44 = .ok (.bipush 7, 2) := by decide +kernel
theorem dX10_hears_46 : decode cX10_hears 46 = .ok (.iload_n 3, 1) := by decide +kernel
theorem dX10_hears_47 : decode cX10_hears 47 = .ok (.iadd, 1) := by decide +kernel
theorem dX10_hears_48 : decode cX10_hears 48 = .ok (.iload_n 1, 1) := by decide +kernel
theorem dX10_hears_49 : decode cX10_hears 49 = .ok (.iastore, 1) := by decide +kernel
theorem dX10_hears_50 : decode cX10_hears 50 = .ok (.aload_n 0, 1) := by decide +kernel
theorem dX10_hears_51 : decode cX10_hears 51 = .ok (.getfield 16, 3) := by decide +kernel
theorem dX10_hears_54 : decode cX10_hears 54 = .ok (.bipush 16, 2) := by decide +kernel
theorem dX10_hears_56 : decode cX10_hears 56 = .ok (.iload_n 3, 1) := by decide +kernel
theorem dX10_hears_57 : decode cX10_hears 57 = .ok (.iadd, 1) := by decide +kernel
theorem dX10_hears_58 : decode cX10_hears 58 = .ok (.iload_n 2, 1) := by decide +kernel
theorem dX10_hears_59 : decode cX10_hears 59 = .ok (.iastore, 1) := by decide +kernel
theorem dX10_hears_60 : decode cX10_hears 60 = .ok (.aload_n 0, 1) := by decide +kernel
theorem dX10_hears_61 : decode cX10_hears 61 = .ok (.getfield 16, 3) := by decide +kernel
theorem dX10_hears_64 : decode cX10_hears 64 = .ok (.iconst 0, 1) := by decide +kernel
theorem dX10_hears_65 : decode cX10_hears 65 = .ok (.dup2, 1) := by decide +kernel
theorem dX10_hears_66 : decode cX10_hears 66 = .ok (.iaload, 1) := by decide +kernel
theorem dX10_hears_67 : decode cX10_hears 67 = .ok (.iconst 1, 1) := by decide +kernel
theorem dX10_hears_68 : decode cX10_hears 68 = .ok (.iadd, 1) := by decide +kernel
theorem dX10_hears_69 : decode cX10_hears 69 = .ok (.iastore, 1) := by decide +kernel
theorem dX10_hears_70 : decode cX10_hears 70 = .ok (.iload_n 3, 1) := by decide +kernel
theorem dX10_hears_71 : decode cX10_hears 71 = .ok (.ireturn, 1) := by decide +kernel
theorem dX10_strikes_0 : decode cX10_strikes 0 = .ok (.aload_n 0, 1) := by decide +kernel
theorem dX10_strikes_1 : decode cX10_strikes 1 = .ok (.iload_n 1, 1) := by decide +kernel
theorem dX10_strikes_2 : decode cX10_strikes 2 = .ok (.invokevirtual 141, 3) := by decide +kernel
theorem dX10_strikes_5 : decode cX10_strikes 5 = .ok (.ifCond .ne 5, 3) := by decide +kernel
theorem dX10_strikes_8 : decode cX10_strikes 8 = .ok (.iconst (-1), 1) := by decide +kernel
theorem dX10_strikes_9 : decode cX10_strikes 9 = .ok (.ireturn, 1) := by decide +kernel
theorem dX10_strikes_10 : decode cX10_strikes 10 = .ok (.aload_n 0, 1) := by decide +kernel
theorem dX10_strikes_11 : decode cX10_strikes 11 = .ok (.invokevirtual 151, 3) := by decide +kernel
theorem dX10_strikes_14 : decode cX10_strikes 14 = .ok (.aload_n 0, 1) := by decide +kernel
theorem dX10_strikes_15 : decode cX10_strikes 15 = .ok (.getfield 16, 3) := by decide +kernel
theorem dX10_strikes_18 : decode cX10_strikes 18 = .ok (.iconst 0, 1) := by decide +kernel
theorem dX10_strikes_19 : decode cX10_strikes 19 = .ok (.dup2, 1) := by decide +kernel
theorem dX10_strikes_20 : decode cX10_strikes 20 = .ok (.iaload, 1) := by decide +kernel
theorem dX10_strikes_21 : decode cX10_strikes 21 = .ok (.iconst 1, 1) := by decide +kernel
theorem dX10_strikes_22 : decode cX10_strikes 22 = .ok (.isub, 1) := by decide +kernel
theorem dX10_strikes_23 : decode cX10_strikes 23 = .ok (.iastore, 1) := by decide +kernel
theorem dX10_strikes_24 : decode cX10_strikes 24 = .ok (.iload_n 1, 1) := by decide +kernel
theorem dX10_strikes_25 : decode cX10_strikes 25 = .ok (.istore_n 2, 1) := by decide +kernel
theorem dX10_strikes_26 : decode cX10_strikes 26 = .ok (.iload_n 2, 1) := by decide +kernel
theorem dX10_strikes_27 : decode cX10_strikes 27 = .ok (.aload_n 0, 1) := by decide +kernel
theorem dX10_strikes_28 : decode cX10_strikes 28 = .ok (.getfield 16, 3) := by decide +kernel
theorem dX10_strikes_31 : decode cX10_strikes 31 = .ok (.iconst 0, 1) := by decide +kernel
theorem dX10_strikes_32 : decode cX10_strikes 32 = .ok (.iaload, 1) := by decide +kernel
theorem dX10_strikes_33 : decode cX10_strikes 33 = .ok (.if_icmp .ge 49, 3) := by decide +kernel
theorem dX10_strikes_36 : decode cX10_strikes 36 = .ok (.aload_n 0, 1) := by decide +kernel
theorem dX10_strikes_37 : decode cX10_strikes 37 = .ok (.getfield 16, 3) := by decide +kernel
theorem dX10_strikes_40 : decode cX10_strikes 40 = .ok (.bipush 7, 2) := by decide +kernel
theorem dX10_strikes_42 : decode cX10_strikes 42 = .ok (.iload_n 2, 1) := by decide +kernel
theorem dX10_strikes_43 : decode cX10_strikes 43 = .ok (.iadd, 1) := by decide +kernel
theorem dX10_strikes_44 : decode cX10_strikes 44 = .ok (.aload_n 0, 1) := by decide +kernel
theorem dX10_strikes_45 : decode cX10_strikes 45 = .ok (.getfield 16, 3) := by decide +kernel
theorem dX10_strikes_48 : decode cX10_strikes 48 = .ok (.bipush 7, 2) := by decide +kernel
theorem dX10_strikes_50 : decode cX10_strikes 50 = .ok (.iload_n 2, 1) := by decide +kernel
theorem dX10_strikes_51 : decode cX10_strikes 51 = .ok (.iadd, 1) := by decide +kernel
theorem dX10_strikes_52 : decode cX10_strikes 52 = .ok (.iconst 1, 1) := by decide +kernel
theorem dX10_strikes_53 : decode cX10_strikes 53 = .ok (.iadd, 1) := by decide +kernel
theorem dX10_strikes_54 : decode cX10_strikes 54 = .ok (.iaload, 1) := by decide +kernel
theorem dX10_strikes_55 : decode cX10_strikes 55 = .ok (.iastore, 1) := by decide +kernel
theorem dX10_strikes_56 : decode cX10_strikes 56 = .ok (.aload_n 0, 1) := by decide +kernel
theorem dX10_strikes_57 : decode cX10_strikes 57 = .ok (.getfield 16, 3) := by decide +kernel
theorem dX10_strikes_60 : decode cX10_strikes 60 = .ok (.bipush 16, 2) := by decide +kernel
theorem dX10_strikes_62 : decode cX10_strikes 62 = .ok (.iload_n 2, 1) := by decide +kernel
theorem dX10_strikes_63 : decode cX10_strikes 63 = .ok (.iadd, 1) := by decide +kernel
theorem dX10_strikes_64 : decode cX10_strikes 64 = .ok (.aload_n 0, 1) := by decide +kernel
theorem dX10_strikes_65 : decode cX10_strikes 65 = .ok (.getfield 16, 3) := by decide +kernel
theorem dX10_strikes_68 : decode cX10_strikes 68 = .ok (.bipush 16, 2) := by decide +kernel
theorem dX10_strikes_70 : decode cX10_strikes 70 = .ok (.iload_n 2, 1) := by decide +kernel
theorem dX10_strikes_71 : decode cX10_strikes 71 = .ok (.iadd, 1) := by decide +kernel
theorem dX10_strikes_72 : decode cX10_strikes 72 = .ok (.iconst 1, 1) := by decide +kernel
theorem dX10_strikes_73 : decode cX10_strikes 73 = .ok (.iadd, 1) := by decide +kernel
theorem dX10_strikes_74 : decode cX10_strikes 74 = .ok (.iaload, 1) := by decide +kernel
theorem dX10_strikes_75 : decode cX10_strikes 75 = .ok (.iastore, 1) := by decide +kernel
theorem dX10_strikes_76 : decode cX10_strikes 76 = .ok (.iinc 2 1, 3) := by decide +kernel
theorem dX10_strikes_79 : decode cX10_strikes 79 = .ok (.goto (-53), 3) := by decide +kernel
theorem dX10_strikes_82 : decode cX10_strikes 82 = .ok (.aload_n 0, 1) := by decide +kernel
theorem dX10_strikes_83 : decode cX10_strikes 83 = .ok (.getfield 16, 3) := by decide +kernel
theorem dX10_strikes_86 : decode cX10_strikes 86 = .ok (.iconst 0, 1) := by decide +kernel
theorem dX10_strikes_87 : decode cX10_strikes 87 = .ok (.iaload, 1) := by decide +kernel
theorem dX10_strikes_88 : decode cX10_strikes 88 = .ok (.ireturn, 1) := by decide +kernel
theorem dX10_sets_0 : decode cX10_sets 0 = .ok (.aload_n 0, 1) := by decide +kernel
theorem dX10_sets_1 : decode cX10_sets 1 = .ok (.iload_n 1, 1) := by decide +kernel
theorem dX10_sets_2 : decode cX10_sets 2 = .ok (.invokevirtual 138, 3) := by decide +kernel
theorem dX10_sets_5 : decode cX10_sets 5 = .ok (.ifCond .eq 12, 3) := by decide +kernel
theorem dX10_sets_8 : decode cX10_sets 8 = .ok (.iload_n 2, 1) := by decide +kernel
theorem dX10_sets_9 : decode cX10_sets 9 = .ok (.iconst 0, 1) := by decide +kernel
theorem dX10_sets_10 : decode cX10_sets 10 = .ok (.iconst 4, 1) := by decide +kernel
theorem dX10_sets_11 : decode cX10_sets 11 = .ok (.invokestatic 48, 3) := by decide +kernel
theorem dX10_sets_14 : decode cX10_sets 14 = .ok (.ifCond .ne 5, 3) := by decide +kernel
theorem dX10_sets_17 : decode cX10_sets 17 = .ok (.iconst (-1), 1) := by decide +kernel
theorem dX10_sets_18 : decode cX10_sets 18 = .ok (.ireturn, 1) := by decide +kernel
theorem dX10_sets_19 : decode cX10_sets 19 = .ok (.aload_n 0, 1) := by decide +kernel
theorem dX10_sets_20 : decode cX10_sets 20 = .ok (.getfield 16, 3) := by decide +kernel
theorem dX10_sets_23 : decode cX10_sets 23 = .ok (.iconst 1, 1) := by decide +kernel
theorem dX10_sets_24 : decode cX10_sets 24 = .ok (.iload_n 1, 1) := by decide +kernel
theorem dX10_sets_25 : decode cX10_sets 25 = .ok (.iadd, 1) := by decide +kernel
theorem dX10_sets_26 : decode cX10_sets 26 = .ok (.iaload, 1) := by decide +kernel
theorem dX10_sets_27 : decode cX10_sets 27 = .ok (.istore_n 3, 1) := by decide +kernel
theorem dX10_sets_28 : decode cX10_sets 28 = .ok (.iload_n 3, 1) := by decide +kernel
theorem dX10_sets_29 : decode cX10_sets 29 = .ok (.iload_n 2, 1) := by decide +kernel
theorem dX10_sets_30 : decode cX10_sets 30 = .ok (.if_icmp .ne 6, 3) := by decide +kernel
theorem dX10_sets_33 : decode cX10_sets 33 = .ok (.bipush (-2), 2) := by decide +kernel
theorem dX10_sets_35 : decode cX10_sets 35 = .ok (.ireturn, 1) := by decide +kernel
theorem dX10_sets_36 : decode cX10_sets 36 = .ok (.aload_n 0, 1) := by decide +kernel
theorem dX10_sets_37 : decode cX10_sets 37 = .ok (.invokevirtual 151, 3) := by decide +kernel
theorem dX10_sets_40 : decode cX10_sets 40 = .ok (.aload_n 0, 1) := by decide +kernel
theorem dX10_sets_41 : decode cX10_sets 41 = .ok (.getfield 16, 3) := by decide +kernel
theorem dX10_sets_44 : decode cX10_sets 44 = .ok (.iconst 1, 1) := by decide +kernel
theorem dX10_sets_45 : decode cX10_sets 45 = .ok (.iload_n 1, 1) := by decide +kernel
theorem dX10_sets_46 : decode cX10_sets 46 = .ok (.iadd, 1) := by decide +kernel
theorem dX10_sets_47 : decode cX10_sets 47 = .ok (.iload_n 2, 1) := by decide +kernel
theorem dX10_sets_48 : decode cX10_sets 48 = .ok (.iastore, 1) := by decide +kernel
theorem dX10_sets_49 : decode cX10_sets 49 = .ok (.iload_n 3, 1) := by decide +kernel
theorem dX10_sets_50 : decode cX10_sets 50 = .ok (.ireturn, 1) := by decide +kernel
theorem dX10_undo_0 : decode cX10_undo 0 = .ok (.aload_n 0, 1) := by decide +kernel
theorem dX10_undo_1 : decode cX10_undo 1 = .ok (.getfield 107, 3) := by decide +kernel
theorem dX10_undo_4 : decode cX10_undo 4 = .ok (.ifCond .ne 6, 3) := by decide +kernel
theorem dX10_undo_7 : decode cX10_undo 7 = .ok (.bipush (-2), 2) := by decide +kernel
theorem dX10_undo_9 : decode cX10_undo 9 = .ok (.ireturn, 1) := by decide +kernel
theorem dX10_undo_10 : decode cX10_undo 10 = .ok (.aload_n 0, 1) := by decide +kernel
theorem dX10_undo_11 : decode cX10_undo 11 = .ok (.aload_n 0, 1) := by decide +kernel
theorem dX10_undo_12 : decode cX10_undo 12 = .ok (.getfield 148, 3) := by decide +kernel
theorem dX10_undo_15 : decode cX10_undo 15 = .ok (.bipush 10, 2) := by decide +kernel
theorem dX10_undo_17 : decode cX10_undo 17 = .ok (.iadd, 1) := by decide +kernel
theorem dX10_undo_18 : decode cX10_undo 18 = .ok (.iconst 1, 1) := by decide +kernel
theorem dX10_undo_19 : decode cX10_undo 19 = .ok (.isub, 1) := by decide +kernel
theorem dX10_undo_20 : decode cX10_undo 20 = .ok (.bipush 10, 2) := by decide +kernel
theorem dX10_undo_22 : decode cX10_undo 22 = .ok (.irem, 1) := by decide +kernel
theorem dX10_undo_23 : decode cX10_undo 23 = .ok (.putfield 148, 3) := by decide +kernel
theorem dX10_undo_26 : decode cX10_undo 26 = .ok (.aload_n 0, 1) := by decide +kernel
theorem dX10_undo_27 : decode cX10_undo 27 = .ok (.dup, 1) := by decide +kernel
theorem dX10_undo_28 : decode cX10_undo 28 = .ok (.getfield 107, 3) := by decide +kernel
theorem dX10_undo_31 : decode cX10_undo 31 = .ok (.iconst 1, 1) := by decide +kernel
theorem dX10_undo_32 : decode cX10_undo 32 = .ok (.isub, 1) := by decide +kernel
theorem dX10_undo_33 : decode cX10_undo 33 = .ok (.putfield 107, 3) := by decide +kernel
theorem dX10_undo_36 : decode cX10_undo 36 = .ok (.iconst 0, 1) := by decide +kernel
theorem dX10_undo_37 : decode cX10_undo 37 = .ok (.istore_n 1, 1) := by decide +kernel
theorem dX10_undo_38 : decode cX10_undo 38 = .ok (.iload_n 1, 1) := by decide +kernel
theorem dX10_undo_39 : decode cX10_undo 39 = .ok (.bipush 25, 2) := by decide +kernel
theorem dX10_undo_41 : decode cX10_undo 41 = .ok (.if_icmp .ge 29, 3) := by decide +kernel
theorem dX10_undo_44 : decode cX10_undo 44 = .ok (.aload_n 0, 1) := by decide +kernel
theorem dX10_undo_45 : decode cX10_undo 45 = .ok (.getfield 16, 3) := by decide +kernel
theorem dX10_undo_48 : decode cX10_undo 48 = .ok (.iload_n 1, 1) := by decide +kernel
theorem dX10_undo_49 : decode cX10_undo 49 = .ok (.aload_n 0, 1) := by decide +kernel
theorem dX10_undo_50 : decode cX10_undo 50 = .ok (.getfield 19, 3) := by decide +kernel
theorem dX10_undo_53 : decode cX10_undo 53 = .ok (.bipush 25, 2) := by decide +kernel
theorem dX10_undo_55 : decode cX10_undo 55 = .ok (.aload_n 0, 1) := by decide +kernel
theorem dX10_undo_56 : decode cX10_undo 56 = .ok (.getfield 148, 3) := by decide +kernel
theorem dX10_undo_59 : decode cX10_undo 59 = .ok (.imul, 1) := by decide +kernel
theorem dX10_undo_60 : decode cX10_undo 60 = .ok (.iload_n 1, 1) := by decide +kernel
theorem dX10_undo_61 : decode cX10_undo 61 = .ok (.iadd, 1) := by decide +kernel
theorem dX10_undo_62 : decode cX10_undo 62 = .ok (.iaload, 1) := by decide +kernel
theorem dX10_undo_63 : decode cX10_undo 63 = .ok (.iastore, 1) := by decide +kernel
theorem dX10_undo_64 : decode cX10_undo 64 = .ok (.iinc 1 1, 3) := by decide +kernel
theorem dX10_undo_67 : decode cX10_undo 67 = .ok (.goto (-29), 3) := by decide +kernel
theorem dX10_undo_70 : decode cX10_undo 70 = .ok (.aload_n 0, 1) := by decide +kernel
theorem dX10_undo_71 : decode cX10_undo 71 = .ok (.getfield 107, 3) := by decide +kernel
theorem dX10_undo_74 : decode cX10_undo 74 = .ok (.ireturn, 1) := by decide +kernel
theorem dX10_cellAt_0 : decode cX10_cellAt 0 = .ok (.aload_n 0, 1) := by decide +kernel
theorem dX10_cellAt_1 : decode cX10_cellAt 1 = .ok (.getfield 44, 3) := by decide +kernel
theorem dX10_cellAt_4 : decode cX10_cellAt 4 = .ok (.iconst 4, 1) := by decide +kernel
theorem dX10_cellAt_5 : decode cX10_cellAt 5 = .ok (.iload_n 1, 1) := by decide +kernel
theorem dX10_cellAt_6 : decode cX10_cellAt 6 = .ok (.imul, 1) := by decide +kernel
theorem dX10_cellAt_7 : decode cX10_cellAt 7 = .ok (.iload_n 2, 1) := by decide +kernel
theorem dX10_cellAt_8 : decode cX10_cellAt 8 = .ok (.iadd, 1) := by decide +kernel
theorem dX10_cellAt_9 : decode cX10_cellAt 9 = .ok (.laload, 1) := by decide +kernel
theorem dX10_cellAt_10 : decode cX10_cellAt 10 = .ok (.lreturn, 1) := by decide +kernel
theorem dX10_firstOf_0 : decode cX10_firstOf 0 = .ok (.iconst 0, 1) := by decide +kernel
theorem dX10_firstOf_1 : decode cX10_firstOf 1 = .ok (.istore_n 2, 1) := by decide +kernel
theorem dX10_firstOf_2 : decode cX10_firstOf 2 = .ok (.iload_n 1, 1) := by decide +kernel
theorem dX10_firstOf_3 : decode cX10_firstOf 3 = .ok (.iload_n 2, 1) := by decide +kernel
theorem dX10_firstOf_4 : decode cX10_firstOf 4 = .ok (.invokestatic 125, 3) := by decide +kernel
theorem dX10_firstOf_7 : decode cX10_firstOf 7 = .ok (.ifCond .ne 9, 3) := by decide +kernel
theorem dX10_firstOf_10 : decode cX10_firstOf 10 = .ok (.iinc 2 1, 3) := by decide +kernel
theorem dX10_firstOf_13 : decode cX10_firstOf 13 = .ok (.goto (-11), 3) := by decide +kernel
theorem dX10_firstOf_16 : decode cX10_firstOf 16 = .ok (.iload_n 2, 1) := by decide +kernel
theorem dX10_firstOf_17 : decode cX10_firstOf 17 = .ok (.ireturn, 1) := by decide +kernel
theorem dX10_layRows_0 : decode cX10_layRows 0 = .ok (.aload_n 0, 1) := by decide +kernel
theorem dX10_layRows_1 : decode cX10_layRows 1 = .ok (.iconst 0, 1) := by decide +kernel
theorem dX10_layRows_2 : decode cX10_layRows 2 = .ok (.putfield 154, 3) := by decide +kernel
theorem dX10_layRows_5 : decode cX10_layRows 5 = .ok (.aload_n 0, 1) := by decide +kernel
theorem dX10_layRows_6 : decode cX10_layRows 6 = .ok (.iload_n 1, 1) := by decide +kernel
theorem dX10_layRows_7 : decode cX10_layRows 7 = .ok (.invokevirtual 157, 3) := by decide +kernel
theorem dX10_layRows_10 : decode cX10_layRows 10 = .ok (.istore_n 2, 1) := by decide +kernel
theorem dX10_layRows_11 : decode cX10_layRows 11 = .ok (.iload_n 2, 1) := by decide +kernel
theorem dX10_layRows_12 : decode cX10_layRows 12 = .ok (.iconst 1, 1) := by decide +kernel
theorem dX10_layRows_13 : decode cX10_layRows 13 = .ok (.iadd, 1) := by decide +kernel
theorem dX10_layRows_14 : decode cX10_layRows 14 = .ok (.istore_n 3, 1) := by decide +kernel
theorem dX10_layRows_15 : decode cX10_layRows 15 = .ok (.iload_n 3, 1) := by decide +kernel
theorem dX10_layRows_16 : decode cX10_layRows 16 = .ok (.aload_n 0, 1) := by decide +kernel
theorem dX10_layRows_17 : decode cX10_layRows 17 = .ok (.getfield 16, 3) := by decide +kernel
theorem dX10_layRows_20 : decode cX10_layRows 20 = .ok (.iconst 0, 1) := by decide +kernel
theorem dX10_layRows_21 : decode cX10_layRows 21 = .ok (.iaload, 1) := by decide +kernel
theorem dX10_layRows_22 : decode cX10_layRows 22 = .ok (.if_icmp .ge 166, 3) := by decide +kernel
theorem dX10_layRows_25 : decode cX10_layRows 25 = .ok (.iload_n 1, 1) := by decide +kernel
theorem dX10_layRows_26 : decode cX10_layRows 26 = .ok (.iload_n 3, 1) := by decide +kernel
theorem dX10_layRows_27 : decode cX10_layRows 27 = .ok (.invokestatic 125, 3) := by decide +kernel
theorem dX10_layRows_30 : decode cX10_layRows 30 = .ok (.ifCond .eq 152, 3) := by decide +kernel
theorem dX10_layRows_33 : decode cX10_layRows 33 = .ok (.iconst 4, 1) := by decide +kernel
theorem dX10_layRows_34 : decode cX10_layRows 34 = .ok (.aload_n 0, 1) := by decide +kernel
theorem dX10_layRows_35 : decode cX10_layRows 35 = .ok (.getfield 154, 3) := by decide +kernel
theorem dX10_layRows_38 : decode cX10_layRows 38 = .ok (.imul, 1) := by decide +kernel
theorem dX10_layRows_39 : decode cX10_layRows 39 = .ok (.istore 4, 2) := by decide +kernel
theorem dX10_layRows_41 : decode cX10_layRows 41 = .ok (.aload_n 0, 1) := by decide +kernel
theorem dX10_layRows_42 : decode cX10_layRows 42 = .ok (.getfield 44, 3) := by decide +kernel
theorem dX10_layRows_45 : decode cX10_layRows 45 = .ok (.iload 4, 2) := by decide +kernel
theorem dX10_layRows_47 : decode cX10_layRows 47 = .ok (.iconst 2, 1) := by decide +kernel
theorem dX10_layRows_48 : decode cX10_layRows 48 = .ok (.aload_n 0, 1) := by decide +kernel
theorem dX10_layRows_49 : decode cX10_layRows 49 = .ok (.iload_n 3, 1) := by decide +kernel
theorem dX10_layRows_50 : decode cX10_layRows 50 = .ok (.invokevirtual 116, 3) := by decide +kernel
theorem dX10_layRows_53 : decode cX10_layRows 53 = .ok (.aload_n 0, 1) := by decide +kernel
theorem dX10_layRows_54 : decode cX10_layRows 54 = .ok (.iload_n 2, 1) := by decide +kernel
theorem dX10_layRows_55 : decode cX10_layRows 55 = .ok (.invokevirtual 116, 3) := by decide +kernel
theorem dX10_layRows_58 : decode cX10_layRows 58 = .ok (.isub, 1) := by decide +kernel
theorem dX10_layRows_59 : decode cX10_layRows 59 = .ok (.imul, 1) := by decide +kernel
theorem dX10_layRows_60 : decode cX10_layRows 60 = .ok (.i2l, 1) := by decide +kernel
theorem dX10_layRows_61 : decode cX10_layRows 61 = .ok (.lastore, 1) := by decide +kernel
theorem dX10_layRows_62 : decode cX10_layRows 62 = .ok (.aload_n 0, 1) := by decide +kernel
theorem dX10_layRows_63 : decode cX10_layRows 63 = .ok (.getfield 44, 3) := by decide +kernel
theorem dX10_layRows_66 : decode cX10_layRows 66 = .ok (.iload 4, 2) := by decide +kernel
theorem dX10_layRows_68 : decode cX10_layRows 68 = .ok (.iconst 1, 1) := by decide +kernel
theorem dX10_layRows_69 : decode cX10_layRows 69 = .ok (.iadd, 1) := by decide +kernel
theorem dX10_layRows_70 : decode cX10_layRows 70 = .ok (.iconst 2, 1) := by decide +kernel
theorem dX10_layRows_71 : decode cX10_layRows 71 = .ok (.aload_n 0, 1) := by decide +kernel
theorem dX10_layRows_72 : decode cX10_layRows 72 = .ok (.iload_n 3, 1) := by decide +kernel
theorem dX10_layRows_73 : decode cX10_layRows 73 = .ok (.invokevirtual 119, 3) := by decide +kernel
theorem dX10_layRows_76 : decode cX10_layRows 76 = .ok (.aload_n 0, 1) := by decide +kernel
theorem dX10_layRows_77 : decode cX10_layRows 77 = .ok (.iload_n 2, 1) := by decide +kernel
theorem dX10_layRows_78 : decode cX10_layRows 78 = .ok (.invokevirtual 119, 3) := by decide +kernel
theorem dX10_layRows_81 : decode cX10_layRows 81 = .ok (.isub, 1) := by decide +kernel
theorem dX10_layRows_82 : decode cX10_layRows 82 = .ok (.imul, 1) := by decide +kernel
theorem dX10_layRows_83 : decode cX10_layRows 83 = .ok (.i2l, 1) := by decide +kernel
theorem dX10_layRows_84 : decode cX10_layRows 84 = .ok (.lastore, 1) := by decide +kernel
theorem dX10_layRows_85 : decode cX10_layRows 85 = .ok (.aload_n 0, 1) := by decide +kernel
theorem dX10_layRows_86 : decode cX10_layRows 86 = .ok (.getfield 44, 3) := by decide +kernel
theorem dX10_layRows_89 : decode cX10_layRows 89 = .ok (.iload 4, 2) := by decide +kernel
theorem dX10_layRows_91 : decode cX10_layRows 91 = .ok (.iconst 2, 1) := by decide +kernel
theorem dX10_layRows_92 : decode cX10_layRows 92 = .ok (.iadd, 1) := by decide +kernel
theorem dX10_layRows_93 : decode cX10_layRows 93 = .ok (.bipush (-2), 2) := by decide +kernel
theorem dX10_layRows_95 : decode cX10_layRows 95 = .ok (.aload_n 0, 1) := by decide +kernel
theorem dX10_layRows_96 : decode cX10_layRows 96 = .ok (.iload_n 3, 1) := by decide +kernel
theorem dX10_layRows_97 : decode cX10_layRows 97 = .ok (.invokevirtual 110, 3) := by decide +kernel
theorem dX10_layRows_100 : decode cX10_layRows 100 = .ok (.aload_n 0, 1) := by decide +kernel
theorem dX10_layRows_101 : decode cX10_layRows 101 = .ok (.iload_n 2, 1) := by decide +kernel
theorem dX10_layRows_102 : decode cX10_layRows 102 = .ok (.invokevirtual 110, 3) := by decide +kernel
theorem dX10_layRows_105 : decode cX10_layRows 105 = .ok (.isub, 1) := by decide +kernel
theorem dX10_layRows_106 : decode cX10_layRows 106 = .ok (.imul, 1) := by decide +kernel
theorem dX10_layRows_107 : decode cX10_layRows 107 = .ok (.i2l, 1) := by decide +kernel
theorem dX10_layRows_108 : decode cX10_layRows 108 = .ok (.lastore, 1) := by decide +kernel
theorem dX10_layRows_109 : decode cX10_layRows 109 = .ok (.aload_n 0, 1) := by decide +kernel
theorem dX10_layRows_110 : decode cX10_layRows 110 = .ok (.getfield 44, 3) := by decide +kernel
theorem dX10_layRows_113 : decode cX10_layRows 113 = .ok (.iload 4, 2) := by decide +kernel
theorem dX10_layRows_115 : decode cX10_layRows 115 = .ok (.iconst 3, 1) := by decide +kernel
theorem dX10_layRows_116 : decode cX10_layRows 116 = .ok (.iadd, 1) := by decide +kernel
theorem dX10_layRows_117 : decode cX10_layRows 117 = .ok (.aload_n 0, 1) := by decide +kernel
theorem dX10_layRows_118 : decode cX10_layRows 118 = .ok (.iload_n 3, 1) := by decide +kernel
theorem dX10_layRows_119 : decode cX10_layRows 119 = .ok (.invokevirtual 116, 3) := by decide +kernel
theorem dX10_layRows_122 : decode cX10_layRows 122 = .ok (.invokestatic 113, 3) := by decide +kernel
theorem dX10_layRows_125 : decode cX10_layRows 125 = .ok (.aload_n 0, 1) := by decide +kernel
theorem dX10_layRows_126 : decode cX10_layRows 126 = .ok (.iload_n 3, 1) := by decide +kernel
theorem dX10_layRows_127 : decode cX10_layRows 127 = .ok (.invokevirtual 119, 3) := by decide +kernel
theorem dX10_layRows_130 : decode cX10_layRows 130 = .ok (.invokestatic 113, 3) := by decide +kernel
theorem dX10_layRows_133 : decode cX10_layRows 133 = .ok (.iadd, 1) := by decide +kernel
theorem dX10_layRows_134 : decode cX10_layRows 134 = .ok (.aload_n 0, 1) := by decide +kernel
theorem dX10_layRows_135 : decode cX10_layRows 135 = .ok (.iload_n 3, 1) := by decide +kernel
theorem dX10_layRows_136 : decode cX10_layRows 136 = .ok (.invokevirtual 110, 3) := by decide +kernel
theorem dX10_layRows_139 : decode cX10_layRows 139 = .ok (.invokestatic 113, 3) := by decide +kernel
theorem dX10_layRows_142 : decode cX10_layRows 142 = .ok (.isub, 1) := by decide +kernel
theorem dX10_layRows_143 : decode cX10_layRows 143 = .ok (.aload_n 0, 1) := by decide +kernel
theorem dX10_layRows_144 : decode cX10_layRows 144 = .ok (.iload_n 2, 1) := by decide +kernel
theorem dX10_layRows_145 : decode cX10_layRows 145 = .ok (.invokevirtual 116, 3) := by decide +kernel
theorem dX10_layRows_148 : decode cX10_layRows 148 = .ok (.invokestatic 113, 3) := by decide +kernel
theorem dX10_layRows_151 : decode cX10_layRows 151 = .ok (.isub, 1) := by decide +kernel
theorem dX10_layRows_152 : decode cX10_layRows 152 = .ok (.aload_n 0, 1) := by decide +kernel
theorem dX10_layRows_153 : decode cX10_layRows 153 = .ok (.iload_n 2, 1) := by decide +kernel
theorem dX10_layRows_154 : decode cX10_layRows 154 = .ok (.invokevirtual 119, 3) := by decide +kernel
theorem dX10_layRows_157 : decode cX10_layRows 157 = .ok (.invokestatic 113, 3) := by decide +kernel
theorem dX10_layRows_160 : decode cX10_layRows 160 = .ok (.isub, 1) := by decide +kernel
theorem dX10_layRows_161 : decode cX10_layRows 161 = .ok (.aload_n 0, 1) := by decide +kernel
theorem dX10_layRows_162 : decode cX10_layRows 162 = .ok (.iload_n 2, 1) := by decide +kernel
theorem dX10_layRows_163 : decode cX10_layRows 163 = .ok (.invokevirtual 110, 3) := by decide +kernel
theorem dX10_layRows_166 : decode cX10_layRows 166 = .ok (.invokestatic 113, 3) := by decide +kernel
theorem dX10_layRows_169 : decode cX10_layRows 169 = .ok (.iadd, 1) := by decide +kernel
theorem dX10_layRows_170 : decode cX10_layRows 170 = .ok (.i2l, 1) := by decide +kernel
theorem dX10_layRows_171 : decode cX10_layRows 171 = .ok (.lastore, 1) := by decide +kernel
theorem dX10_layRows_172 : decode cX10_layRows 172 = .ok (.aload_n 0, 1) := by decide +kernel
theorem dX10_layRows_173 : decode cX10_layRows 173 = .ok (.dup, 1) := by decide +kernel
theorem dX10_layRows_174 : decode cX10_layRows 174 = .ok (.getfield 154, 3) := by decide +kernel
theorem dX10_layRows_177 : decode cX10_layRows 177 = .ok (.iconst 1, 1) := by decide +kernel
theorem dX10_layRows_178 : decode cX10_layRows 178 = .ok (.iadd, 1) := by decide +kernel
theorem dX10_layRows_179 : decode cX10_layRows 179 = .ok (.putfield 154, 3) := by decide +kernel
theorem dX10_layRows_182 : decode cX10_layRows 182 = .ok (.iinc 3 1, 3) := by decide +kernel
theorem dX10_layRows_185 : decode cX10_layRows 185 = .ok (.goto (-170), 3) := by decide +kernel
theorem dX10_layRows_188 : decode cX10_layRows 188 = .ok (.return_, 1) := by decide +kernel
theorem dX10_three_0 : decode cX10_three 0 = .ok (.aload_n 0, 1) := by decide +kernel
theorem dX10_three_1 : decode cX10_three 1 = .ok (.iload_n 1, 1) := by decide +kernel
theorem dX10_three_2 : decode cX10_three 2 = .ok (.iload 4, 2) := by decide +kernel
theorem dX10_three_4 : decode cX10_three 4 = .ok (.invokevirtual 160, 3) := by decide +kernel
theorem dX10_three_7 : decode cX10_three 7 = .ok (.aload_n 0, 1) := by decide +kernel
theorem dX10_three_8 : decode cX10_three 8 = .ok (.iload_n 2, 1) := by decide +kernel
theorem dX10_three_9 : decode cX10_three 9 = .ok (.iload 5, 2) := by decide +kernel
theorem dX10_three_11 : decode cX10_three 11 = .ok (.invokevirtual 160, 3) := by decide +kernel
theorem dX10_three_14 : decode cX10_three 14 = .ok (.aload_n 0, 1) := by decide +kernel
theorem dX10_three_15 : decode cX10_three 15 = .ok (.iload_n 3, 1) := by decide +kernel
theorem dX10_three_16 : decode cX10_three 16 = .ok (.iload 6, 2) := by decide +kernel
theorem dX10_three_18 : decode cX10_three 18 = .ok (.invokevirtual 160, 3) := by decide +kernel
theorem dX10_three_21 : decode cX10_three 21 = .ok (.lmul, 1) := by decide +kernel
theorem dX10_three_22 : decode cX10_three 22 = .ok (.aload_n 0, 1) := by decide +kernel
theorem dX10_three_23 : decode cX10_three 23 = .ok (.iload_n 2, 1) := by decide +kernel
theorem dX10_three_24 : decode cX10_three 24 = .ok (.iload 6, 2) := by decide +kernel
theorem dX10_three_26 : decode cX10_three 26 = .ok (.invokevirtual 160, 3) := by decide +kernel
theorem dX10_three_29 : decode cX10_three 29 = .ok (.aload_n 0, 1) := by decide +kernel
theorem dX10_three_30 : decode cX10_three 30 = .ok (.iload_n 3, 1) := by decide +kernel
theorem dX10_three_31 : decode cX10_three 31 = .ok (.iload 5, 2) := by decide +kernel
theorem dX10_three_33 : decode cX10_three 33 = .ok (.invokevirtual 160, 3) := by decide +kernel
theorem dX10_three_36 : decode cX10_three 36 = .ok (.lmul, 1) := by decide +kernel
theorem dX10_three_37 : decode cX10_three 37 = .ok (.lsub, 1) := by decide +kernel
theorem dX10_three_38 : decode cX10_three 38 = .ok (.lmul, 1) := by decide +kernel
theorem dX10_three_39 : decode cX10_three 39 = .ok (.aload_n 0, 1) := by decide +kernel
theorem dX10_three_40 : decode cX10_three 40 = .ok (.iload_n 1, 1) := by decide +kernel
theorem dX10_three_41 : decode cX10_three 41 = .ok (.iload 5, 2) := by decide +kernel
theorem dX10_three_43 : decode cX10_three 43 = .ok (.invokevirtual 160, 3) := by decide +kernel
theorem dX10_three_46 : decode cX10_three 46 = .ok (.aload_n 0, 1) := by decide +kernel
theorem dX10_three_47 : decode cX10_three 47 = .ok (.iload_n 2, 1) := by decide +kernel
theorem dX10_three_48 : decode cX10_three 48 = .ok (.iload 4, 2) := by decide +kernel
theorem dX10_three_50 : decode cX10_three 50 = .ok (.invokevirtual 160, 3) := by decide +kernel
theorem dX10_three_53 : decode cX10_three 53 = .ok (.aload_n 0, 1) := by decide +kernel
theorem dX10_three_54 : decode cX10_three 54 = .ok (.iload_n 3, 1) := by decide +kernel
theorem dX10_three_55 : decode cX10_three 55 = .ok (.iload 6, 2) := by decide +kernel
theorem dX10_three_57 : decode cX10_three 57 = .ok (.invokevirtual 160, 3) := by decide +kernel
theorem dX10_three_60 : decode cX10_three 60 = .ok (.lmul, 1) := by decide +kernel
theorem dX10_three_61 : decode cX10_three 61 = .ok (.aload_n 0, 1) := by decide +kernel
theorem dX10_three_62 : decode cX10_three 62 = .ok (.iload_n 2, 1) := by decide +kernel
theorem dX10_three_63 : decode cX10_three 63 = .ok (.iload 6, 2) := by decide +kernel
theorem dX10_three_65 : decode cX10_three 65 = .ok (.invokevirtual 160, 3) := by decide +kernel
theorem dX10_three_68 : decode cX10_three 68 = .ok (.aload_n 0, 1) := by decide +kernel
theorem dX10_three_69 : decode cX10_three 69 = .ok (.iload_n 3, 1) := by decide +kernel
theorem dX10_three_70 : decode cX10_three 70 = .ok (.iload 4, 2) := by decide +kernel
theorem dX10_three_72 : decode cX10_three 72 = .ok (.invokevirtual 160, 3) := by decide +kernel
theorem dX10_three_75 : decode cX10_three 75 = .ok (.lmul, 1) := by decide +kernel
theorem dX10_three_76 : decode cX10_three 76 = .ok (.lsub, 1) := by decide +kernel
theorem dX10_three_77 : decode cX10_three 77 = .ok (.lmul, 1) := by decide +kernel
theorem dX10_three_78 : decode cX10_three 78 = .ok (.lsub, 1) := by decide +kernel
theorem dX10_three_79 : decode cX10_three 79 = .ok (.aload_n 0, 1) := by decide +kernel
theorem dX10_three_80 : decode cX10_three 80 = .ok (.iload_n 1, 1) := by decide +kernel
theorem dX10_three_81 : decode cX10_three 81 = .ok (.iload 6, 2) := by decide +kernel
theorem dX10_three_83 : decode cX10_three 83 = .ok (.invokevirtual 160, 3) := by decide +kernel
theorem dX10_three_86 : decode cX10_three 86 = .ok (.aload_n 0, 1) := by decide +kernel
theorem dX10_three_87 : decode cX10_three 87 = .ok (.iload_n 2, 1) := by decide +kernel
theorem dX10_three_88 : decode cX10_three 88 = .ok (.iload 4, 2) := by decide +kernel
theorem dX10_three_90 : decode cX10_three 90 = .ok (.invokevirtual 160, 3) := by decide +kernel
theorem dX10_three_93 : decode cX10_three 93 = .ok (.aload_n 0, 1) := by decide +kernel
theorem dX10_three_94 : decode cX10_three 94 = .ok (.iload_n 3, 1) := by decide +kernel
theorem dX10_three_95 : decode cX10_three 95 = .ok (.iload 5, 2) := by decide +kernel
theorem dX10_three_97 : decode cX10_three 97 = .ok (.invokevirtual 160, 3) := by decide +kernel
theorem dX10_three_100 : decode cX10_three 100 = .ok (.lmul, 1) := by decide +kernel
theorem dX10_three_101 : decode cX10_three 101 = .ok (.aload_n 0, 1) := by decide +kernel
theorem dX10_three_102 : decode cX10_three 102 = .ok (.iload_n 2, 1) := by decide +kernel
theorem dX10_three_103 : decode cX10_three 103 = .ok (.iload 5, 2) := by decide +kernel
theorem dX10_three_105 : decode cX10_three 105 = .ok (.invokevirtual 160, 3) := by decide +kernel
theorem dX10_three_108 : decode cX10_three 108 = .ok (.aload_n 0, 1) := by decide +kernel
theorem dX10_three_109 : decode cX10_three 109 = .ok (.iload_n 3, 1) := by decide +kernel
theorem dX10_three_110 : decode cX10_three 110 = .ok (.iload 4, 2) := by decide +kernel
theorem dX10_three_112 : decode cX10_three 112 = .ok (.invokevirtual 160, 3) := by decide +kernel
theorem dX10_three_115 : decode cX10_three 115 = .ok (.lmul, 1) := by decide +kernel
theorem dX10_three_116 : decode cX10_three 116 = .ok (.lsub, 1) := by decide +kernel
theorem dX10_three_117 : decode cX10_three 117 = .ok (.lmul, 1) := by decide +kernel
theorem dX10_three_118 : decode cX10_three 118 = .ok (.ladd, 1) := by decide +kernel
theorem dX10_three_119 : decode cX10_three 119 = .ok (.lreturn, 1) := by decide +kernel
theorem dX10_two_0 : decode cX10_two 0 = .ok (.aload_n 0, 1) := by decide +kernel
theorem dX10_two_1 : decode cX10_two 1 = .ok (.iload_n 1, 1) := by decide +kernel
theorem dX10_two_2 : decode cX10_two 2 = .ok (.iload_n 3, 1) := by decide +kernel
theorem dX10_two_3 : decode cX10_two 3 = .ok (.invokevirtual 160, 3) := by decide +kernel
theorem dX10_two_6 : decode cX10_two 6 = .ok (.aload_n 0, 1) := by decide +kernel
theorem dX10_two_7 : decode cX10_two 7 = .ok (.iload_n 2, 1) := by decide +kernel
theorem dX10_two_8 : decode cX10_two 8 = .ok (.iload 4, 2) := by decide +kernel
theorem dX10_two_10 : decode cX10_two 10 = .ok (.invokevirtual 160, 3) := by decide +kernel
theorem dX10_two_13 : decode cX10_two 13 = .ok (.lmul, 1) := by decide +kernel
theorem dX10_two_14 : decode cX10_two 14 = .ok (.aload_n 0, 1) := by decide +kernel
theorem dX10_two_15 : decode cX10_two 15 = .ok (.iload_n 1, 1) := by decide +kernel
theorem dX10_two_16 : decode cX10_two 16 = .ok (.iload 4, 2) := by decide +kernel
theorem dX10_two_18 : decode cX10_two 18 = .ok (.invokevirtual 160, 3) := by decide +kernel
theorem dX10_two_21 : decode cX10_two 21 = .ok (.aload_n 0, 1) := by decide +kernel
theorem dX10_two_22 : decode cX10_two 22 = .ok (.iload_n 2, 1) := by decide +kernel
theorem dX10_two_23 : decode cX10_two 23 = .ok (.iload_n 3, 1) := by decide +kernel
theorem dX10_two_24 : decode cX10_two 24 = .ok (.invokevirtual 160, 3) := by decide +kernel
theorem dX10_two_27 : decode cX10_two 27 = .ok (.lmul, 1) := by decide +kernel
theorem dX10_two_28 : decode cX10_two 28 = .ok (.lsub, 1) := by decide +kernel
theorem dX10_two_29 : decode cX10_two 29 = .ok (.lreturn, 1) := by decide +kernel
theorem dX10_rankOf_0 : decode cX10_rankOf 0 = .ok (.aload_n 0, 1) := by decide +kernel
theorem dX10_rankOf_1 : decode cX10_rankOf 1 = .ok (.iload_n 1, 1) := by decide +kernel
theorem dX10_rankOf_2 : decode cX10_rankOf 2 = .ok (.invokevirtual 164, 3) := by decide +kernel
theorem dX10_rankOf_5 : decode cX10_rankOf 5 = .ok (.iconst 0, 1) := by decide +kernel
theorem dX10_rankOf_6 : decode cX10_rankOf 6 = .ok (.istore_n 2, 1) := by decide +kernel
end
section
theorem dX10_rankOf_7 : decode cX10_rankOf 7 = .ok (.iconst 0, 1) := by decide +kernel
theorem dX10_rankOf_8 : decode cX10_rankOf 8 = .ok (.istore_n 3, 1) := by decide +kernel
theorem dX10_rankOf_9 : decode cX10_rankOf 9 = .ok (.iload_n 3, 1) := by decide +kernel
theorem dX10_rankOf_10 : decode cX10_rankOf 10 = .ok (.aload_n 0, 1) := by decide +kernel
theorem dX10_rankOf_11 : decode cX10_rankOf 11 = .ok (.getfield 154, 3) := by decide +kernel
theorem dX10_rankOf_14 : decode cX10_rankOf 14 = .ok (.if_icmp .ge 168, 3) := by decide +kernel
theorem dX10_rankOf_17 : decode cX10_rankOf 17 = .ok (.iconst 0, 1) := by decide +kernel
theorem dX10_rankOf_18 : decode cX10_rankOf 18 = .ok (.istore 4, 2) := by decide +kernel
theorem dX10_rankOf_20 : decode cX10_rankOf 20 = .ok (.iload 4, 2) := by decide +kernel
theorem dX10_rankOf_22 : decode cX10_rankOf 22 = .ok (.iconst 3, 1) := by decide +kernel
theorem dX10_rankOf_23 : decode cX10_rankOf 23 = .ok (.if_icmp .ge 153, 3) := by decide +kernel
theorem dX10_rankOf_26 : decode cX10_rankOf 26 = .ok (.iload_n 2, 1) := by decide +kernel
theorem dX10_rankOf_27 : decode cX10_rankOf 27 = .ok (.iconst 1, 1) := by decide +kernel
theorem dX10_rankOf_28 : decode cX10_rankOf 28 = .ok (.if_icmp .ge 19, 3) := by decide +kernel
theorem dX10_rankOf_31 : decode cX10_rankOf 31 = .ok (.aload_n 0, 1) := by decide +kernel
theorem dX10_rankOf_32 : decode cX10_rankOf 32 = .ok (.iload_n 3, 1) := by decide +kernel
theorem dX10_rankOf_33 : decode cX10_rankOf 33 = .ok (.iload 4, 2) := by decide +kernel
theorem dX10_rankOf_35 : decode cX10_rankOf 35 = .ok (.invokevirtual 160, 3) := by decide +kernel
theorem dX10_rankOf_38 : decode cX10_rankOf 38 = .ok (.lconst 0, 1) := by decide +kernel
theorem dX10_rankOf_39 : decode cX10_rankOf 39 = .ok (.lcmp, 1) := by decide +kernel
theorem dX10_rankOf_40 : decode cX10_rankOf 40 = .ok (.ifCond .eq 7, 3) := by decide +kernel
theorem dX10_rankOf_43 : decode cX10_rankOf 43 = .ok (.iconst 1, 1) := by decide +kernel
theorem dX10_rankOf_44 : decode cX10_rankOf 44 = .ok (.goto 4, 3) := by decide +kernel
theorem dX10_rankOf_47 : decode cX10_rankOf 47 = .ok (.iload_n 2, 1) := by decide +kernel
theorem dX10_rankOf_48 : decode cX10_rankOf 48 = .ok (.istore_n 2, 1) := by decide +kernel
theorem dX10_rankOf_49 : decode cX10_rankOf 49 = .ok (.iconst 0, 1) := by decide +kernel
theorem dX10_rankOf_50 : decode cX10_rankOf 50 = .ok (.istore 5, 2) := by decide +kernel
theorem dX10_rankOf_52 : decode cX10_rankOf 52 = .ok (.iload 5, 2) := by decide +kernel
theorem dX10_rankOf_54 : decode cX10_rankOf 54 = .ok (.iload_n 3, 1) := by decide +kernel
theorem dX10_rankOf_55 : decode cX10_rankOf 55 = .ok (.if_icmp .ge 115, 3) := by decide +kernel
theorem dX10_rankOf_58 : decode cX10_rankOf 58 = .ok (.iconst 0, 1) := by decide +kernel
theorem dX10_rankOf_59 : decode cX10_rankOf 59 = .ok (.istore 6, 2) := by decide +kernel
theorem dX10_rankOf_61 : decode cX10_rankOf 61 = .ok (.iload 6, 2) := by decide +kernel
theorem dX10_rankOf_63 : decode cX10_rankOf 63 = .ok (.iload 4, 2) := by decide +kernel
theorem dX10_rankOf_65 : decode cX10_rankOf 65 = .ok (.if_icmp .ge 99, 3) := by decide +kernel
theorem dX10_rankOf_68 : decode cX10_rankOf 68 = .ok (.iload_n 2, 1) := by decide +kernel
theorem dX10_rankOf_69 : decode cX10_rankOf 69 = .ok (.iconst 2, 1) := by decide +kernel
theorem dX10_rankOf_70 : decode cX10_rankOf 70 = .ok (.if_icmp .ge 23, 3) := by decide +kernel
theorem dX10_rankOf_73 : decode cX10_rankOf 73 = .ok (.aload_n 0, 1) := by decide +kernel
theorem dX10_rankOf_74 : decode cX10_rankOf 74 = .ok (.iload_n 3, 1) := by decide +kernel
theorem dX10_rankOf_75 : decode cX10_rankOf 75 = .ok (.iload 5, 2) := by decide +kernel
theorem dX10_rankOf_77 : decode cX10_rankOf 77 = .ok (.iload 4, 2) := by decide +kernel
theorem dX10_rankOf_79 : decode cX10_rankOf 79 = .ok (.iload 6, 2) := by decide +kernel
theorem dX10_rankOf_81 : decode cX10_rankOf 81 = .ok (.invokevirtual 168, 3) := by decide +kernel
theorem dX10_rankOf_84 : decode cX10_rankOf 84 = .ok (.lconst 0, 1) := by decide +kernel
theorem dX10_rankOf_85 : decode cX10_rankOf 85 = .ok (.lcmp, 1) := by decide +kernel
theorem dX10_rankOf_86 : decode cX10_rankOf 86 = .ok (.ifCond .eq 7, 3) := by decide +kernel
theorem dX10_rankOf_89 : decode cX10_rankOf 89 = .ok (.iconst 2, 1) := by decide +kernel
theorem dX10_rankOf_90 : decode cX10_rankOf 90 = .ok (.goto 4, 3) := by decide +kernel
theorem dX10_rankOf_93 : decode cX10_rankOf 93 = .ok (.iload_n 2, 1) := by decide +kernel
theorem dX10_rankOf_94 : decode cX10_rankOf 94 = .ok (.istore_n 2, 1) := by decide +kernel
theorem dX10_rankOf_95 : decode cX10_rankOf 95 = .ok (.iconst 0, 1) := by decide +kernel
theorem dX10_rankOf_96 : decode cX10_rankOf 96 = .ok (.istore 7, 2) := by decide +kernel
theorem dX10_rankOf_98 : decode cX10_rankOf 98 = .ok (.iload 7, 2) := by decide +kernel
theorem dX10_rankOf_100 : decode cX10_rankOf 100 = .ok (.iload 5, 2) := by decide +kernel
theorem dX10_rankOf_102 : decode cX10_rankOf 102 = .ok (.if_icmp .ge 56, 3) := by decide +kernel
theorem dX10_rankOf_105 : decode cX10_rankOf 105 = .ok (.iload_n 2, 1) := by decide +kernel
theorem dX10_rankOf_106 : decode cX10_rankOf 106 = .ok (.iconst 3, 1) := by decide +kernel
theorem dX10_rankOf_107 : decode cX10_rankOf 107 = .ok (.if_icmp .ge 51, 3) := by decide +kernel
theorem dX10_rankOf_110 : decode cX10_rankOf 110 = .ok (.iconst 0, 1) := by decide +kernel
theorem dX10_rankOf_111 : decode cX10_rankOf 111 = .ok (.istore 8, 2) := by decide +kernel
theorem dX10_rankOf_113 : decode cX10_rankOf 113 = .ok (.iload 8, 2) := by decide +kernel
theorem dX10_rankOf_115 : decode cX10_rankOf 115 = .ok (.iload 6, 2) := by decide +kernel
theorem dX10_rankOf_117 : decode cX10_rankOf 117 = .ok (.if_icmp .ge 35, 3) := by decide +kernel
theorem dX10_rankOf_120 : decode cX10_rankOf 120 = .ok (.aload_n 0, 1) := by decide +kernel
theorem dX10_rankOf_121 : decode cX10_rankOf 121 = .ok (.iload_n 3, 1) := by decide +kernel
theorem dX10_rankOf_122 : decode cX10_rankOf 122 = .ok (.iload 5, 2) := by decide +kernel
theorem dX10_rankOf_124 : decode cX10_rankOf 124 = .ok (.iload 7, 2) := by decide +kernel
theorem dX10_rankOf_126 : decode cX10_rankOf 126 = .ok (.iload 4, 2) := by decide +kernel
theorem dX10_rankOf_128 : decode cX10_rankOf 128 = .ok (.iload 6, 2) := by decide +kernel
theorem dX10_rankOf_130 : decode cX10_rankOf 130 = .ok (.iload 8, 2) := by decide +kernel
theorem dX10_rankOf_132 : decode cX10_rankOf 132 = .ok (.invokevirtual 172, 3) := by decide +kernel
theorem dX10_rankOf_135 : decode cX10_rankOf 135 = .ok (.lconst 0, 1) := by decide +kernel
theorem dX10_rankOf_136 : decode cX10_rankOf 136 = .ok (.lcmp, 1) := by decide +kernel
theorem dX10_rankOf_137 : decode cX10_rankOf 137 = .ok (.ifCond .eq 7, 3) := by decide +kernel
theorem dX10_rankOf_140 : decode cX10_rankOf 140 = .ok (.iconst 3, 1) := by decide +kernel
theorem dX10_rankOf_141 : decode cX10_rankOf 141 = .ok (.goto 4, 3) := by decide +kernel
theorem dX10_rankOf_144 : decode cX10_rankOf 144 = .ok (.iload_n 2, 1) := by decide +kernel
theorem dX10_rankOf_145 : decode cX10_rankOf 145 = .ok (.istore_n 2, 1) := by decide +kernel
theorem dX10_rankOf_146 : decode cX10_rankOf 146 = .ok (.iinc 8 1, 3) := by decide +kernel
theorem dX10_rankOf_149 : decode cX10_rankOf 149 = .ok (.goto (-36), 3) := by decide +kernel
theorem dX10_rankOf_152 : decode cX10_rankOf 152 = .ok (.iinc 7 1, 3) := by decide +kernel
theorem dX10_rankOf_155 : decode cX10_rankOf 155 = .ok (.goto (-57), 3) := by decide +kernel
theorem dX10_rankOf_158 : decode cX10_rankOf 158 = .ok (.iinc 6 1, 3) := by decide +kernel
theorem dX10_rankOf_161 : decode cX10_rankOf 161 = .ok (.goto (-100), 3) := by decide +kernel
theorem dX10_rankOf_164 : decode cX10_rankOf 164 = .ok (.iinc 5 1, 3) := by decide +kernel
theorem dX10_rankOf_167 : decode cX10_rankOf 167 = .ok (.goto (-115), 3) := by decide +kernel
theorem dX10_rankOf_170 : decode cX10_rankOf 170 = .ok (.iinc 4 1, 3) := by decide +kernel
theorem dX10_rankOf_173 : decode cX10_rankOf 173 = .ok (.goto (-153), 3) := by decide +kernel
theorem dX10_rankOf_176 : decode cX10_rankOf 176 = .ok (.iinc 3 1, 3) := by decide +kernel
theorem dX10_rankOf_179 : decode cX10_rankOf 179 = .ok (.goto (-170), 3) := by decide +kernel
theorem dX10_rankOf_182 : decode cX10_rankOf 182 = .ok (.iload_n 2, 1) := by decide +kernel
theorem dX10_rankOf_183 : decode cX10_rankOf 183 = .ok (.ireturn, 1) := by decide +kernel
theorem dX10_solves_0 : decode cX10_solves 0 = .ok (.iconst 0, 1) := by decide +kernel
theorem dX10_solves_1 : decode cX10_solves 1 = .ok (.istore_n 1, 1) := by decide +kernel
theorem dX10_solves_2 : decode cX10_solves 2 = .ok (.iload_n 1, 1) := by decide +kernel
theorem dX10_solves_3 : decode cX10_solves 3 = .ok (.aload_n 0, 1) := by decide +kernel
theorem dX10_solves_4 : decode cX10_solves 4 = .ok (.getfield 154, 3) := by decide +kernel
theorem dX10_solves_7 : decode cX10_solves 7 = .ok (.if_icmp .ge 131, 3) := by decide +kernel
theorem dX10_solves_10 : decode cX10_solves 10 = .ok (.iconst 0, 1) := by decide +kernel
theorem dX10_solves_11 : decode cX10_solves 11 = .ok (.istore_n 2, 1) := by decide +kernel
theorem dX10_solves_12 : decode cX10_solves 12 = .ok (.iload_n 2, 1) := by decide +kernel
theorem dX10_solves_13 : decode cX10_solves 13 = .ok (.iload_n 1, 1) := by decide +kernel
theorem dX10_solves_14 : decode cX10_solves 14 = .ok (.if_icmp .ge 118, 3) := by decide +kernel
theorem dX10_solves_17 : decode cX10_solves 17 = .ok (.iconst 0, 1) := by decide +kernel
theorem dX10_solves_18 : decode cX10_solves 18 = .ok (.istore_n 3, 1) := by decide +kernel
theorem dX10_solves_19 : decode cX10_solves 19 = .ok (.iload_n 3, 1) := by decide +kernel
theorem dX10_solves_20 : decode cX10_solves 20 = .ok (.iload_n 2, 1) := by decide +kernel
theorem dX10_solves_21 : decode cX10_solves 21 = .ok (.if_icmp .ge 105, 3) := by decide +kernel
theorem dX10_solves_24 : decode cX10_solves 24 = .ok (.aload_n 0, 1) := by decide +kernel
theorem dX10_solves_25 : decode cX10_solves 25 = .ok (.iload_n 1, 1) := by decide +kernel
theorem dX10_solves_26 : decode cX10_solves 26 = .ok (.iload_n 2, 1) := by decide +kernel
theorem dX10_solves_27 : decode cX10_solves 27 = .ok (.iload_n 3, 1) := by decide +kernel
theorem dX10_solves_28 : decode cX10_solves 28 = .ok (.iconst 0, 1) := by decide +kernel
theorem dX10_solves_29 : decode cX10_solves 29 = .ok (.iconst 1, 1) := by decide +kernel
theorem dX10_solves_30 : decode cX10_solves 30 = .ok (.iconst 2, 1) := by decide +kernel
theorem dX10_solves_31 : decode cX10_solves 31 = .ok (.invokevirtual 172, 3) := by decide +kernel
theorem dX10_solves_34 : decode cX10_solves 34 = .ok (.lstore 4, 2) := by decide +kernel
theorem dX10_solves_36 : decode cX10_solves 36 = .ok (.lload 4, 2) := by decide +kernel
theorem dX10_solves_38 : decode cX10_solves 38 = .ok (.lconst 0, 1) := by decide +kernel
theorem dX10_solves_39 : decode cX10_solves 39 = .ok (.lcmp, 1) := by decide +kernel
theorem dX10_solves_40 : decode cX10_solves 40 = .ok (.ifCond .eq 80, 3) := by decide +kernel
theorem dX10_solves_43 : decode cX10_solves 43 = .ok (.lload 4, 2) := by decide +kernel
theorem dX10_solves_45 : decode cX10_solves 45 = .ok (.lconst 0, 1) := by decide +kernel
theorem dX10_solves_46 : decode cX10_solves 46 = .ok (.lcmp, 1) := by decide +kernel
theorem dX10_solves_47 : decode cX10_solves 47 = .ok (.ifCond .ge 9, 3) := by decide +kernel
theorem dX10_solves_50 : decode cX10_solves 50 = .ok (.ldc2_w 176, 3) := by decide +kernel
theorem dX10_solves_53 : decode cX10_solves 53 = .ok (.goto 4, 3) := by decide +kernel
theorem dX10_solves_56 : decode cX10_solves 56 = .ok (.lconst 1, 1) := by decide +kernel
theorem dX10_solves_57 : decode cX10_solves 57 = .ok (.lstore 6, 2) := by decide +kernel
theorem dX10_solves_59 : decode cX10_solves 59 = .ok (.aload_n 0, 1) := by decide +kernel
theorem dX10_solves_60 : decode cX10_solves 60 = .ok (.lload 6, 2) := by decide +kernel
theorem dX10_solves_62 : decode cX10_solves 62 = .ok (.lload 4, 2) := by decide +kernel
theorem dX10_solves_64 : decode cX10_solves 64 = .ok (.lmul, 1) := by decide +kernel
theorem dX10_solves_65 : decode cX10_solves 65 = .ok (.putfield 178, 3) := by decide +kernel
theorem dX10_solves_68 : decode cX10_solves 68 = .ok (.aload_n 0, 1) := by decide +kernel
theorem dX10_solves_69 : decode cX10_solves 69 = .ok (.lload 6, 2) := by decide +kernel
theorem dX10_solves_71 : decode cX10_solves 71 = .ok (.aload_n 0, 1) := by decide +kernel
theorem dX10_solves_72 : decode cX10_solves 72 = .ok (.iload_n 1, 1) := by decide +kernel
theorem dX10_solves_73 : decode cX10_solves 73 = .ok (.iload_n 2, 1) := by decide +kernel
theorem dX10_solves_74 : decode cX10_solves 74 = .ok (.iload_n 3, 1) := by decide +kernel
theorem dX10_solves_75 : decode cX10_solves 75 = .ok (.iconst 3, 1) := by decide +kernel
theorem dX10_solves_76 : decode cX10_solves 76 = .ok (.iconst 1, 1) := by decide +kernel
theorem dX10_solves_77 : decode cX10_solves 77 = .ok (.iconst 2, 1) := by decide +kernel
theorem dX10_solves_78 : decode cX10_solves 78 = .ok (.invokevirtual 172, 3) := by decide +kernel
theorem dX10_solves_81 : decode cX10_solves 81 = .ok (.lmul, 1) := by decide +kernel
theorem dX10_solves_82 : decode cX10_solves 82 = .ok (.putfield 182, 3) := by decide +kernel
theorem dX10_solves_85 : decode cX10_solves 85 = .ok (.aload_n 0, 1) := by decide +kernel
theorem dX10_solves_86 : decode cX10_solves 86 = .ok (.lload 6, 2) := by decide +kernel
theorem dX10_solves_88 : decode cX10_solves 88 = .ok (.aload_n 0, 1) := by decide +kernel
theorem dX10_solves_89 : decode cX10_solves 89 = .ok (.iload_n 1, 1) := by decide +kernel
theorem dX10_solves_90 : decode cX10_solves 90 = .ok (.iload_n 2, 1) := by decide +kernel
theorem dX10_solves_91 : decode cX10_solves 91 = .ok (.iload_n 3, 1) := by decide +kernel
theorem dX10_solves_92 : decode cX10_solves 92 = .ok (.iconst 0, 1) := by decide +kernel
theorem dX10_solves_93 : decode cX10_solves 93 = .ok (.iconst 3, 1) := by decide +kernel
theorem dX10_solves_94 : decode cX10_solves 94 = .ok (.iconst 2, 1) := by decide +kernel
theorem dX10_solves_95 : decode cX10_solves 95 = .ok (.invokevirtual 172, 3) := by decide +kernel
theorem dX10_solves_98 : decode cX10_solves 98 = .ok (.lmul, 1) := by decide +kernel
theorem dX10_solves_99 : decode cX10_solves 99 = .ok (.putfield 185, 3) := by decide +kernel
theorem dX10_solves_102 : decode cX10_solves 102 = .ok (.aload_n 0, 1) := by decide +kernel
theorem dX10_solves_103 : decode cX10_solves 103 = .ok (.lload 6, 2) := by decide +kernel
theorem dX10_solves_105 : decode cX10_solves 105 = .ok (.aload_n 0, 1) := by decide +kernel
theorem dX10_solves_106 : decode cX10_solves 106 = .ok (.iload_n 1, 1) := by decide +kernel
theorem dX10_solves_107 : decode cX10_solves 107 = .ok (.iload_n 2, 1) := by decide +kernel
theorem dX10_solves_108 : decode cX10_solves 108 = .ok (.iload_n 3, 1) := by decide +kernel
theorem dX10_solves_109 : decode cX10_solves 109 = .ok (.iconst 0, 1) := by decide +kernel
theorem dX10_solves_110 : decode cX10_solves 110 = .ok (.iconst 1, 1) := by decide +kernel
theorem dX10_solves_111 : decode cX10_solves 111 = .ok (.iconst 3, 1) := by decide +kernel
theorem dX10_solves_112 : decode cX10_solves 112 = .ok (.invokevirtual 172, 3) := by decide +kernel
theorem dX10_solves_115 : decode cX10_solves 115 = .ok (.lmul, 1) := by decide +kernel
theorem dX10_solves_116 : decode cX10_solves 116 = .ok (.putfield 188, 3) := by decide +kernel
theorem dX10_solves_119 : decode cX10_solves 119 = .ok (.return_, 1) := by decide +kernel
theorem dX10_solves_120 : decode cX10_solves 120 = .ok (.iinc 3 1, 3) := by decide +kernel
theorem dX10_solves_123 : decode cX10_solves 123 = .ok (.goto (-104), 3) := by decide +kernel
theorem dX10_solves_126 : decode cX10_solves 126 = .ok (.iinc 2 1, 3) := by decide +kernel
theorem dX10_solves_129 : decode cX10_solves 129 = .ok (.goto (-117), 3) := by decide +kernel
theorem dX10_solves_132 : decode cX10_solves 132 = .ok (.iinc 1 1, 3) := by decide +kernel
theorem dX10_solves_135 : decode cX10_solves 135 = .ok (.goto (-133), 3) := by decide +kernel
theorem dX10_solves_138 : decode cX10_solves 138 = .ok (.return_, 1) := by decide +kernel
theorem dX10_isFilled_0 : decode cX10_isFilled 0 = .ok (.iconst 1, 1) := by decide +kernel
theorem dX10_isFilled_1 : decode cX10_isFilled 1 = .ok (.istore_n 1, 1) := by decide +kernel
theorem dX10_isFilled_2 : decode cX10_isFilled 2 = .ok (.iconst 0, 1) := by decide +kernel
theorem dX10_isFilled_3 : decode cX10_isFilled 3 = .ok (.istore_n 2, 1) := by decide +kernel
theorem dX10_isFilled_4 : decode cX10_isFilled 4 = .ok (.iload_n 2, 1) := by decide +kernel
theorem dX10_isFilled_5 : decode cX10_isFilled 5 = .ok (.aload_n 0, 1) := by decide +kernel
theorem dX10_isFilled_6 : decode cX10_isFilled 6 = .ok (.getfield 154, 3) := by decide +kernel
theorem dX10_isFilled_9 : decode cX10_isFilled 9 = .ok (.if_icmp .ge 69, 3) := by decide +kernel
theorem dX10_isFilled_12 : decode cX10_isFilled 12 = .ok (.iload_n 1, 1) := by decide +kernel
theorem dX10_isFilled_13 : decode cX10_isFilled 13 = .ok (.ifCond .eq 57, 3) := by decide +kernel
theorem dX10_isFilled_16 : decode cX10_isFilled 16 = .ok (.aload_n 0, 1) := by decide +kernel
theorem dX10_isFilled_17 : decode cX10_isFilled 17 = .ok (.iload_n 2, 1) := by decide +kernel
theorem dX10_isFilled_18 : decode cX10_isFilled 18 = .ok (.iconst 0, 1) := by decide +kernel
theorem dX10_isFilled_19 : decode cX10_isFilled 19 = .ok (.invokevirtual 160, 3) := by decide +kernel
theorem dX10_isFilled_22 : decode cX10_isFilled 22 = .ok (.aload_n 0, 1) := by decide +kernel
theorem dX10_isFilled_23 : decode cX10_isFilled 23 = .ok (.getfield 182, 3) := by decide +kernel
theorem dX10_isFilled_26 : decode cX10_isFilled 26 = .ok (.lmul, 1) := by decide +kernel
theorem dX10_isFilled_27 : decode cX10_isFilled 27 = .ok (.aload_n 0, 1) := by decide +kernel
theorem dX10_isFilled_28 : decode cX10_isFilled 28 = .ok (.iload_n 2, 1) := by decide +kernel
theorem dX10_isFilled_29 : decode cX10_isFilled 29 = .ok (.iconst 1, 1) := by decide +kernel
theorem dX10_isFilled_30 : decode cX10_isFilled 30 = .ok (.invokevirtual 160, 3) := by decide +kernel
theorem dX10_isFilled_33 : decode cX10_isFilled 33 = .ok (.aload_n 0, 1) := by decide +kernel
theorem dX10_isFilled_34 : decode cX10_isFilled 34 = .ok (.getfield 185, 3) := by decide +kernel
theorem dX10_isFilled_37 : decode cX10_isFilled 37 = .ok (.lmul, 1) := by decide +kernel
theorem dX10_isFilled_38 : decode cX10_isFilled 38 = .ok (.ladd, 1) := by decide +kernel
theorem dX10_isFilled_39 : decode cX10_isFilled 39 = .ok (.aload_n 0, 1) := by decide +kernel
theorem dX10_isFilled_40 : decode cX10_isFilled 40 = .ok (.iload_n 2, 1) := by decide +kernel
theorem dX10_isFilled_41 : decode cX10_isFilled 41 = .ok (.iconst 2, 1) := by decide +kernel
theorem dX10_isFilled_42 : decode cX10_isFilled 42 = .ok (.invokevirtual 160, 3) := by decide +kernel
theorem dX10_isFilled_45 : decode cX10_isFilled 45 = .ok (.aload_n 0, 1) := by decide +kernel
theorem dX10_isFilled_46 : decode cX10_isFilled 46 = .ok (.getfield 188, 3) := by decide +kernel
theorem dX10_isFilled_49 : decode cX10_isFilled 49 = .ok (.lmul, 1) := by decide +kernel
theorem dX10_isFilled_50 : decode cX10_isFilled 50 = .ok (.ladd, 1) := by decide +kernel
theorem dX10_isFilled_51 : decode cX10_isFilled 51 = .ok (.aload_n 0, 1) := by decide +kernel
theorem dX10_isFilled_52 : decode cX10_isFilled 52 = .ok (.iload_n 2, 1) := by decide +kernel
theorem dX10_isFilled_53 : decode cX10_isFilled 53 = .ok (.iconst 3, 1) := by decide +kernel
theorem dX10_isFilled_54 : decode cX10_isFilled 54 = .ok (.invokevirtual 160, 3) := by decide +kernel
theorem dX10_isFilled_57 : decode cX10_isFilled 57 = .ok (.aload_n 0, 1) := by decide +kernel
theorem dX10_isFilled_58 : decode cX10_isFilled 58 = .ok (.getfield 178, 3) := by decide +kernel
theorem dX10_isFilled_61 : decode cX10_isFilled 61 = .ok (.lmul, 1) := by decide +kernel
theorem dX10_isFilled_62 : decode cX10_isFilled 62 = .ok (.lcmp, 1) := by decide +kernel
theorem dX10_isFilled_63 : decode cX10_isFilled 63 = .ok (.ifCond .ne 7, 3) := by decide +kernel
theorem dX10_isFilled_66 : decode cX10_isFilled 66 = .ok (.iconst 1, 1) := by decide +kernel
theorem dX10_isFilled_67 : decode cX10_isFilled 67 = .ok (.goto 4, 3) := by decide +kernel
theorem dX10_isFilled_70 : decode cX10_isFilled 70 = .ok (.iconst 0, 1) := by decide +kernel
theorem dX10_isFilled_71 : decode cX10_isFilled 71 = .ok (.istore_n 1, 1) := by decide +kernel
theorem dX10_isFilled_72 : decode cX10_isFilled 72 = .ok (.iinc 2 1, 3) := by decide +kernel
theorem dX10_isFilled_75 : decode cX10_isFilled 75 = .ok (.goto (-71), 3) := by decide +kernel
theorem dX10_isFilled_78 : decode cX10_isFilled 78 = .ok (.iload_n 1, 1) := by decide +kernel
theorem dX10_isFilled_79 : decode cX10_isFilled 79 = .ok (.ireturn, 1) := by decide +kernel
theorem dX10_differs_0 : decode cX10_differs 0 = .ok (.aload_n 0, 1) := by decide +kernel
theorem dX10_differs_1 : decode cX10_differs 1 = .ok (.getfield 182, 3) := by decide +kernel
theorem dX10_differs_4 : decode cX10_differs 4 = .ok (.aload_n 0, 1) := by decide +kernel
theorem dX10_differs_5 : decode cX10_differs 5 = .ok (.iload_n 1, 1) := by decide +kernel
theorem dX10_differs_6 : decode cX10_differs 6 = .ok (.invokevirtual 116, 3) := by decide +kernel
theorem dX10_differs_9 : decode cX10_differs 9 = .ok (.i2l, 1) := by decide +kernel
theorem dX10_differs_10 : decode cX10_differs 10 = .ok (.aload_n 0, 1) := by decide +kernel
theorem dX10_differs_11 : decode cX10_differs 11 = .ok (.getfield 178, 3) := by decide +kernel
theorem dX10_differs_14 : decode cX10_differs 14 = .ok (.lmul, 1) := by decide +kernel
theorem dX10_differs_15 : decode cX10_differs 15 = .ok (.lsub, 1) := by decide +kernel
theorem dX10_differs_16 : decode cX10_differs 16 = .ok (.lstore_n 2, 1) := by decide +kernel
theorem dX10_differs_17 : decode cX10_differs 17 = .ok (.aload_n 0, 1) := by decide +kernel
theorem dX10_differs_18 : decode cX10_differs 18 = .ok (.getfield 185, 3) := by decide +kernel
theorem dX10_differs_21 : decode cX10_differs 21 = .ok (.aload_n 0, 1) := by decide +kernel
theorem dX10_differs_22 : decode cX10_differs 22 = .ok (.iload_n 1, 1) := by decide +kernel
theorem dX10_differs_23 : decode cX10_differs 23 = .ok (.invokevirtual 119, 3) := by decide +kernel
theorem dX10_differs_26 : decode cX10_differs 26 = .ok (.i2l, 1) := by decide +kernel
theorem dX10_differs_27 : decode cX10_differs 27 = .ok (.aload_n 0, 1) := by decide +kernel
theorem dX10_differs_28 : decode cX10_differs 28 = .ok (.getfield 178, 3) := by decide +kernel
theorem dX10_differs_31 : decode cX10_differs 31 = .ok (.lmul, 1) := by decide +kernel
theorem dX10_differs_32 : decode cX10_differs 32 = .ok (.lsub, 1) := by decide +kernel
theorem dX10_differs_33 : decode cX10_differs 33 = .ok (.lstore 4, 2) := by decide +kernel
theorem dX10_differs_35 : decode cX10_differs 35 = .ok (.aload_n 0, 1) := by decide +kernel
theorem dX10_differs_36 : decode cX10_differs 36 = .ok (.getfield 188, 3) := by decide +kernel
theorem dX10_differs_39 : decode cX10_differs 39 = .ok (.aload_n 0, 1) := by decide +kernel
theorem dX10_differs_40 : decode cX10_differs 40 = .ok (.iload_n 1, 1) := by decide +kernel
theorem dX10_differs_41 : decode cX10_differs 41 = .ok (.invokevirtual 110, 3) := by decide +kernel
theorem dX10_differs_44 : decode cX10_differs 44 = .ok (.i2l, 1) := by decide +kernel
theorem dX10_differs_45 : decode cX10_differs 45 = .ok (.aload_n 0, 1) := by decide +kernel
theorem dX10_differs_46 : decode cX10_differs 46 = .ok (.getfield 178, 3) := by decide +kernel
theorem dX10_differs_49 : decode cX10_differs 49 = .ok (.lmul, 1) := by decide +kernel
theorem dX10_differs_50 : decode cX10_differs 50 = .ok (.lsub, 1) := by decide +kernel
theorem dX10_differs_51 : decode cX10_differs 51 = .ok (.lstore 6, 2) := by decide +kernel
theorem dX10_differs_53 : decode cX10_differs 53 = .ok (.lload_n 2, 1) := by decide +kernel
theorem dX10_differs_54 : decode cX10_differs 54 = .ok (.lload_n 2, 1) := by decide +kernel
theorem dX10_differs_55 : decode cX10_differs 55 = .ok (.lmul, 1) := by decide +kernel
theorem dX10_differs_56 : decode cX10_differs 56 = .ok (.lload 4, 2) := by decide +kernel
theorem dX10_differs_58 : decode cX10_differs 58 = .ok (.lload 4, 2) := by decide +kernel
theorem dX10_differs_60 : decode cX10_differs 60 = .ok (.lmul, 1) := by decide +kernel
theorem dX10_differs_61 : decode cX10_differs 61 = .ok (.ladd, 1) := by decide +kernel
theorem dX10_differs_62 : decode cX10_differs 62 = .ok (.lload 6, 2) := by decide +kernel
theorem dX10_differs_64 : decode cX10_differs 64 = .ok (.lload 6, 2) := by decide +kernel
theorem dX10_differs_66 : decode cX10_differs 66 = .ok (.lmul, 1) := by decide +kernel
theorem dX10_differs_67 : decode cX10_differs 67 = .ok (.lsub, 1) := by decide +kernel
theorem dX10_differs_68 : decode cX10_differs 68 = .ok (.lreturn, 1) := by decide +kernel
theorem dX10_verdictOf_0 : decode cX10_verdictOf 0 = .ok (.aload_n 0, 1) := by decide +kernel
theorem dX10_verdictOf_1 : decode cX10_verdictOf 1 = .ok (.iload_n 1, 1) := by decide +kernel
theorem dX10_verdictOf_2 : decode cX10_verdictOf 2 = .ok (.invokevirtual 191, 3) := by decide +kernel
theorem dX10_verdictOf_5 : decode cX10_verdictOf 5 = .ok (.istore_n 2, 1) := by decide +kernel
theorem dX10_verdictOf_6 : decode cX10_verdictOf 6 = .ok (.iload_n 2, 1) := by decide +kernel
theorem dX10_verdictOf_7 : decode cX10_verdictOf 7 = .ok (.iconst 3, 1) := by decide +kernel
theorem dX10_verdictOf_8 : decode cX10_verdictOf 8 = .ok (.if_icmp .ge 17, 3) := by decide +kernel
theorem dX10_verdictOf_11 : decode cX10_verdictOf 11 = .ok (.aload_n 0, 1) := by decide +kernel
theorem dX10_verdictOf_12 : decode cX10_verdictOf 12 = .ok (.iload_n 2, 1) := by decide +kernel
theorem dX10_verdictOf_13 : decode cX10_verdictOf 13 = .ok (.invokevirtual 194, 3) := by decide +kernel
theorem dX10_verdictOf_16 : decode cX10_verdictOf 16 = .ok (.ifCond .eq 7, 3) := by decide +kernel
theorem dX10_verdictOf_19 : decode cX10_verdictOf 19 = .ok (.iconst 1, 1) := by decide +kernel
theorem dX10_verdictOf_20 : decode cX10_verdictOf 20 = .ok (.goto 4, 3) := by decide +kernel
theorem dX10_verdictOf_23 : decode cX10_verdictOf 23 = .ok (.iconst 2, 1) := by decide +kernel
theorem dX10_verdictOf_24 : decode cX10_verdictOf 24 = .ok (.ireturn, 1) := by decide +kernel
theorem dX10_verdictOf_25 : decode cX10_verdictOf 25 = .ok (.aload_n 0, 1) := by decide +kernel
theorem dX10_verdictOf_26 : decode cX10_verdictOf 26 = .ok (.invokevirtual 197, 3) := by decide +kernel
theorem dX10_verdictOf_29 : decode cX10_verdictOf 29 = .ok (.aload_n 0, 1) := by decide +kernel
theorem dX10_verdictOf_30 : decode cX10_verdictOf 30 = .ok (.iload_n 1, 1) := by decide +kernel
theorem dX10_verdictOf_31 : decode cX10_verdictOf 31 = .ok (.invokevirtual 157, 3) := by decide +kernel
theorem dX10_verdictOf_34 : decode cX10_verdictOf 34 = .ok (.istore_n 3, 1) := by decide +kernel
theorem dX10_verdictOf_35 : decode cX10_verdictOf 35 = .ok (.aload_n 0, 1) := by decide +kernel
theorem dX10_verdictOf_36 : decode cX10_verdictOf 36 = .ok (.invokevirtual 200, 3) := by decide +kernel
theorem dX10_verdictOf_39 : decode cX10_verdictOf 39 = .ok (.ifCond .eq 36, 3) := by decide +kernel
theorem dX10_verdictOf_42 : decode cX10_verdictOf 42 = .ok (.aload_n 0, 1) := by decide +kernel
theorem dX10_verdictOf_43 : decode cX10_verdictOf 43 = .ok (.iload_n 3, 1) := by decide +kernel
theorem dX10_verdictOf_44 : decode cX10_verdictOf 44 = .ok (.invokevirtual 203, 3) := by decide +kernel
theorem dX10_verdictOf_47 : decode cX10_verdictOf 47 = .ok (.lconst 0, 1) := by decide +kernel
theorem dX10_verdictOf_48 : decode cX10_verdictOf 48 = .ok (.lcmp, 1) := by decide +kernel
theorem dX10_verdictOf_49 : decode cX10_verdictOf 49 = .ok (.ifCond .ne 26, 3) := by decide +kernel
theorem dX10_verdictOf_52 : decode cX10_verdictOf 52 = .ok (.aload_n 0, 1) := by decide +kernel
theorem dX10_verdictOf_53 : decode cX10_verdictOf 53 = .ok (.getfield 188, 3) := by decide +kernel
theorem dX10_verdictOf_56 : decode cX10_verdictOf 56 = .ok (.aload_n 0, 1) := by decide +kernel
theorem dX10_verdictOf_57 : decode cX10_verdictOf 57 = .ok (.iload_n 3, 1) := by decide +kernel
theorem dX10_verdictOf_58 : decode cX10_verdictOf 58 = .ok (.invokevirtual 110, 3) := by decide +kernel
theorem dX10_verdictOf_61 : decode cX10_verdictOf 61 = .ok (.i2l, 1) := by decide +kernel
theorem dX10_verdictOf_62 : decode cX10_verdictOf 62 = .ok (.aload_n 0, 1) := by decide +kernel
theorem dX10_verdictOf_63 : decode cX10_verdictOf 63 = .ok (.getfield 178, 3) := by decide +kernel
theorem dX10_verdictOf_66 : decode cX10_verdictOf 66 = .ok (.lmul, 1) := by decide +kernel
theorem dX10_verdictOf_67 : decode cX10_verdictOf 67 = .ok (.lcmp, 1) := by decide +kernel
theorem dX10_verdictOf_68 : decode cX10_verdictOf 68 = .ok (.ifCond .gt 7, 3) := by decide +kernel
theorem dX10_verdictOf_71 : decode cX10_verdictOf 71 = .ok (.iconst 0, 1) := by decide +kernel
theorem dX10_verdictOf_72 : decode cX10_verdictOf 72 = .ok (.goto 4, 3) := by decide +kernel
theorem dX10_verdictOf_75 : decode cX10_verdictOf 75 = .ok (.iconst 2, 1) := by decide +kernel
theorem dX10_verdictOf_76 : decode cX10_verdictOf 76 = .ok (.ireturn, 1) := by decide +kernel
theorem dX10_isOpen_0 : decode cX10_isOpen 0 = .ok (.iconst 0, 1) := by decide +kernel
theorem dX10_isOpen_1 : decode cX10_isOpen 1 = .ok (.istore_n 2, 1) := by decide +kernel
theorem dX10_isOpen_2 : decode cX10_isOpen 2 = .ok (.iload_n 2, 1) := by decide +kernel
theorem dX10_isOpen_3 : decode cX10_isOpen 3 = .ok (.aload_n 0, 1) := by decide +kernel
theorem dX10_isOpen_4 : decode cX10_isOpen 4 = .ok (.getfield 154, 3) := by decide +kernel
theorem dX10_isOpen_7 : decode cX10_isOpen 7 = .ok (.if_icmp .ge 131, 3) := by decide +kernel
theorem dX10_isOpen_10 : decode cX10_isOpen 10 = .ok (.iload_n 1, 1) := by decide +kernel
theorem dX10_isOpen_11 : decode cX10_isOpen 11 = .ok (.ifCond .ne 16, 3) := by decide +kernel
theorem dX10_isOpen_14 : decode cX10_isOpen 14 = .ok (.aload_n 0, 1) := by decide +kernel
theorem dX10_isOpen_15 : decode cX10_isOpen 15 = .ok (.iload_n 2, 1) := by decide +kernel
theorem dX10_isOpen_16 : decode cX10_isOpen 16 = .ok (.iconst 3, 1) := by decide +kernel
theorem dX10_isOpen_17 : decode cX10_isOpen 17 = .ok (.invokevirtual 160, 3) := by decide +kernel
theorem dX10_isOpen_20 : decode cX10_isOpen 20 = .ok (.lconst 0, 1) := by decide +kernel
theorem dX10_isOpen_21 : decode cX10_isOpen 21 = .ok (.lcmp, 1) := by decide +kernel
theorem dX10_isOpen_22 : decode cX10_isOpen 22 = .ok (.ifCond .eq 5, 3) := by decide +kernel
theorem dX10_isOpen_25 : decode cX10_isOpen 25 = .ok (.iconst 0, 1) := by decide +kernel
theorem dX10_isOpen_26 : decode cX10_isOpen 26 = .ok (.ireturn, 1) := by decide +kernel
theorem dX10_isOpen_27 : decode cX10_isOpen 27 = .ok (.iconst 0, 1) := by decide +kernel
theorem dX10_isOpen_28 : decode cX10_isOpen 28 = .ok (.istore_n 3, 1) := by decide +kernel
theorem dX10_isOpen_29 : decode cX10_isOpen 29 = .ok (.iload_n 3, 1) := by decide +kernel
theorem dX10_isOpen_30 : decode cX10_isOpen 30 = .ok (.iload_n 2, 1) := by decide +kernel
theorem dX10_isOpen_31 : decode cX10_isOpen 31 = .ok (.if_icmp .ge 101, 3) := by decide +kernel
theorem dX10_isOpen_34 : decode cX10_isOpen 34 = .ok (.iconst 0, 1) := by decide +kernel
theorem dX10_isOpen_35 : decode cX10_isOpen 35 = .ok (.istore 4, 2) := by decide +kernel
theorem dX10_isOpen_37 : decode cX10_isOpen 37 = .ok (.iload 4, 2) := by decide +kernel
theorem dX10_isOpen_39 : decode cX10_isOpen 39 = .ok (.iconst 3, 1) := by decide +kernel
theorem dX10_isOpen_40 : decode cX10_isOpen 40 = .ok (.if_icmp .ge 86, 3) := by decide +kernel
theorem dX10_isOpen_43 : decode cX10_isOpen 43 = .ok (.iload_n 1, 1) := by decide +kernel
theorem dX10_isOpen_44 : decode cX10_isOpen 44 = .ok (.iconst 1, 1) := by decide +kernel
theorem dX10_isOpen_45 : decode cX10_isOpen 45 = .ok (.if_icmp .ne 19, 3) := by decide +kernel
theorem dX10_isOpen_48 : decode cX10_isOpen 48 = .ok (.aload_n 0, 1) := by decide +kernel
theorem dX10_isOpen_49 : decode cX10_isOpen 49 = .ok (.iload_n 2, 1) := by decide +kernel
theorem dX10_isOpen_50 : decode cX10_isOpen 50 = .ok (.iload_n 3, 1) := by decide +kernel
theorem dX10_isOpen_51 : decode cX10_isOpen 51 = .ok (.iload 4, 2) := by decide +kernel
theorem dX10_isOpen_53 : decode cX10_isOpen 53 = .ok (.iconst 3, 1) := by decide +kernel
theorem dX10_isOpen_54 : decode cX10_isOpen 54 = .ok (.invokevirtual 168, 3) := by decide +kernel
theorem dX10_isOpen_57 : decode cX10_isOpen 57 = .ok (.lconst 0, 1) := by decide +kernel
theorem dX10_isOpen_58 : decode cX10_isOpen 58 = .ok (.lcmp, 1) := by decide +kernel
theorem dX10_isOpen_59 : decode cX10_isOpen 59 = .ok (.ifCond .eq 5, 3) := by decide +kernel
theorem dX10_isOpen_62 : decode cX10_isOpen 62 = .ok (.iconst 0, 1) := by decide +kernel
theorem dX10_isOpen_63 : decode cX10_isOpen 63 = .ok (.ireturn, 1) := by decide +kernel
theorem dX10_isOpen_64 : decode cX10_isOpen 64 = .ok (.iconst 0, 1) := by decide +kernel
theorem dX10_isOpen_65 : decode cX10_isOpen 65 = .ok (.istore 5, 2) := by decide +kernel
theorem dX10_isOpen_67 : decode cX10_isOpen 67 = .ok (.iload 5, 2) := by decide +kernel
theorem dX10_isOpen_69 : decode cX10_isOpen 69 = .ok (.iload_n 3, 1) := by decide +kernel
theorem dX10_isOpen_70 : decode cX10_isOpen 70 = .ok (.if_icmp .ge 50, 3) := by decide +kernel
theorem dX10_isOpen_73 : decode cX10_isOpen 73 = .ok (.iconst 0, 1) := by decide +kernel
theorem dX10_isOpen_74 : decode cX10_isOpen 74 = .ok (.istore 6, 2) := by decide +kernel
theorem dX10_isOpen_76 : decode cX10_isOpen 76 = .ok (.iload 6, 2) := by decide +kernel
theorem dX10_isOpen_78 : decode cX10_isOpen 78 = .ok (.iload 4, 2) := by decide +kernel
theorem dX10_isOpen_80 : decode cX10_isOpen 80 = .ok (.if_icmp .ge 34, 3) := by decide +kernel
theorem dX10_isOpen_83 : decode cX10_isOpen 83 = .ok (.iload_n 1, 1) := by decide +kernel
theorem dX10_isOpen_84 : decode cX10_isOpen 84 = .ok (.iconst 2, 1) := by decide +kernel
theorem dX10_isOpen_85 : decode cX10_isOpen 85 = .ok (.if_icmp .ne 23, 3) := by decide +kernel
theorem dX10_isOpen_88 : decode cX10_isOpen 88 = .ok (.aload_n 0, 1) := by decide +kernel
theorem dX10_isOpen_89 : decode cX10_isOpen 89 = .ok (.iload_n 2, 1) := by decide +kernel
theorem dX10_isOpen_90 : decode cX10_isOpen 90 = .ok (.iload_n 3, 1) := by decide +kernel
theorem dX10_isOpen_91 : decode cX10_isOpen 91 = .ok (.iload 5, 2) := by decide +kernel
theorem dX10_isOpen_93 : decode cX10_isOpen 93 = .ok (.iload 6, 2) := by decide +kernel
theorem dX10_isOpen_95 : decode cX10_isOpen 95 = .ok (.iload 4, 2) := by decide +kernel
theorem dX10_isOpen_97 : decode cX10_isOpen 97 = .ok (.iconst 3, 1) := by decide +kernel
theorem dX10_isOpen_98 : decode cX10_isOpen 98 = .ok (.invokevirtual 172, 3) := by decide +kernel
theorem dX10_isOpen_101 : decode cX10_isOpen 101 = .ok (.lconst 0, 1) := by decide +kernel
theorem dX10_isOpen_102 : decode cX10_isOpen 102 = .ok (.lcmp, 1) := by decide +kernel
theorem dX10_isOpen_103 : decode cX10_isOpen 103 = .ok (.ifCond .eq 5, 3) := by decide +kernel
theorem dX10_isOpen_106 : decode cX10_isOpen 106 = .ok (.iconst 0, 1) := by decide +kernel
theorem dX10_isOpen_107 : decode cX10_isOpen 107 = .ok (.ireturn, 1) := by decide +kernel
theorem dX10_isOpen_108 : decode cX10_isOpen 108 = .ok (.iinc 6 1, 3) := by decide +kernel
theorem dX10_isOpen_111 : decode cX10_isOpen 111 = .ok (.goto (-35), 3) := by decide +kernel
theorem dX10_isOpen_114 : decode cX10_isOpen 114 = .ok (.iinc 5 1, 3) := by decide +kernel
theorem dX10_isOpen_117 : decode cX10_isOpen 117 = .ok (.goto (-50), 3) := by decide +kernel
theorem dX10_isOpen_120 : decode cX10_isOpen 120 = .ok (.iinc 4 1, 3) := by decide +kernel
theorem dX10_isOpen_123 : decode cX10_isOpen 123 = .ok (.goto (-86), 3) := by decide +kernel
theorem dX10_isOpen_126 : decode cX10_isOpen 126 = .ok (.iinc 3 1, 3) := by decide +kernel
theorem dX10_isOpen_129 : decode cX10_isOpen 129 = .ok (.goto (-100), 3) := by decide +kernel
theorem dX10_isOpen_132 : decode cX10_isOpen 132 = .ok (.iinc 2 1, 3) := by decide +kernel
theorem dX10_isOpen_135 : decode cX10_isOpen 135 = .ok (.goto (-133), 3) := by decide +kernel
theorem dX10_isOpen_138 : decode cX10_isOpen 138 = .ok (.iconst 1, 1) := by decide +kernel
theorem dX10_isOpen_139 : decode cX10_isOpen 139 = .ok (.ireturn, 1) := by decide +kernel
theorem dX10_verdict_0 : decode cX10_verdict 0 = .ok (.iload_n 1, 1) := by decide +kernel
theorem dX10_verdict_1 : decode cX10_verdict 1 = .ok (.iconst 1, 1) := by decide +kernel
theorem dX10_verdict_2 : decode cX10_verdict 2 = .ok (.iconst 1, 1) := by decide +kernel
theorem dX10_verdict_3 : decode cX10_verdict 3 = .ok (.aload_n 0, 1) := by decide +kernel
theorem dX10_verdict_4 : decode cX10_verdict 4 = .ok (.getfield 16, 3) := by decide +kernel
theorem dX10_verdict_7 : decode cX10_verdict 7 = .ok (.iconst 0, 1) := by decide +kernel
theorem dX10_verdict_8 : decode cX10_verdict 8 = .ok (.iaload, 1) := by decide +kernel
theorem dX10_verdict_9 : decode cX10_verdict 9 = .ok (.ishl, 1) := by decide +kernel
theorem dX10_verdict_10 : decode cX10_verdict 10 = .ok (.iconst 1, 1) := by decide +kernel
theorem dX10_verdict_11 : decode cX10_verdict 11 = .ok (.isub, 1) := by decide +kernel
theorem dX10_verdict_12 : decode cX10_verdict 12 = .ok (.invokestatic 48, 3) := by decide +kernel
theorem dX10_verdict_15 : decode cX10_verdict 15 = .ok (.ifCond .eq 11, 3) := by decide +kernel
theorem dX10_verdict_18 : decode cX10_verdict 18 = .ok (.aload_n 0, 1) := by decide +kernel
theorem dX10_verdict_19 : decode cX10_verdict 19 = .ok (.iload_n 1, 1) := by decide +kernel
theorem dX10_verdict_20 : decode cX10_verdict 20 = .ok (.invokevirtual 207, 3) := by decide +kernel
theorem dX10_verdict_23 : decode cX10_verdict 23 = .ok (.goto 4, 3) := by decide +kernel
theorem dX10_verdict_26 : decode cX10_verdict 26 = .ok (.iconst (-1), 1) := by decide +kernel
theorem dX10_verdict_27 : decode cX10_verdict 27 = .ok (.ireturn, 1) := by decide +kernel
theorem dX10_outOf_0 : decode cX10_outOf 0 = .ok (.iconst 0, 1) := by decide +kernel
theorem dX10_outOf_1 : decode cX10_outOf 1 = .ok (.istore_n 2, 1) := by decide +kernel
theorem dX10_outOf_2 : decode cX10_outOf 2 = .ok (.iload_n 2, 1) := by decide +kernel
theorem dX10_outOf_3 : decode cX10_outOf 3 = .ok (.iconst 3, 1) := by decide +kernel
theorem dX10_outOf_4 : decode cX10_outOf 4 = .ok (.if_icmp .ge 63, 3) := by decide +kernel
theorem dX10_outOf_7 : decode cX10_outOf 7 = .ok (.iconst 0, 1) := by decide +kernel
theorem dX10_outOf_8 : decode cX10_outOf 8 = .ok (.istore_n 3, 1) := by decide +kernel
theorem dX10_outOf_9 : decode cX10_outOf 9 = .ok (.iload_n 3, 1) := by decide +kernel
theorem dX10_outOf_10 : decode cX10_outOf 10 = .ok (.iconst 1, 1) := by decide +kernel
theorem dX10_outOf_11 : decode cX10_outOf 11 = .ok (.aload_n 0, 1) := by decide +kernel
theorem dX10_outOf_12 : decode cX10_outOf 12 = .ok (.getfield 16, 3) := by decide +kernel
theorem dX10_outOf_15 : decode cX10_outOf 15 = .ok (.iconst 0, 1) := by decide +kernel
theorem dX10_outOf_16 : decode cX10_outOf 16 = .ok (.iaload, 1) := by decide +kernel
theorem dX10_outOf_17 : decode cX10_outOf 17 = .ok (.ishl, 1) := by decide +kernel
theorem dX10_outOf_18 : decode cX10_outOf 18 = .ok (.if_icmp .ge 43, 3) := by decide +kernel
theorem dX10_outOf_21 : decode cX10_outOf 21 = .ok (.iload_n 3, 1) := by decide +kernel
theorem dX10_outOf_22 : decode cX10_outOf 22 = .ok (.invokestatic 210, 3) := by decide +kernel
theorem dX10_outOf_25 : decode cX10_outOf 25 = .ok (.iload_n 2, 1) := by decide +kernel
theorem dX10_outOf_26 : decode cX10_outOf 26 = .ok (.if_icmp .ne 29, 3) := by decide +kernel
theorem dX10_outOf_29 : decode cX10_outOf 29 = .ok (.iload_n 3, 1) := by decide +kernel
theorem dX10_outOf_30 : decode cX10_outOf 30 = .ok (.iload_n 1, 1) := by decide +kernel
theorem dX10_outOf_31 : decode cX10_outOf 31 = .ok (.iand, 1) := by decide +kernel
theorem dX10_outOf_32 : decode cX10_outOf 32 = .ok (.iload_n 3, 1) := by decide +kernel
theorem dX10_outOf_33 : decode cX10_outOf 33 = .ok (.if_icmp .ne 22, 3) := by decide +kernel
theorem dX10_outOf_36 : decode cX10_outOf 36 = .ok (.iload_n 3, 1) := by decide +kernel
theorem dX10_outOf_37 : decode cX10_outOf 37 = .ok (.iload_n 1, 1) := by decide +kernel
theorem dX10_outOf_38 : decode cX10_outOf 38 = .ok (.if_icmp .eq 17, 3) := by decide +kernel
theorem dX10_outOf_41 : decode cX10_outOf 41 = .ok (.aload_n 0, 1) := by decide +kernel
theorem dX10_outOf_42 : decode cX10_outOf 42 = .ok (.iload_n 1, 1) := by decide +kernel
theorem dX10_outOf_43 : decode cX10_outOf 43 = .ok (.iload_n 3, 1) := by decide +kernel
theorem dX10_outOf_44 : decode cX10_outOf 44 = .ok (.iconst (-1), 1) := by decide +kernel
theorem dX10_outOf_45 : decode cX10_outOf 45 = .ok (.ixor, 1) := by decide +kernel
theorem dX10_outOf_46 : decode cX10_outOf 46 = .ok (.iand, 1) := by decide +kernel
theorem dX10_outOf_47 : decode cX10_outOf 47 = .ok (.invokevirtual 207, 3) := by decide +kernel
theorem dX10_outOf_50 : decode cX10_outOf 50 = .ok (.ifCond .ne 5, 3) := by decide +kernel
theorem dX10_outOf_53 : decode cX10_outOf 53 = .ok (.iload_n 3, 1) := by decide +kernel
theorem dX10_outOf_54 : decode cX10_outOf 54 = .ok (.ireturn, 1) := by decide +kernel
theorem dX10_outOf_55 : decode cX10_outOf 55 = .ok (.iinc 3 1, 3) := by decide +kernel
theorem dX10_outOf_58 : decode cX10_outOf 58 = .ok (.goto (-49), 3) := by decide +kernel
theorem dX10_outOf_61 : decode cX10_outOf 61 = .ok (.iinc 2 1, 3) := by decide +kernel
theorem dX10_outOf_64 : decode cX10_outOf 64 = .ok (.goto (-62), 3) := by decide +kernel
theorem dX10_outOf_67 : decode cX10_outOf 67 = .ok (.bipush (-9), 2) := by decide +kernel
theorem dX10_outOf_69 : decode cX10_outOf 69 = .ok (.ireturn, 1) := by decide +kernel
theorem dX10_worstOf_0 : decode cX10_worstOf 0 = .ok (.lconst 0, 1) := by decide +kernel
theorem dX10_worstOf_1 : decode cX10_worstOf 1 = .ok (.lstore_n 2, 1) := by decide +kernel
theorem dX10_worstOf_2 : decode cX10_worstOf 2 = .ok (.iconst 0, 1) := by decide +kernel
theorem dX10_worstOf_3 : decode cX10_worstOf 3 = .ok (.istore 4, 2) := by decide +kernel
theorem dX10_worstOf_5 : decode cX10_worstOf 5 = .ok (.iload 4, 2) := by decide +kernel
theorem dX10_worstOf_7 : decode cX10_worstOf 7 = .ok (.aload_n 0, 1) := by decide +kernel
theorem dX10_worstOf_8 : decode cX10_worstOf 8 = .ok (.getfield 16, 3) := by decide +kernel
theorem dX10_worstOf_11 : decode cX10_worstOf 11 = .ok (.iconst 0, 1) := by decide +kernel
theorem dX10_worstOf_12 : decode cX10_worstOf 12 = .ok (.iaload, 1) := by decide +kernel
theorem dX10_worstOf_13 : decode cX10_worstOf 13 = .ok (.if_icmp .ge 71, 3) := by decide +kernel
theorem dX10_worstOf_16 : decode cX10_worstOf 16 = .ok (.iload_n 1, 1) := by decide +kernel
theorem dX10_worstOf_17 : decode cX10_worstOf 17 = .ok (.iload 4, 2) := by decide +kernel
theorem dX10_worstOf_19 : decode cX10_worstOf 19 = .ok (.invokestatic 125, 3) := by decide +kernel
theorem dX10_worstOf_22 : decode cX10_worstOf 22 = .ok (.ifCond .eq 56, 3) := by decide +kernel
theorem dX10_worstOf_25 : decode cX10_worstOf 25 = .ok (.aload_n 0, 1) := by decide +kernel
theorem dX10_worstOf_26 : decode cX10_worstOf 26 = .ok (.iload 4, 2) := by decide +kernel
theorem dX10_worstOf_28 : decode cX10_worstOf 28 = .ok (.invokevirtual 203, 3) := by decide +kernel
theorem dX10_worstOf_31 : decode cX10_worstOf 31 = .ok (.lstore 5, 2) := by decide +kernel
theorem dX10_worstOf_33 : decode cX10_worstOf 33 = .ok (.lload 5, 2) := by decide +kernel
theorem dX10_worstOf_35 : decode cX10_worstOf 35 = .ok (.lconst 0, 1) := by decide +kernel
theorem dX10_worstOf_36 : decode cX10_worstOf 36 = .ok (.lcmp, 1) := by decide +kernel
theorem dX10_worstOf_37 : decode cX10_worstOf 37 = .ok (.ifCond .ge 9, 3) := by decide +kernel
theorem dX10_worstOf_40 : decode cX10_worstOf 40 = .ok (.lload 5, 2) := by decide +kernel
theorem dX10_worstOf_42 : decode cX10_worstOf 42 = .ok (.lneg, 1) := by decide +kernel
theorem dX10_worstOf_43 : decode cX10_worstOf 43 = .ok (.goto 5, 3) := by decide +kernel
theorem dX10_worstOf_46 : decode cX10_worstOf 46 = .ok (.lload 5, 2) := by decide +kernel
theorem dX10_worstOf_48 : decode cX10_worstOf 48 = .ok (.lstore 5, 2) := by decide +kernel
theorem dX10_worstOf_50 : decode cX10_worstOf 50 = .ok (.lload 5, 2) := by decide +kernel
theorem dX10_worstOf_52 : decode cX10_worstOf 52 = .ok (.aload_n 0, 1) := by decide +kernel
theorem dX10_worstOf_53 : decode cX10_worstOf 53 = .ok (.getfield 178, 3) := by decide +kernel
theorem dX10_worstOf_56 : decode cX10_worstOf 56 = .ok (.aload_n 0, 1) := by decide +kernel
theorem dX10_worstOf_57 : decode cX10_worstOf 57 = .ok (.getfield 178, 3) := by decide +kernel
theorem dX10_worstOf_60 : decode cX10_worstOf 60 = .ok (.lmul, 1) := by decide +kernel
theorem dX10_worstOf_61 : decode cX10_worstOf 61 = .ok (.ldiv, 1) := by decide +kernel
theorem dX10_worstOf_62 : decode cX10_worstOf 62 = .ok (.lstore 5, 2) := by decide +kernel
theorem dX10_worstOf_64 : decode cX10_worstOf 64 = .ok (.lload 5, 2) := by decide +kernel
theorem dX10_worstOf_66 : decode cX10_worstOf 66 = .ok (.lload_n 2, 1) := by decide +kernel
theorem dX10_worstOf_67 : decode cX10_worstOf 67 = .ok (.lcmp, 1) := by decide +kernel
theorem dX10_worstOf_68 : decode cX10_worstOf 68 = .ok (.ifCond .le 8, 3) := by decide +kernel
theorem dX10_worstOf_71 : decode cX10_worstOf 71 = .ok (.lload 5, 2) := by decide +kernel
theorem dX10_worstOf_73 : decode cX10_worstOf 73 = .ok (.goto 4, 3) := by decide +kernel
theorem dX10_worstOf_76 : decode cX10_worstOf 76 = .ok (.lload_n 2, 1) := by decide +kernel
theorem dX10_worstOf_77 : decode cX10_worstOf 77 = .ok (.lstore_n 2, 1) := by decide +kernel
theorem dX10_worstOf_78 : decode cX10_worstOf 78 = .ok (.iinc 4 1, 3) := by decide +kernel
theorem dX10_worstOf_81 : decode cX10_worstOf 81 = .ok (.goto (-76), 3) := by decide +kernel
theorem dX10_worstOf_84 : decode cX10_worstOf 84 = .ok (.lload_n 2, 1) := by decide +kernel
theorem dX10_worstOf_85 : decode cX10_worstOf 85 = .ok (.ldc2_w 213, 3) := by decide +kernel
theorem dX10_worstOf_88 : decode cX10_worstOf 88 = .ok (.lcmp, 1) := by decide +kernel
theorem dX10_worstOf_89 : decode cX10_worstOf 89 = .ok (.ifCond .le 8, 3) := by decide +kernel
theorem dX10_worstOf_92 : decode cX10_worstOf 92 = .ok (.ldc 215, 2) := by decide +kernel
theorem dX10_worstOf_94 : decode cX10_worstOf 94 = .ok (.goto 5, 3) := by decide +kernel
theorem dX10_worstOf_97 : decode cX10_worstOf 97 = .ok (.lload_n 2, 1) := by decide +kernel
theorem dX10_worstOf_98 : decode cX10_worstOf 98 = .ok (.l2i, 1) := by decide +kernel
theorem dX10_worstOf_99 : decode cX10_worstOf 99 = .ok (.ireturn, 1) := by decide +kernel
theorem dX10_fourOf_0 : decode cX10_fourOf 0 = .ok (.bipush (-9), 2) := by decide +kernel
theorem dX10_fourOf_2 : decode cX10_fourOf 2 = .ok (.istore_n 2, 1) := by decide +kernel
theorem dX10_fourOf_3 : decode cX10_fourOf 3 = .ok (.iconst 0, 1) := by decide +kernel
theorem dX10_fourOf_4 : decode cX10_fourOf 4 = .ok (.istore_n 3, 1) := by decide +kernel
theorem dX10_fourOf_5 : decode cX10_fourOf 5 = .ok (.iload_n 3, 1) := by decide +kernel
theorem dX10_fourOf_6 : decode cX10_fourOf 6 = .ok (.iconst 1, 1) := by decide +kernel
theorem dX10_fourOf_7 : decode cX10_fourOf 7 = .ok (.aload_n 0, 1) := by decide +kernel
theorem dX10_fourOf_8 : decode cX10_fourOf 8 = .ok (.getfield 16, 3) := by decide +kernel
theorem dX10_fourOf_11 : decode cX10_fourOf 11 = .ok (.iconst 0, 1) := by decide +kernel
theorem dX10_fourOf_12 : decode cX10_fourOf 12 = .ok (.iaload, 1) := by decide +kernel
theorem dX10_fourOf_13 : decode cX10_fourOf 13 = .ok (.ishl, 1) := by decide +kernel
theorem dX10_fourOf_14 : decode cX10_fourOf 14 = .ok (.if_icmp .ge 67, 3) := by decide +kernel
theorem dX10_fourOf_17 : decode cX10_fourOf 17 = .ok (.iload_n 3, 1) := by decide +kernel
theorem dX10_fourOf_18 : decode cX10_fourOf 18 = .ok (.invokestatic 210, 3) := by decide +kernel
theorem dX10_fourOf_21 : decode cX10_fourOf 21 = .ok (.iconst 4, 1) := by decide +kernel
theorem dX10_fourOf_22 : decode cX10_fourOf 22 = .ok (.if_icmp .ne 53, 3) := by decide +kernel
theorem dX10_fourOf_25 : decode cX10_fourOf 25 = .ok (.iload_n 3, 1) := by decide +kernel
theorem dX10_fourOf_26 : decode cX10_fourOf 26 = .ok (.iload_n 1, 1) := by decide +kernel
theorem dX10_fourOf_27 : decode cX10_fourOf 27 = .ok (.iand, 1) := by decide +kernel
theorem dX10_fourOf_28 : decode cX10_fourOf 28 = .ok (.iload_n 3, 1) := by decide +kernel
theorem dX10_fourOf_29 : decode cX10_fourOf 29 = .ok (.if_icmp .ne 46, 3) := by decide +kernel
theorem dX10_fourOf_32 : decode cX10_fourOf 32 = .ok (.aload_n 0, 1) := by decide +kernel
theorem dX10_fourOf_33 : decode cX10_fourOf 33 = .ok (.iload_n 3, 1) := by decide +kernel
theorem dX10_fourOf_34 : decode cX10_fourOf 34 = .ok (.invokevirtual 191, 3) := by decide +kernel
theorem dX10_fourOf_37 : decode cX10_fourOf 37 = .ok (.iconst 3, 1) := by decide +kernel
theorem dX10_fourOf_38 : decode cX10_fourOf 38 = .ok (.if_icmp .ne 37, 3) := by decide +kernel
theorem dX10_fourOf_41 : decode cX10_fourOf 41 = .ok (.aload_n 0, 1) := by decide +kernel
theorem dX10_fourOf_42 : decode cX10_fourOf 42 = .ok (.invokevirtual 197, 3) := by decide +kernel
theorem dX10_fourOf_45 : decode cX10_fourOf 45 = .ok (.aload_n 0, 1) := by decide +kernel
theorem dX10_fourOf_46 : decode cX10_fourOf 46 = .ok (.iload_n 1, 1) := by decide +kernel
theorem dX10_fourOf_47 : decode cX10_fourOf 47 = .ok (.invokevirtual 216, 3) := by decide +kernel
theorem dX10_fourOf_50 : decode cX10_fourOf 50 = .ok (.istore 4, 2) := by decide +kernel
theorem dX10_fourOf_52 : decode cX10_fourOf 52 = .ok (.iload_n 2, 1) := by decide +kernel
theorem dX10_fourOf_53 : decode cX10_fourOf 53 = .ok (.bipush (-9), 2) := by decide +kernel
theorem dX10_fourOf_55 : decode cX10_fourOf 55 = .ok (.if_icmp .eq 12, 3) := by decide +kernel
theorem dX10_fourOf_58 : decode cX10_fourOf 58 = .ok (.iload 4, 2) := by decide +kernel
theorem dX10_fourOf_60 : decode cX10_fourOf 60 = .ok (.aload_n 0, 1) := by decide +kernel
theorem dX10_fourOf_61 : decode cX10_fourOf 61 = .ok (.getfield 219, 3) := by decide +kernel
theorem dX10_fourOf_64 : decode cX10_fourOf 64 = .ok (.if_icmp .ge 11, 3) := by decide +kernel
theorem dX10_fourOf_67 : decode cX10_fourOf 67 = .ok (.iload_n 3, 1) := by decide +kernel
theorem dX10_fourOf_68 : decode cX10_fourOf 68 = .ok (.istore_n 2, 1) := by decide +kernel
theorem dX10_fourOf_69 : decode cX10_fourOf 69 = .ok (.aload_n 0, 1) := by decide +kernel
theorem dX10_fourOf_70 : decode cX10_fourOf 70 = .ok (.iload 4, 2) := by decide +kernel
theorem dX10_fourOf_72 : decode cX10_fourOf 72 = .ok (.putfield 219, 3) := by decide +kernel
theorem dX10_fourOf_75 : decode cX10_fourOf 75 = .ok (.iinc 3 1, 3) := by decide +kernel
theorem dX10_fourOf_78 : decode cX10_fourOf 78 = .ok (.goto (-73), 3) := by decide +kernel
theorem dX10_fourOf_81 : decode cX10_fourOf 81 = .ok (.iload_n 2, 1) := by decide +kernel
theorem dX10_fourOf_82 : decode cX10_fourOf 82 = .ok (.ireturn, 1) := by decide +kernel
theorem dX10_root_0 : decode cX10_root 0 = .ok (.iconst 0, 1) := by decide +kernel
theorem dX10_root_1 : decode cX10_root 1 = .ok (.istore_n 1, 1) := by decide +kernel
theorem dX10_root_2 : decode cX10_root 2 = .ok (.iload_n 1, 1) := by decide +kernel
theorem dX10_root_3 : decode cX10_root 3 = .ok (.iload_n 1, 1) := by decide +kernel
theorem dX10_root_4 : decode cX10_root 4 = .ok (.imul, 1) := by decide +kernel
theorem dX10_root_5 : decode cX10_root 5 = .ok (.iload_n 0, 1) := by decide +kernel
theorem dX10_root_6 : decode cX10_root 6 = .ok (.if_icmp .ge 9, 3) := by decide +kernel
theorem dX10_root_9 : decode cX10_root 9 = .ok (.iinc 1 1, 3) := by decide +kernel
theorem dX10_root_12 : decode cX10_root 12 = .ok (.goto (-10), 3) := by decide +kernel
theorem dX10_root_15 : decode cX10_root 15 = .ok (.iload_n 1, 1) := by decide +kernel
theorem dX10_root_16 : decode cX10_root 16 = .ok (.iload_n 1, 1) := by decide +kernel
theorem dX10_root_17 : decode cX10_root 17 = .ok (.imul, 1) := by decide +kernel
theorem dX10_root_18 : decode cX10_root 18 = .ok (.iload_n 0, 1) := by decide +kernel
theorem dX10_root_19 : decode cX10_root 19 = .ok (.if_icmp .ne 7, 3) := by decide +kernel
theorem dX10_root_22 : decode cX10_root 22 = .ok (.iload_n 1, 1) := by decide +kernel
theorem dX10_root_23 : decode cX10_root 23 = .ok (.goto 5, 3) := by decide +kernel
theorem dX10_root_26 : decode cX10_root 26 = .ok (.bipush (-9), 2) := by decide +kernel
theorem dX10_root_28 : decode cX10_root 28 = .ok (.ireturn, 1) := by decide +kernel
theorem dX10_layCan_0 : decode cX10_layCan 0 = .ok (.aload_n 0, 1) := by decide +kernel
theorem dX10_layCan_1 : decode cX10_layCan 1 = .ok (.iconst 0, 1) := by decide +kernel
theorem dX10_layCan_2 : decode cX10_layCan 2 = .ok (.putfield 222, 3) := by decide +kernel
theorem dX10_layCan_5 : decode cX10_layCan 5 = .ok (.aload_n 0, 1) := by decide +kernel
theorem dX10_layCan_6 : decode cX10_layCan 6 = .ok (.bipush (-9), 2) := by decide +kernel
theorem dX10_layCan_8 : decode cX10_layCan 8 = .ok (.putfield 225, 3) := by decide +kernel
theorem dX10_layCan_11 : decode cX10_layCan 11 = .ok (.aload_n 0, 1) := by decide +kernel
theorem dX10_layCan_12 : decode cX10_layCan 12 = .ok (.iload_n 1, 1) := by decide +kernel
theorem dX10_layCan_13 : decode cX10_layCan 13 = .ok (.invokevirtual 157, 3) := by decide +kernel
theorem dX10_layCan_16 : decode cX10_layCan 16 = .ok (.istore_n 2, 1) := by decide +kernel
theorem dX10_layCan_17 : decode cX10_layCan 17 = .ok (.iconst 0, 1) := by decide +kernel
theorem dX10_layCan_18 : decode cX10_layCan 18 = .ok (.istore_n 3, 1) := by decide +kernel
theorem dX10_layCan_19 : decode cX10_layCan 19 = .ok (.iload_n 3, 1) := by decide +kernel
theorem dX10_layCan_20 : decode cX10_layCan 20 = .ok (.sipush 900, 3) := by decide +kernel
theorem dX10_layCan_23 : decode cX10_layCan 23 = .ok (.if_icmp .ge 233, 3) := by decide +kernel
theorem dX10_layCan_26 : decode cX10_layCan 26 = .ok (.iload_n 3, 1) := by decide +kernel
theorem dX10_layCan_27 : decode cX10_layCan 27 = .ok (.bipush 30, 2) := by decide +kernel
theorem dX10_layCan_29 : decode cX10_layCan 29 = .ok (.idiv, 1) := by decide +kernel
theorem dX10_layCan_30 : decode cX10_layCan 30 = .ok (.istore 4, 2) := by decide +kernel
theorem dX10_layCan_32 : decode cX10_layCan 32 = .ok (.iload_n 3, 1) := by decide +kernel
theorem dX10_layCan_33 : decode cX10_layCan 33 = .ok (.bipush 30, 2) := by decide +kernel
theorem dX10_layCan_35 : decode cX10_layCan 35 = .ok (.irem, 1) := by decide +kernel
theorem dX10_layCan_36 : decode cX10_layCan 36 = .ok (.istore 5, 2) := by decide +kernel
theorem dX10_layCan_38 : decode cX10_layCan 38 = .ok (.iload 4, 2) := by decide +kernel
theorem dX10_layCan_40 : decode cX10_layCan 40 = .ok (.aload_n 0, 1) := by decide +kernel
theorem dX10_layCan_41 : decode cX10_layCan 41 = .ok (.iload_n 2, 1) := by decide +kernel
theorem dX10_layCan_42 : decode cX10_layCan 42 = .ok (.invokevirtual 116, 3) := by decide +kernel
theorem dX10_layCan_45 : decode cX10_layCan 45 = .ok (.isub, 1) := by decide +kernel
theorem dX10_layCan_46 : decode cX10_layCan 46 = .ok (.invokestatic 113, 3) := by decide +kernel
theorem dX10_layCan_49 : decode cX10_layCan 49 = .ok (.iload 5, 2) := by decide +kernel
theorem dX10_layCan_51 : decode cX10_layCan 51 = .ok (.aload_n 0, 1) := by decide +kernel
theorem dX10_layCan_52 : decode cX10_layCan 52 = .ok (.iload_n 2, 1) := by decide +kernel
theorem dX10_layCan_53 : decode cX10_layCan 53 = .ok (.invokevirtual 119, 3) := by decide +kernel
theorem dX10_layCan_56 : decode cX10_layCan 56 = .ok (.isub, 1) := by decide +kernel
theorem dX10_layCan_57 : decode cX10_layCan 57 = .ok (.invokestatic 113, 3) := by decide +kernel
theorem dX10_layCan_60 : decode cX10_layCan 60 = .ok (.iadd, 1) := by decide +kernel
theorem dX10_layCan_61 : decode cX10_layCan 61 = .ok (.invokestatic 228, 3) := by decide +kernel
theorem dX10_layCan_64 : decode cX10_layCan 64 = .ok (.istore 6, 2) := by decide +kernel
theorem dX10_layCan_66 : decode cX10_layCan 66 = .ok (.aload_n 0, 1) := by decide +kernel
theorem dX10_layCan_67 : decode cX10_layCan 67 = .ok (.iload_n 2, 1) := by decide +kernel
theorem dX10_layCan_68 : decode cX10_layCan 68 = .ok (.invokevirtual 110, 3) := by decide +kernel
theorem dX10_layCan_71 : decode cX10_layCan 71 = .ok (.iload 6, 2) := by decide +kernel
theorem dX10_layCan_73 : decode cX10_layCan 73 = .ok (.isub, 1) := by decide +kernel
theorem dX10_layCan_74 : decode cX10_layCan 74 = .ok (.istore 7, 2) := by decide +kernel
theorem dX10_layCan_76 : decode cX10_layCan 76 = .ok (.iload 6, 2) := by decide +kernel
theorem dX10_layCan_78 : decode cX10_layCan 78 = .ok (.bipush (-9), 2) := by decide +kernel
theorem dX10_layCan_80 : decode cX10_layCan 80 = .ok (.if_icmp .eq 18, 3) := by decide +kernel
theorem dX10_layCan_83 : decode cX10_layCan 83 = .ok (.iload 7, 2) := by decide +kernel
theorem dX10_layCan_85 : decode cX10_layCan 85 = .ok (.iconst 0, 1) := by decide +kernel
theorem dX10_layCan_86 : decode cX10_layCan 86 = .ok (.bipush 60, 2) := by decide +kernel
theorem dX10_layCan_88 : decode cX10_layCan 88 = .ok (.invokestatic 48, 3) := by decide +kernel
theorem dX10_layCan_91 : decode cX10_layCan 91 = .ok (.ifCond .eq 7, 3) := by decide +kernel
theorem dX10_layCan_94 : decode cX10_layCan 94 = .ok (.iconst 1, 1) := by decide +kernel
theorem dX10_layCan_95 : decode cX10_layCan 95 = .ok (.goto 4, 3) := by decide +kernel
theorem dX10_layCan_98 : decode cX10_layCan 98 = .ok (.iconst 0, 1) := by decide +kernel
theorem dX10_layCan_99 : decode cX10_layCan 99 = .ok (.istore 8, 2) := by decide +kernel
theorem dX10_layCan_101 : decode cX10_layCan 101 = .ok (.iconst 0, 1) := by decide +kernel
theorem dX10_layCan_102 : decode cX10_layCan 102 = .ok (.istore 9, 2) := by decide +kernel
theorem dX10_layCan_104 : decode cX10_layCan 104 = .ok (.iload 9, 2) := by decide +kernel
theorem dX10_layCan_106 : decode cX10_layCan 106 = .ok (.aload_n 0, 1) := by decide +kernel
theorem dX10_layCan_107 : decode cX10_layCan 107 = .ok (.getfield 16, 3) := by decide +kernel
theorem dX10_layCan_110 : decode cX10_layCan 110 = .ok (.iconst 0, 1) := by decide +kernel
theorem dX10_layCan_111 : decode cX10_layCan 111 = .ok (.iaload, 1) := by decide +kernel
theorem dX10_layCan_112 : decode cX10_layCan 112 = .ok (.if_icmp .ge 81, 3) := by decide +kernel
theorem dX10_layCan_115 : decode cX10_layCan 115 = .ok (.iload 8, 2) := by decide +kernel
theorem dX10_layCan_117 : decode cX10_layCan 117 = .ok (.ifCond .eq 76, 3) := by decide +kernel
theorem dX10_layCan_120 : decode cX10_layCan 120 = .ok (.iload_n 1, 1) := by decide +kernel
theorem dX10_layCan_121 : decode cX10_layCan 121 = .ok (.iload 9, 2) := by decide +kernel
theorem dX10_layCan_123 : decode cX10_layCan 123 = .ok (.invokestatic 125, 3) := by decide +kernel
theorem dX10_layCan_126 : decode cX10_layCan 126 = .ok (.ifCond .eq 54, 3) := by decide +kernel
theorem dX10_layCan_129 : decode cX10_layCan 129 = .ok (.iload 7, 2) := by decide +kernel
theorem dX10_layCan_131 : decode cX10_layCan 131 = .ok (.aload_n 0, 1) := by decide +kernel
theorem dX10_layCan_132 : decode cX10_layCan 132 = .ok (.iload 9, 2) := by decide +kernel
theorem dX10_layCan_134 : decode cX10_layCan 134 = .ok (.invokevirtual 110, 3) := by decide +kernel
theorem dX10_layCan_137 : decode cX10_layCan 137 = .ok (.if_icmp .gt 47, 3) := by decide +kernel
theorem dX10_layCan_140 : decode cX10_layCan 140 = .ok (.iload 4, 2) := by decide +kernel
theorem dX10_layCan_142 : decode cX10_layCan 142 = .ok (.aload_n 0, 1) := by decide +kernel
theorem dX10_layCan_143 : decode cX10_layCan 143 = .ok (.iload 9, 2) := by decide +kernel
theorem dX10_layCan_145 : decode cX10_layCan 145 = .ok (.invokevirtual 116, 3) := by decide +kernel
theorem dX10_layCan_148 : decode cX10_layCan 148 = .ok (.isub, 1) := by decide +kernel
theorem dX10_layCan_149 : decode cX10_layCan 149 = .ok (.invokestatic 113, 3) := by decide +kernel
theorem dX10_layCan_152 : decode cX10_layCan 152 = .ok (.iload 5, 2) := by decide +kernel
theorem dX10_layCan_154 : decode cX10_layCan 154 = .ok (.aload_n 0, 1) := by decide +kernel
theorem dX10_layCan_155 : decode cX10_layCan 155 = .ok (.iload 9, 2) := by decide +kernel
theorem dX10_layCan_157 : decode cX10_layCan 157 = .ok (.invokevirtual 119, 3) := by decide +kernel
theorem dX10_layCan_160 : decode cX10_layCan 160 = .ok (.isub, 1) := by decide +kernel
theorem dX10_layCan_161 : decode cX10_layCan 161 = .ok (.invokestatic 113, 3) := by decide +kernel
theorem dX10_layCan_164 : decode cX10_layCan 164 = .ok (.iadd, 1) := by decide +kernel
theorem dX10_layCan_165 : decode cX10_layCan 165 = .ok (.aload_n 0, 1) := by decide +kernel
theorem dX10_layCan_166 : decode cX10_layCan 166 = .ok (.iload 9, 2) := by decide +kernel
theorem dX10_layCan_168 : decode cX10_layCan 168 = .ok (.invokevirtual 110, 3) := by decide +kernel
theorem dX10_layCan_171 : decode cX10_layCan 171 = .ok (.iload 7, 2) := by decide +kernel
theorem dX10_layCan_173 : decode cX10_layCan 173 = .ok (.isub, 1) := by decide +kernel
theorem dX10_layCan_174 : decode cX10_layCan 174 = .ok (.invokestatic 113, 3) := by decide +kernel
theorem dX10_layCan_177 : decode cX10_layCan 177 = .ok (.if_icmp .ne 7, 3) := by decide +kernel
theorem dX10_layCan_180 : decode cX10_layCan 180 = .ok (.iconst 1, 1) := by decide +kernel
theorem dX10_layCan_181 : decode cX10_layCan 181 = .ok (.goto 4, 3) := by decide +kernel
theorem dX10_layCan_184 : decode cX10_layCan 184 = .ok (.iconst 0, 1) := by decide +kernel
theorem dX10_layCan_185 : decode cX10_layCan 185 = .ok (.istore 8, 2) := by decide +kernel
theorem dX10_layCan_187 : decode cX10_layCan 187 = .ok (.iinc 9 1, 3) := by decide +kernel
theorem dX10_layCan_190 : decode cX10_layCan 190 = .ok (.goto (-86), 3) := by decide +kernel
theorem dX10_layCan_193 : decode cX10_layCan 193 = .ok (.aload_n 0, 1) := by decide +kernel
theorem dX10_layCan_194 : decode cX10_layCan 194 = .ok (.iload 8, 2) := by decide +kernel
theorem dX10_layCan_196 : decode cX10_layCan 196 = .ok (.ifCond .eq 28, 3) := by decide +kernel
theorem dX10_layCan_199 : decode cX10_layCan 199 = .ok (.aload_n 0, 1) := by decide +kernel
theorem dX10_layCan_200 : decode cX10_layCan 200 = .ok (.getfield 222, 3) := by decide +kernel
theorem dX10_layCan_203 : decode cX10_layCan 203 = .ok (.ifCond .ne 21, 3) := by decide +kernel
theorem dX10_layCan_206 : decode cX10_layCan 206 = .ok (.sipush 10000, 3) := by decide +kernel
theorem dX10_layCan_209 : decode cX10_layCan 209 = .ok (.iload 4, 2) := by decide +kernel
theorem dX10_layCan_211 : decode cX10_layCan 211 = .ok (.imul, 1) := by decide +kernel
theorem dX10_layCan_212 : decode cX10_layCan 212 = .ok (.bipush 100, 2) := by decide +kernel
theorem dX10_layCan_214 : decode cX10_layCan 214 = .ok (.iload 5, 2) := by decide +kernel
theorem dX10_layCan_216 : decode cX10_layCan 216 = .ok (.imul, 1) := by decide +kernel
theorem dX10_layCan_217 : decode cX10_layCan 217 = .ok (.iadd, 1) := by decide +kernel
theorem dX10_layCan_218 : decode cX10_layCan 218 = .ok (.iload 7, 2) := by decide +kernel
theorem dX10_layCan_220 : decode cX10_layCan 220 = .ok (.iadd, 1) := by decide +kernel
theorem dX10_layCan_221 : decode cX10_layCan 221 = .ok (.goto 7, 3) := by decide +kernel
theorem dX10_layCan_224 : decode cX10_layCan 224 = .ok (.aload_n 0, 1) := by decide +kernel
theorem dX10_layCan_225 : decode cX10_layCan 225 = .ok (.getfield 225, 3) := by decide +kernel
theorem dX10_layCan_228 : decode cX10_layCan 228 = .ok (.putfield 225, 3) := by decide +kernel
theorem dX10_layCan_231 : decode cX10_layCan 231 = .ok (.aload_n 0, 1) := by decide +kernel
end
section
theorem dX10_layCan_232 : decode cX10_layCan 232 = .ok (.dup, 1) := by decide +kernel
theorem dX10_layCan_233 : decode cX10_layCan 233 = .ok (.getfield 222, 3) := by decide +kernel
theorem dX10_layCan_236 : decode cX10_layCan 236 = .ok (.iload 8, 2) := by decide +kernel
theorem dX10_layCan_238 : decode cX10_layCan 238 = .ok (.ifCond .eq 7, 3) := by decide +kernel
theorem dX10_layCan_241 : decode cX10_layCan 241 = .ok (.iconst 1, 1) := by decide +kernel
theorem dX10_layCan_242 : decode cX10_layCan 242 = .ok (.goto 4, 3) := by decide +kernel
theorem dX10_layCan_245 : decode cX10_layCan 245 = .ok (.iconst 0, 1) := by decide +kernel
theorem dX10_layCan_246 : decode cX10_layCan 246 = .ok (.iadd, 1) := by decide +kernel
theorem dX10_layCan_247 : decode cX10_layCan 247 = .ok (.putfield 222, 3) := by decide +kernel
theorem dX10_layCan_250 : decode cX10_layCan 250 = .ok (.iinc 3 1, 3) := by decide +kernel
theorem dX10_layCan_253 : decode cX10_layCan 253 = .ok (.goto (-234), 3) := by decide +kernel
theorem dX10_layCan_256 : decode cX10_layCan 256 = .ok (.return_, 1) := by decide +kernel
theorem dX10_group_0 : decode cX10_group 0 = .ok (.aload_n 0, 1) := by decide +kernel
theorem dX10_group_1 : decode cX10_group 1 = .ok (.invokevirtual 135, 3) := by decide +kernel
theorem dX10_group_4 : decode cX10_group 4 = .ok (.iload_n 1, 1) := by decide +kernel
theorem dX10_group_5 : decode cX10_group 5 = .ok (.iconst 0, 1) := by decide +kernel
theorem dX10_group_6 : decode cX10_group 6 = .ok (.aload_n 0, 1) := by decide +kernel
theorem dX10_group_7 : decode cX10_group 7 = .ok (.getfield 122, 3) := by decide +kernel
theorem dX10_group_10 : decode cX10_group 10 = .ok (.iconst 1, 1) := by decide +kernel
theorem dX10_group_11 : decode cX10_group 11 = .ok (.isub, 1) := by decide +kernel
theorem dX10_group_12 : decode cX10_group 12 = .ok (.invokestatic 48, 3) := by decide +kernel
theorem dX10_group_15 : decode cX10_group 15 = .ok (.ifCond .eq 13, 3) := by decide +kernel
theorem dX10_group_18 : decode cX10_group 18 = .ok (.iload_n 2, 1) := by decide +kernel
theorem dX10_group_19 : decode cX10_group 19 = .ok (.iconst 0, 1) := by decide +kernel
theorem dX10_group_20 : decode cX10_group 20 = .ok (.bipush 7, 2) := by decide +kernel
theorem dX10_group_22 : decode cX10_group 22 = .ok (.invokestatic 48, 3) := by decide +kernel
theorem dX10_group_25 : decode cX10_group 25 = .ok (.ifCond .ne 5, 3) := by decide +kernel
theorem dX10_group_28 : decode cX10_group 28 = .ok (.iconst (-1), 1) := by decide +kernel
theorem dX10_group_29 : decode cX10_group 29 = .ok (.ireturn, 1) := by decide +kernel
theorem dX10_group_30 : decode cX10_group 30 = .ok (.aload_n 0, 1) := by decide +kernel
theorem dX10_group_31 : decode cX10_group 31 = .ok (.getfield 41, 3) := by decide +kernel
theorem dX10_group_34 : decode cX10_group 34 = .ok (.iload_n 1, 1) := by decide +kernel
theorem dX10_group_35 : decode cX10_group 35 = .ok (.iaload, 1) := by decide +kernel
theorem dX10_group_36 : decode cX10_group 36 = .ok (.istore_n 3, 1) := by decide +kernel
theorem dX10_group_37 : decode cX10_group 37 = .ok (.iload_n 2, 1) := by decide +kernel
theorem dX10_group_38 : decode cX10_group 38 = .ok (.tableswitch 98 0 6 #[42, 44, 50, 56, 62, 68, 88], 42) := by decide +kernel
theorem dX10_group_80 : decode cX10_group 80 = .ok (.iload_n 3, 1) := by decide +kernel
theorem dX10_group_81 : decode cX10_group 81 = .ok (.ireturn, 1) := by decide +kernel
theorem dX10_group_82 : decode cX10_group 82 = .ok (.aload_n 0, 1) := by decide +kernel
theorem dX10_group_83 : decode cX10_group 83 = .ok (.iload_n 3, 1) := by decide +kernel
theorem dX10_group_84 : decode cX10_group 84 = .ok (.invokevirtual 191, 3) := by decide +kernel
theorem dX10_group_87 : decode cX10_group 87 = .ok (.ireturn, 1) := by decide +kernel
theorem dX10_group_88 : decode cX10_group 88 = .ok (.aload_n 0, 1) := by decide +kernel
theorem dX10_group_89 : decode cX10_group 89 = .ok (.iload_n 3, 1) := by decide +kernel
theorem dX10_group_90 : decode cX10_group 90 = .ok (.invokevirtual 207, 3) := by decide +kernel
theorem dX10_group_93 : decode cX10_group 93 = .ok (.ireturn, 1) := by decide +kernel
theorem dX10_group_94 : decode cX10_group 94 = .ok (.aload_n 0, 1) := by decide +kernel
theorem dX10_group_95 : decode cX10_group 95 = .ok (.iload_n 3, 1) := by decide +kernel
theorem dX10_group_96 : decode cX10_group 96 = .ok (.invokevirtual 231, 3) := by decide +kernel
theorem dX10_group_99 : decode cX10_group 99 = .ok (.ireturn, 1) := by decide +kernel
theorem dX10_group_100 : decode cX10_group 100 = .ok (.aload_n 0, 1) := by decide +kernel
theorem dX10_group_101 : decode cX10_group 101 = .ok (.iload_n 3, 1) := by decide +kernel
theorem dX10_group_102 : decode cX10_group 102 = .ok (.invokevirtual 234, 3) := by decide +kernel
theorem dX10_group_105 : decode cX10_group 105 = .ok (.ireturn, 1) := by decide +kernel
theorem dX10_group_106 : decode cX10_group 106 = .ok (.aload_n 0, 1) := by decide +kernel
theorem dX10_group_107 : decode cX10_group 107 = .ok (.iload_n 3, 1) := by decide +kernel
theorem dX10_group_108 : decode cX10_group 108 = .ok (.invokevirtual 234, 3) := by decide +kernel
theorem dX10_group_111 : decode cX10_group 111 = .ok (.bipush (-9), 2) := by decide +kernel
theorem dX10_group_113 : decode cX10_group 113 = .ok (.if_icmp .ne 8, 3) := by decide +kernel
theorem dX10_group_116 : decode cX10_group 116 = .ok (.bipush (-9), 2) := by decide +kernel
theorem dX10_group_118 : decode cX10_group 118 = .ok (.goto 7, 3) := by decide +kernel
theorem dX10_group_121 : decode cX10_group 121 = .ok (.aload_n 0, 1) := by decide +kernel
theorem dX10_group_122 : decode cX10_group 122 = .ok (.getfield 219, 3) := by decide +kernel
theorem dX10_group_125 : decode cX10_group 125 = .ok (.ireturn, 1) := by decide +kernel
theorem dX10_group_126 : decode cX10_group 126 = .ok (.aload_n 0, 1) := by decide +kernel
theorem dX10_group_127 : decode cX10_group 127 = .ok (.iload_n 3, 1) := by decide +kernel
theorem dX10_group_128 : decode cX10_group 128 = .ok (.invokevirtual 237, 3) := by decide +kernel
theorem dX10_group_131 : decode cX10_group 131 = .ok (.aload_n 0, 1) := by decide +kernel
theorem dX10_group_132 : decode cX10_group 132 = .ok (.getfield 222, 3) := by decide +kernel
theorem dX10_group_135 : decode cX10_group 135 = .ok (.ireturn, 1) := by decide +kernel
theorem dX10_group_136 : decode cX10_group 136 = .ok (.aload_n 0, 1) := by decide +kernel
theorem dX10_group_137 : decode cX10_group 137 = .ok (.iload_n 3, 1) := by decide +kernel
theorem dX10_group_138 : decode cX10_group 138 = .ok (.invokevirtual 237, 3) := by decide +kernel
theorem dX10_group_141 : decode cX10_group 141 = .ok (.aload_n 0, 1) := by decide +kernel
theorem dX10_group_142 : decode cX10_group 142 = .ok (.getfield 225, 3) := by decide +kernel
theorem dX10_group_145 : decode cX10_group 145 = .ok (.ireturn, 1) := by decide +kernel
theorem dX10_lowest_0 : decode cX10_lowest 0 = .ok (.lload_n 0, 1) := by decide +kernel
theorem dX10_lowest_1 : decode cX10_lowest 1 = .ok (.lconst 0, 1) := by decide +kernel
theorem dX10_lowest_2 : decode cX10_lowest 2 = .ok (.lcmp, 1) := by decide +kernel
theorem dX10_lowest_3 : decode cX10_lowest 3 = .ok (.ifCond .ge 8, 3) := by decide +kernel
theorem dX10_lowest_6 : decode cX10_lowest 6 = .ok (.lload_n 0, 1) := by decide +kernel
theorem dX10_lowest_7 : decode cX10_lowest 7 = .ok (.lneg, 1) := by decide +kernel
theorem dX10_lowest_8 : decode cX10_lowest 8 = .ok (.goto 4, 3) := by decide +kernel
theorem dX10_lowest_11 : decode cX10_lowest 11 = .ok (.lload_n 0, 1) := by decide +kernel
theorem dX10_lowest_12 : decode cX10_lowest 12 = .ok (.lstore 5, 2) := by decide +kernel
theorem dX10_lowest_14 : decode cX10_lowest 14 = .ok (.lload_n 2, 1) := by decide +kernel
theorem dX10_lowest_15 : decode cX10_lowest 15 = .ok (.lstore 7, 2) := by decide +kernel
theorem dX10_lowest_17 : decode cX10_lowest 17 = .ok (.lload 7, 2) := by decide +kernel
theorem dX10_lowest_19 : decode cX10_lowest 19 = .ok (.lconst 0, 1) := by decide +kernel
theorem dX10_lowest_20 : decode cX10_lowest 20 = .ok (.lcmp, 1) := by decide +kernel
theorem dX10_lowest_21 : decode cX10_lowest 21 = .ok (.ifCond .eq 21, 3) := by decide +kernel
theorem dX10_lowest_24 : decode cX10_lowest 24 = .ok (.lload 5, 2) := by decide +kernel
theorem dX10_lowest_26 : decode cX10_lowest 26 = .ok (.lload 7, 2) := by decide +kernel
theorem dX10_lowest_28 : decode cX10_lowest 28 = .ok (.lrem, 1) := by decide +kernel
theorem dX10_lowest_29 : decode cX10_lowest 29 = .ok (.lstore 9, 2) := by decide +kernel
theorem dX10_lowest_31 : decode cX10_lowest 31 = .ok (.lload 7, 2) := by decide +kernel
theorem dX10_lowest_33 : decode cX10_lowest 33 = .ok (.lstore 5, 2) := by decide +kernel
theorem dX10_lowest_35 : decode cX10_lowest 35 = .ok (.lload 9, 2) := by decide +kernel
theorem dX10_lowest_37 : decode cX10_lowest 37 = .ok (.lstore 7, 2) := by decide +kernel
theorem dX10_lowest_39 : decode cX10_lowest 39 = .ok (.goto (-22), 3) := by decide +kernel
theorem dX10_lowest_42 : decode cX10_lowest 42 = .ok (.iload 4, 2) := by decide +kernel
theorem dX10_lowest_44 : decode cX10_lowest 44 = .ok (.ifCond .eq 10, 3) := by decide +kernel
theorem dX10_lowest_47 : decode cX10_lowest 47 = .ok (.lload_n 0, 1) := by decide +kernel
theorem dX10_lowest_48 : decode cX10_lowest 48 = .ok (.lload 5, 2) := by decide +kernel
theorem dX10_lowest_50 : decode cX10_lowest 50 = .ok (.ldiv, 1) := by decide +kernel
theorem dX10_lowest_51 : decode cX10_lowest 51 = .ok (.goto 7, 3) := by decide +kernel
theorem dX10_lowest_54 : decode cX10_lowest 54 = .ok (.lload_n 2, 1) := by decide +kernel
theorem dX10_lowest_55 : decode cX10_lowest 55 = .ok (.lload 5, 2) := by decide +kernel
theorem dX10_lowest_57 : decode cX10_lowest 57 = .ok (.ldiv, 1) := by decide +kernel
theorem dX10_lowest_58 : decode cX10_lowest 58 = .ok (.l2i, 1) := by decide +kernel
theorem dX10_lowest_59 : decode cX10_lowest 59 = .ok (.ireturn, 1) := by decide +kernel
theorem dX10_place_0 : decode cX10_place 0 = .ok (.aload_n 0, 1) := by decide +kernel
theorem dX10_place_1 : decode cX10_place 1 = .ok (.invokevirtual 135, 3) := by decide +kernel
theorem dX10_place_4 : decode cX10_place 4 = .ok (.iload_n 1, 1) := by decide +kernel
theorem dX10_place_5 : decode cX10_place 5 = .ok (.iconst 0, 1) := by decide +kernel
theorem dX10_place_6 : decode cX10_place 6 = .ok (.aload_n 0, 1) := by decide +kernel
theorem dX10_place_7 : decode cX10_place 7 = .ok (.getfield 122, 3) := by decide +kernel
theorem dX10_place_10 : decode cX10_place 10 = .ok (.iconst 1, 1) := by decide +kernel
theorem dX10_place_11 : decode cX10_place 11 = .ok (.isub, 1) := by decide +kernel
theorem dX10_place_12 : decode cX10_place 12 = .ok (.invokestatic 48, 3) := by decide +kernel
theorem dX10_place_15 : decode cX10_place 15 = .ok (.ifCond .eq 25, 3) := by decide +kernel
theorem dX10_place_18 : decode cX10_place 18 = .ok (.iload_n 2, 1) := by decide +kernel
theorem dX10_place_19 : decode cX10_place 19 = .ok (.iconst 0, 1) := by decide +kernel
theorem dX10_place_20 : decode cX10_place 20 = .ok (.iconst 5, 1) := by decide +kernel
theorem dX10_place_21 : decode cX10_place 21 = .ok (.invokestatic 48, 3) := by decide +kernel
theorem dX10_place_24 : decode cX10_place 24 = .ok (.ifCond .eq 16, 3) := by decide +kernel
theorem dX10_place_27 : decode cX10_place 27 = .ok (.aload_n 0, 1) := by decide +kernel
theorem dX10_place_28 : decode cX10_place 28 = .ok (.aload_n 0, 1) := by decide +kernel
theorem dX10_place_29 : decode cX10_place 29 = .ok (.getfield 41, 3) := by decide +kernel
theorem dX10_place_32 : decode cX10_place 32 = .ok (.iload_n 1, 1) := by decide +kernel
theorem dX10_place_33 : decode cX10_place 33 = .ok (.iaload, 1) := by decide +kernel
theorem dX10_place_34 : decode cX10_place 34 = .ok (.invokevirtual 207, 3) := by decide +kernel
theorem dX10_place_37 : decode cX10_place 37 = .ok (.ifCond .eq 6, 3) := by decide +kernel
theorem dX10_place_40 : decode cX10_place 40 = .ok (.ldc 144, 2) := by decide +kernel
theorem dX10_place_42 : decode cX10_place 42 = .ok (.ireturn, 1) := by decide +kernel
theorem dX10_place_43 : decode cX10_place 43 = .ok (.iload_n 2, 1) := by decide +kernel
theorem dX10_place_44 : decode cX10_place 44 = .ok (.iconst 2, 1) := by decide +kernel
theorem dX10_place_45 : decode cX10_place 45 = .ok (.if_icmp .ge 10, 3) := by decide +kernel
theorem dX10_place_48 : decode cX10_place 48 = .ok (.aload_n 0, 1) := by decide +kernel
theorem dX10_place_49 : decode cX10_place 49 = .ok (.getfield 182, 3) := by decide +kernel
theorem dX10_place_52 : decode cX10_place 52 = .ok (.goto 19, 3) := by decide +kernel
theorem dX10_place_55 : decode cX10_place 55 = .ok (.iload_n 2, 1) := by decide +kernel
theorem dX10_place_56 : decode cX10_place 56 = .ok (.iconst 4, 1) := by decide +kernel
theorem dX10_place_57 : decode cX10_place 57 = .ok (.if_icmp .ge 10, 3) := by decide +kernel
theorem dX10_place_60 : decode cX10_place 60 = .ok (.aload_n 0, 1) := by decide +kernel
theorem dX10_place_61 : decode cX10_place 61 = .ok (.getfield 185, 3) := by decide +kernel
theorem dX10_place_64 : decode cX10_place 64 = .ok (.goto 7, 3) := by decide +kernel
theorem dX10_place_67 : decode cX10_place 67 = .ok (.aload_n 0, 1) := by decide +kernel
theorem dX10_place_68 : decode cX10_place 68 = .ok (.getfield 188, 3) := by decide +kernel
theorem dX10_place_71 : decode cX10_place 71 = .ok (.aload_n 0, 1) := by decide +kernel
theorem dX10_place_72 : decode cX10_place 72 = .ok (.getfield 178, 3) := by decide +kernel
theorem dX10_place_75 : decode cX10_place 75 = .ok (.iload_n 2, 1) := by decide +kernel
theorem dX10_place_76 : decode cX10_place 76 = .ok (.iconst 2, 1) := by decide +kernel
theorem dX10_place_77 : decode cX10_place 77 = .ok (.irem, 1) := by decide +kernel
theorem dX10_place_78 : decode cX10_place 78 = .ok (.ifCond .ne 7, 3) := by decide +kernel
theorem dX10_place_81 : decode cX10_place 81 = .ok (.iconst 1, 1) := by decide +kernel
theorem dX10_place_82 : decode cX10_place 82 = .ok (.goto 4, 3) := by decide +kernel
theorem dX10_place_85 : decode cX10_place 85 = .ok (.iconst 0, 1) := by decide +kernel
theorem dX10_place_86 : decode cX10_place 86 = .ok (.invokestatic 240, 3) := by decide +kernel
theorem dX10_place_89 : decode cX10_place 89 = .ok (.ireturn, 1) := by decide +kernel
theorem dX10_due_0 : decode cX10_due 0 = .ok (.aload_n 0, 1) := by decide +kernel
theorem dX10_due_1 : decode cX10_due 1 = .ok (.iload_n 1, 1) := by decide +kernel
theorem dX10_due_2 : decode cX10_due 2 = .ok (.invokevirtual 138, 3) := by decide +kernel
theorem dX10_due_5 : decode cX10_due 5 = .ok (.ifCond .eq 44, 3) := by decide +kernel
theorem dX10_due_8 : decode cX10_due 8 = .ok (.iload_n 2, 1) := by decide +kernel
theorem dX10_due_9 : decode cX10_due 9 = .ok (.iconst 0, 1) := by decide +kernel
theorem dX10_due_10 : decode cX10_due 10 = .ok (.bipush 29, 2) := by decide +kernel
theorem dX10_due_12 : decode cX10_due 12 = .ok (.invokestatic 48, 3) := by decide +kernel
theorem dX10_due_15 : decode cX10_due 15 = .ok (.ifCond .eq 34, 3) := by decide +kernel
theorem dX10_due_18 : decode cX10_due 18 = .ok (.iload_n 3, 1) := by decide +kernel
theorem dX10_due_19 : decode cX10_due 19 = .ok (.iconst 0, 1) := by decide +kernel
theorem dX10_due_20 : decode cX10_due 20 = .ok (.bipush 29, 2) := by decide +kernel
theorem dX10_due_22 : decode cX10_due 22 = .ok (.invokestatic 48, 3) := by decide +kernel
theorem dX10_due_25 : decode cX10_due 25 = .ok (.ifCond .eq 24, 3) := by decide +kernel
theorem dX10_due_28 : decode cX10_due 28 = .ok (.iload 4, 2) := by decide +kernel
theorem dX10_due_30 : decode cX10_due 30 = .ok (.iconst 0, 1) := by decide +kernel
theorem dX10_due_31 : decode cX10_due 31 = .ok (.bipush 60, 2) := by decide +kernel
theorem dX10_due_33 : decode cX10_due 33 = .ok (.invokestatic 48, 3) := by decide +kernel
theorem dX10_due_36 : decode cX10_due 36 = .ok (.ifCond .eq 13, 3) := by decide +kernel
theorem dX10_due_39 : decode cX10_due 39 = .ok (.iload 5, 2) := by decide +kernel
theorem dX10_due_41 : decode cX10_due 41 = .ok (.iconst 0, 1) := by decide +kernel
theorem dX10_due_42 : decode cX10_due 42 = .ok (.iconst 1, 1) := by decide +kernel
theorem dX10_due_43 : decode cX10_due 43 = .ok (.invokestatic 48, 3) := by decide +kernel
theorem dX10_due_46 : decode cX10_due 46 = .ok (.ifCond .ne 5, 3) := by decide +kernel
theorem dX10_due_49 : decode cX10_due 49 = .ok (.iconst (-1), 1) := by decide +kernel
theorem dX10_due_50 : decode cX10_due 50 = .ok (.ireturn, 1) := by decide +kernel
theorem dX10_due_51 : decode cX10_due 51 = .ok (.iload_n 2, 1) := by decide +kernel
theorem dX10_due_52 : decode cX10_due 52 = .ok (.aload_n 0, 1) := by decide +kernel
theorem dX10_due_53 : decode cX10_due 53 = .ok (.getfield 7, 3) := by decide +kernel
theorem dX10_due_56 : decode cX10_due 56 = .ok (.iload_n 1, 1) := by decide +kernel
theorem dX10_due_57 : decode cX10_due 57 = .ok (.iaload, 1) := by decide +kernel
theorem dX10_due_58 : decode cX10_due 58 = .ok (.isub, 1) := by decide +kernel
theorem dX10_due_59 : decode cX10_due 59 = .ok (.invokestatic 113, 3) := by decide +kernel
theorem dX10_due_62 : decode cX10_due 62 = .ok (.iload_n 3, 1) := by decide +kernel
theorem dX10_due_63 : decode cX10_due 63 = .ok (.aload_n 0, 1) := by decide +kernel
theorem dX10_due_64 : decode cX10_due 64 = .ok (.getfield 13, 3) := by decide +kernel
theorem dX10_due_67 : decode cX10_due 67 = .ok (.iload_n 1, 1) := by decide +kernel
theorem dX10_due_68 : decode cX10_due 68 = .ok (.iaload, 1) := by decide +kernel
theorem dX10_due_69 : decode cX10_due 69 = .ok (.isub, 1) := by decide +kernel
theorem dX10_due_70 : decode cX10_due 70 = .ok (.invokestatic 113, 3) := by decide +kernel
theorem dX10_due_73 : decode cX10_due 73 = .ok (.iadd, 1) := by decide +kernel
theorem dX10_due_74 : decode cX10_due 74 = .ok (.invokestatic 228, 3) := by decide +kernel
theorem dX10_due_77 : decode cX10_due 77 = .ok (.istore 6, 2) := by decide +kernel
theorem dX10_due_79 : decode cX10_due 79 = .ok (.iload 6, 2) := by decide +kernel
theorem dX10_due_81 : decode cX10_due 81 = .ok (.bipush (-9), 2) := by decide +kernel
theorem dX10_due_83 : decode cX10_due 83 = .ok (.if_icmp .eq 8, 3) := by decide +kernel
theorem dX10_due_86 : decode cX10_due 86 = .ok (.iload 5, 2) := by decide +kernel
theorem dX10_due_88 : decode cX10_due 88 = .ok (.ifCond .ne 21, 3) := by decide +kernel
theorem dX10_due_91 : decode cX10_due 91 = .ok (.iload 6, 2) := by decide +kernel
theorem dX10_due_93 : decode cX10_due 93 = .ok (.bipush (-9), 2) := by decide +kernel
theorem dX10_due_95 : decode cX10_due 95 = .ok (.if_icmp .ne 8, 3) := by decide +kernel
theorem dX10_due_98 : decode cX10_due 98 = .ok (.bipush (-9), 2) := by decide +kernel
theorem dX10_due_100 : decode cX10_due 100 = .ok (.goto 8, 3) := by decide +kernel
theorem dX10_due_103 : decode cX10_due 103 = .ok (.iload 4, 2) := by decide +kernel
theorem dX10_due_105 : decode cX10_due 105 = .ok (.iload 6, 2) := by decide +kernel
theorem dX10_due_107 : decode cX10_due 107 = .ok (.iadd, 1) := by decide +kernel
theorem dX10_due_108 : decode cX10_due 108 = .ok (.ireturn, 1) := by decide +kernel
theorem dX10_due_109 : decode cX10_due 109 = .ok (.iload 4, 2) := by decide +kernel
theorem dX10_due_111 : decode cX10_due 111 = .ok (.iload 6, 2) := by decide +kernel
theorem dX10_due_113 : decode cX10_due 113 = .ok (.iadd, 1) := by decide +kernel
theorem dX10_due_114 : decode cX10_due 114 = .ok (.istore 7, 2) := by decide +kernel
theorem dX10_due_116 : decode cX10_due 116 = .ok (.aload_n 0, 1) := by decide +kernel
theorem dX10_due_117 : decode cX10_due 117 = .ok (.getfield 16, 3) := by decide +kernel
theorem dX10_due_120 : decode cX10_due 120 = .ok (.iconst 1, 1) := by decide +kernel
theorem dX10_due_121 : decode cX10_due 121 = .ok (.iload_n 1, 1) := by decide +kernel
theorem dX10_due_122 : decode cX10_due 122 = .ok (.iadd, 1) := by decide +kernel
theorem dX10_due_123 : decode cX10_due 123 = .ok (.iaload, 1) := by decide +kernel
theorem dX10_due_124 : decode cX10_due 124 = .ok (.istore 8, 2) := by decide +kernel
theorem dX10_due_126 : decode cX10_due 126 = .ok (.iload 8, 2) := by decide +kernel
theorem dX10_due_128 : decode cX10_due 128 = .ok (.iconst 1, 1) := by decide +kernel
theorem dX10_due_129 : decode cX10_due 129 = .ok (.if_icmp .ne 10, 3) := by decide +kernel
theorem dX10_due_132 : decode cX10_due 132 = .ok (.iload 7, 2) := by decide +kernel
theorem dX10_due_134 : decode cX10_due 134 = .ok (.iconst 3, 1) := by decide +kernel
theorem dX10_due_135 : decode cX10_due 135 = .ok (.iadd, 1) := by decide +kernel
theorem dX10_due_136 : decode cX10_due 136 = .ok (.goto 45, 3) := by decide +kernel
theorem dX10_due_139 : decode cX10_due 139 = .ok (.iload 8, 2) := by decide +kernel
theorem dX10_due_141 : decode cX10_due 141 = .ok (.iconst 2, 1) := by decide +kernel
theorem dX10_due_142 : decode cX10_due 142 = .ok (.if_icmp .ne 10, 3) := by decide +kernel
theorem dX10_due_145 : decode cX10_due 145 = .ok (.iload 7, 2) := by decide +kernel
theorem dX10_due_147 : decode cX10_due 147 = .ok (.iconst 3, 1) := by decide +kernel
theorem dX10_due_148 : decode cX10_due 148 = .ok (.isub, 1) := by decide +kernel
theorem dX10_due_149 : decode cX10_due 149 = .ok (.goto 32, 3) := by decide +kernel
theorem dX10_due_152 : decode cX10_due 152 = .ok (.iload 8, 2) := by decide +kernel
theorem dX10_due_154 : decode cX10_due 154 = .ok (.iconst 3, 1) := by decide +kernel
theorem dX10_due_155 : decode cX10_due 155 = .ok (.if_icmp .ne 10, 3) := by decide +kernel
theorem dX10_due_158 : decode cX10_due 158 = .ok (.iconst 2, 1) := by decide +kernel
theorem dX10_due_159 : decode cX10_due 159 = .ok (.iload 7, 2) := by decide +kernel
theorem dX10_due_161 : decode cX10_due 161 = .ok (.imul, 1) := by decide +kernel
theorem dX10_due_162 : decode cX10_due 162 = .ok (.goto 19, 3) := by decide +kernel
theorem dX10_due_165 : decode cX10_due 165 = .ok (.iload 8, 2) := by decide +kernel
theorem dX10_due_167 : decode cX10_due 167 = .ok (.iconst 4, 1) := by decide +kernel
theorem dX10_due_168 : decode cX10_due 168 = .ok (.if_icmp .ne 11, 3) := by decide +kernel
theorem dX10_due_171 : decode cX10_due 171 = .ok (.bipush 60, 2) := by decide +kernel
theorem dX10_due_173 : decode cX10_due 173 = .ok (.iload 7, 2) := by decide +kernel
theorem dX10_due_175 : decode cX10_due 175 = .ok (.isub, 1) := by decide +kernel
theorem dX10_due_176 : decode cX10_due 176 = .ok (.goto 5, 3) := by decide +kernel
theorem dX10_due_179 : decode cX10_due 179 = .ok (.iload 7, 2) := by decide +kernel
theorem dX10_due_181 : decode cX10_due 181 = .ok (.istore 9, 2) := by decide +kernel
theorem dX10_due_183 : decode cX10_due 183 = .ok (.iload 9, 2) := by decide +kernel
theorem dX10_due_185 : decode cX10_due 185 = .ok (.iconst 0, 1) := by decide +kernel
theorem dX10_due_186 : decode cX10_due 186 = .ok (.bipush 60, 2) := by decide +kernel
theorem dX10_due_188 : decode cX10_due 188 = .ok (.invokestatic 48, 3) := by decide +kernel
theorem dX10_due_191 : decode cX10_due 191 = .ok (.ifCond .eq 8, 3) := by decide +kernel
theorem dX10_due_194 : decode cX10_due 194 = .ok (.iload 9, 2) := by decide +kernel
theorem dX10_due_196 : decode cX10_due 196 = .ok (.goto 5, 3) := by decide +kernel
theorem dX10_due_199 : decode cX10_due 199 = .ok (.bipush (-9), 2) := by decide +kernel
theorem dX10_due_201 : decode cX10_due 201 = .ok (.ireturn, 1) := by decide +kernel
theorem dX10_odds_0 : decode cX10_odds 0 = .ok (.aload_n 0, 1) := by decide +kernel
theorem dX10_odds_1 : decode cX10_odds 1 = .ok (.invokevirtual 135, 3) := by decide +kernel
theorem dX10_odds_4 : decode cX10_odds 4 = .ok (.iload_n 1, 1) := by decide +kernel
theorem dX10_odds_5 : decode cX10_odds 5 = .ok (.iconst 0, 1) := by decide +kernel
theorem dX10_odds_6 : decode cX10_odds 6 = .ok (.aload_n 0, 1) := by decide +kernel
theorem dX10_odds_7 : decode cX10_odds 7 = .ok (.getfield 122, 3) := by decide +kernel
theorem dX10_odds_10 : decode cX10_odds 10 = .ok (.iconst 1, 1) := by decide +kernel
theorem dX10_odds_11 : decode cX10_odds 11 = .ok (.isub, 1) := by decide +kernel
theorem dX10_odds_12 : decode cX10_odds 12 = .ok (.invokestatic 48, 3) := by decide +kernel
theorem dX10_odds_15 : decode cX10_odds 15 = .ok (.ifCond .eq 22, 3) := by decide +kernel
theorem dX10_odds_18 : decode cX10_odds 18 = .ok (.iload_n 2, 1) := by decide +kernel
theorem dX10_odds_19 : decode cX10_odds 19 = .ok (.iconst 0, 1) := by decide +kernel
theorem dX10_odds_20 : decode cX10_odds 20 = .ok (.bipush 10, 2) := by decide +kernel
theorem dX10_odds_22 : decode cX10_odds 22 = .ok (.invokestatic 48, 3) := by decide +kernel
theorem dX10_odds_25 : decode cX10_odds 25 = .ok (.ifCond .eq 12, 3) := by decide +kernel
theorem dX10_odds_28 : decode cX10_odds 28 = .ok (.iload_n 3, 1) := by decide +kernel
theorem dX10_odds_29 : decode cX10_odds 29 = .ok (.iconst 0, 1) := by decide +kernel
theorem dX10_odds_30 : decode cX10_odds 30 = .ok (.iconst 1, 1) := by decide +kernel
theorem dX10_odds_31 : decode cX10_odds 31 = .ok (.invokestatic 48, 3) := by decide +kernel
theorem dX10_odds_34 : decode cX10_odds 34 = .ok (.ifCond .ne 5, 3) := by decide +kernel
theorem dX10_odds_37 : decode cX10_odds 37 = .ok (.iconst (-1), 1) := by decide +kernel
theorem dX10_odds_38 : decode cX10_odds 38 = .ok (.ireturn, 1) := by decide +kernel
theorem dX10_odds_39 : decode cX10_odds 39 = .ok (.aload_n 0, 1) := by decide +kernel
theorem dX10_odds_40 : decode cX10_odds 40 = .ok (.getfield 41, 3) := by decide +kernel
theorem dX10_odds_43 : decode cX10_odds 43 = .ok (.iload_n 1, 1) := by decide +kernel
theorem dX10_odds_44 : decode cX10_odds 44 = .ok (.iaload, 1) := by decide +kernel
theorem dX10_odds_45 : decode cX10_odds 45 = .ok (.istore 4, 2) := by decide +kernel
theorem dX10_odds_47 : decode cX10_odds 47 = .ok (.lconst 1, 1) := by decide +kernel
theorem dX10_odds_48 : decode cX10_odds 48 = .ok (.lstore 5, 2) := by decide +kernel
theorem dX10_odds_50 : decode cX10_odds 50 = .ok (.lconst 0, 1) := by decide +kernel
theorem dX10_odds_51 : decode cX10_odds 51 = .ok (.lstore 7, 2) := by decide +kernel
theorem dX10_odds_53 : decode cX10_odds 53 = .ok (.iconst 0, 1) := by decide +kernel
theorem dX10_odds_54 : decode cX10_odds 54 = .ok (.istore 9, 2) := by decide +kernel
theorem dX10_odds_56 : decode cX10_odds 56 = .ok (.iload 9, 2) := by decide +kernel
theorem dX10_odds_58 : decode cX10_odds 58 = .ok (.iload 4, 2) := by decide +kernel
theorem dX10_odds_60 : decode cX10_odds 60 = .ok (.invokestatic 210, 3) := by decide +kernel
theorem dX10_odds_63 : decode cX10_odds 63 = .ok (.if_icmp .ge 17, 3) := by decide +kernel
theorem dX10_odds_66 : decode cX10_odds 66 = .ok (.lload 5, 2) := by decide +kernel
theorem dX10_odds_68 : decode cX10_odds 68 = .ok (.ldc2_w 244, 3) := by decide +kernel
theorem dX10_odds_71 : decode cX10_odds 71 = .ok (.lmul, 1) := by decide +kernel
theorem dX10_odds_72 : decode cX10_odds 72 = .ok (.lstore 5, 2) := by decide +kernel
theorem dX10_odds_74 : decode cX10_odds 74 = .ok (.iinc 9 1, 3) := by decide +kernel
theorem dX10_odds_77 : decode cX10_odds 77 = .ok (.goto (-21), 3) := by decide +kernel
theorem dX10_odds_80 : decode cX10_odds 80 = .ok (.iload 4, 2) := by decide +kernel
theorem dX10_odds_82 : decode cX10_odds 82 = .ok (.istore 9, 2) := by decide +kernel
theorem dX10_odds_84 : decode cX10_odds 84 = .ok (.iload 9, 2) := by decide +kernel
theorem dX10_odds_86 : decode cX10_odds 86 = .ok (.ifCond .le 104, 3) := by decide +kernel
theorem dX10_odds_89 : decode cX10_odds 89 = .ok (.lconst 1, 1) := by decide +kernel
theorem dX10_odds_90 : decode cX10_odds 90 = .ok (.lstore 10, 2) := by decide +kernel
theorem dX10_odds_92 : decode cX10_odds 92 = .ok (.iconst 0, 1) := by decide +kernel
theorem dX10_odds_93 : decode cX10_odds 93 = .ok (.istore 12, 2) := by decide +kernel
theorem dX10_odds_95 : decode cX10_odds 95 = .ok (.iload 12, 2) := by decide +kernel
theorem dX10_odds_97 : decode cX10_odds 97 = .ok (.aload_n 0, 1) := by decide +kernel
theorem dX10_odds_98 : decode cX10_odds 98 = .ok (.getfield 16, 3) := by decide +kernel
theorem dX10_odds_101 : decode cX10_odds 101 = .ok (.iconst 0, 1) := by decide +kernel
theorem dX10_odds_102 : decode cX10_odds 102 = .ok (.iaload, 1) := by decide +kernel
theorem dX10_odds_103 : decode cX10_odds 103 = .ok (.if_icmp .ge 48, 3) := by decide +kernel
theorem dX10_odds_106 : decode cX10_odds 106 = .ok (.lload 10, 2) := by decide +kernel
theorem dX10_odds_108 : decode cX10_odds 108 = .ok (.iload 4, 2) := by decide +kernel
theorem dX10_odds_110 : decode cX10_odds 110 = .ok (.iload 12, 2) := by decide +kernel
theorem dX10_odds_112 : decode cX10_odds 112 = .ok (.invokestatic 125, 3) := by decide +kernel
theorem dX10_odds_115 : decode cX10_odds 115 = .ok (.ifCond .ne 7, 3) := by decide +kernel
theorem dX10_odds_118 : decode cX10_odds 118 = .ok (.lconst 1, 1) := by decide +kernel
theorem dX10_odds_119 : decode cX10_odds 119 = .ok (.goto 23, 3) := by decide +kernel
theorem dX10_odds_122 : decode cX10_odds 122 = .ok (.iload 9, 2) := by decide +kernel
theorem dX10_odds_124 : decode cX10_odds 124 = .ok (.iload 12, 2) := by decide +kernel
theorem dX10_odds_126 : decode cX10_odds 126 = .ok (.invokestatic 125, 3) := by decide +kernel
theorem dX10_odds_129 : decode cX10_odds 129 = .ok (.ifCond .eq 11, 3) := by decide +kernel
theorem dX10_odds_132 : decode cX10_odds 132 = .ok (.bipush 10, 2) := by decide +kernel
theorem dX10_odds_134 : decode cX10_odds 134 = .ok (.iload_n 2, 1) := by decide +kernel
theorem dX10_odds_135 : decode cX10_odds 135 = .ok (.isub, 1) := by decide +kernel
theorem dX10_odds_136 : decode cX10_odds 136 = .ok (.i2l, 1) := by decide +kernel
theorem dX10_odds_137 : decode cX10_odds 137 = .ok (.goto 5, 3) := by decide +kernel
theorem dX10_odds_140 : decode cX10_odds 140 = .ok (.iload_n 2, 1) := by decide +kernel
theorem dX10_odds_141 : decode cX10_odds 141 = .ok (.i2l, 1) := by decide +kernel
theorem dX10_odds_142 : decode cX10_odds 142 = .ok (.lmul, 1) := by decide +kernel
theorem dX10_odds_143 : decode cX10_odds 143 = .ok (.lstore 10, 2) := by decide +kernel
theorem dX10_odds_145 : decode cX10_odds 145 = .ok (.iinc 12 1, 3) := by decide +kernel
theorem dX10_odds_148 : decode cX10_odds 148 = .ok (.goto (-53), 3) := by decide +kernel
theorem dX10_odds_151 : decode cX10_odds 151 = .ok (.lload 7, 2) := by decide +kernel
theorem dX10_odds_153 : decode cX10_odds 153 = .ok (.lload 10, 2) := by decide +kernel
theorem dX10_odds_155 : decode cX10_odds 155 = .ok (.lconst 0, 1) := by decide +kernel
theorem dX10_odds_156 : decode cX10_odds 156 = .ok (.lcmp, 1) := by decide +kernel
theorem dX10_odds_157 : decode cX10_odds 157 = .ok (.ifCond .le 17, 3) := by decide +kernel
theorem dX10_odds_160 : decode cX10_odds 160 = .ok (.aload_n 0, 1) := by decide +kernel
theorem dX10_odds_161 : decode cX10_odds 161 = .ok (.iload 9, 2) := by decide +kernel
theorem dX10_odds_163 : decode cX10_odds 163 = .ok (.invokevirtual 207, 3) := by decide +kernel
theorem dX10_odds_166 : decode cX10_odds 166 = .ok (.ifCond .ne 8, 3) := by decide +kernel
theorem dX10_odds_169 : decode cX10_odds 169 = .ok (.lload 10, 2) := by decide +kernel
theorem dX10_odds_171 : decode cX10_odds 171 = .ok (.goto 4, 3) := by decide +kernel
theorem dX10_odds_174 : decode cX10_odds 174 = .ok (.lconst 0, 1) := by decide +kernel
theorem dX10_odds_175 : decode cX10_odds 175 = .ok (.ladd, 1) := by decide +kernel
theorem dX10_odds_176 : decode cX10_odds 176 = .ok (.lstore 7, 2) := by decide +kernel
theorem dX10_odds_178 : decode cX10_odds 178 = .ok (.iload 9, 2) := by decide +kernel
theorem dX10_odds_180 : decode cX10_odds 180 = .ok (.iconst 1, 1) := by decide +kernel
theorem dX10_odds_181 : decode cX10_odds 181 = .ok (.isub, 1) := by decide +kernel
theorem dX10_odds_182 : decode cX10_odds 182 = .ok (.iload 4, 2) := by decide +kernel
theorem dX10_odds_184 : decode cX10_odds 184 = .ok (.iand, 1) := by decide +kernel
theorem dX10_odds_185 : decode cX10_odds 185 = .ok (.istore 9, 2) := by decide +kernel
theorem dX10_odds_187 : decode cX10_odds 187 = .ok (.goto (-103), 3) := by decide +kernel
theorem dX10_odds_190 : decode cX10_odds 190 = .ok (.lload 7, 2) := by decide +kernel
theorem dX10_odds_192 : decode cX10_odds 192 = .ok (.lload 5, 2) := by decide +kernel
theorem dX10_odds_194 : decode cX10_odds 194 = .ok (.iload_n 3, 1) := by decide +kernel
theorem dX10_odds_195 : decode cX10_odds 195 = .ok (.ifCond .ne 7, 3) := by decide +kernel
theorem dX10_odds_198 : decode cX10_odds 198 = .ok (.iconst 1, 1) := by decide +kernel
theorem dX10_odds_199 : decode cX10_odds 199 = .ok (.goto 4, 3) := by decide +kernel
theorem dX10_odds_202 : decode cX10_odds 202 = .ok (.iconst 0, 1) := by decide +kernel
theorem dX10_odds_203 : decode cX10_odds 203 = .ok (.invokestatic 240, 3) := by decide +kernel
theorem dX10_odds_206 : decode cX10_odds 206 = .ok (.ireturn, 1) := by decide +kernel
theorem dX10_keep_0 : decode cX10_keep 0 = .ok (.iload_n 1, 1) := by decide +kernel
theorem dX10_keep_1 : decode cX10_keep 1 = .ok (.iconst 0, 1) := by decide +kernel
theorem dX10_keep_2 : decode cX10_keep 2 = .ok (.iconst 1, 1) := by decide +kernel
theorem dX10_keep_3 : decode cX10_keep 3 = .ok (.invokestatic 48, 3) := by decide +kernel
theorem dX10_keep_6 : decode cX10_keep 6 = .ok (.ifCond .ne 5, 3) := by decide +kernel
theorem dX10_keep_9 : decode cX10_keep 9 = .ok (.iconst (-1), 1) := by decide +kernel
theorem dX10_keep_10 : decode cX10_keep 10 = .ok (.ireturn, 1) := by decide +kernel
theorem dX10_keep_11 : decode cX10_keep 11 = .ok (.aload_n 0, 1) := by decide +kernel
theorem dX10_keep_12 : decode cX10_keep 12 = .ok (.getfield 22, 3) := by decide +kernel
theorem dX10_keep_15 : decode cX10_keep 15 = .ok (.iload_n 1, 1) := by decide +kernel
theorem dX10_keep_16 : decode cX10_keep 16 = .ok (.iconst 1, 1) := by decide +kernel
theorem dX10_keep_17 : decode cX10_keep 17 = .ok (.bastore, 1) := by decide +kernel
theorem dX10_keep_18 : decode cX10_keep 18 = .ok (.iconst 0, 1) := by decide +kernel
theorem dX10_keep_19 : decode cX10_keep 19 = .ok (.istore_n 2, 1) := by decide +kernel
theorem dX10_keep_20 : decode cX10_keep 20 = .ok (.iload_n 2, 1) := by decide +kernel
theorem dX10_keep_21 : decode cX10_keep 21 = .ok (.bipush 25, 2) := by decide +kernel
theorem dX10_keep_23 : decode cX10_keep 23 = .ok (.if_icmp .ge 26, 3) := by decide +kernel
theorem dX10_keep_26 : decode cX10_keep 26 = .ok (.aload_n 0, 1) := by decide +kernel
theorem dX10_keep_27 : decode cX10_keep 27 = .ok (.getfield 26, 3) := by decide +kernel
theorem dX10_keep_30 : decode cX10_keep 30 = .ok (.bipush 25, 2) := by decide +kernel
theorem dX10_keep_32 : decode cX10_keep 32 = .ok (.iload_n 1, 1) := by decide +kernel
theorem dX10_keep_33 : decode cX10_keep 33 = .ok (.imul, 1) := by decide +kernel
theorem dX10_keep_34 : decode cX10_keep 34 = .ok (.iload_n 2, 1) := by decide +kernel
theorem dX10_keep_35 : decode cX10_keep 35 = .ok (.iadd, 1) := by decide +kernel
theorem dX10_keep_36 : decode cX10_keep 36 = .ok (.aload_n 0, 1) := by decide +kernel
theorem dX10_keep_37 : decode cX10_keep 37 = .ok (.getfield 16, 3) := by decide +kernel
theorem dX10_keep_40 : decode cX10_keep 40 = .ok (.iload_n 2, 1) := by decide +kernel
theorem dX10_keep_41 : decode cX10_keep 41 = .ok (.iaload, 1) := by decide +kernel
theorem dX10_keep_42 : decode cX10_keep 42 = .ok (.iastore, 1) := by decide +kernel
theorem dX10_keep_43 : decode cX10_keep 43 = .ok (.iinc 2 1, 3) := by decide +kernel
theorem dX10_keep_46 : decode cX10_keep 46 = .ok (.goto (-26), 3) := by decide +kernel
theorem dX10_keep_49 : decode cX10_keep 49 = .ok (.aload_n 0, 1) := by decide +kernel
theorem dX10_keep_50 : decode cX10_keep 50 = .ok (.getfield 16, 3) := by decide +kernel
theorem dX10_keep_53 : decode cX10_keep 53 = .ok (.iconst 0, 1) := by decide +kernel
theorem dX10_keep_54 : decode cX10_keep 54 = .ok (.iaload, 1) := by decide +kernel
theorem dX10_keep_55 : decode cX10_keep 55 = .ok (.ireturn, 1) := by decide +kernel
theorem dX10_back_0 : decode cX10_back 0 = .ok (.iload_n 1, 1) := by decide +kernel
theorem dX10_back_1 : decode cX10_back 1 = .ok (.iconst 0, 1) := by decide +kernel
theorem dX10_back_2 : decode cX10_back 2 = .ok (.iconst 1, 1) := by decide +kernel
theorem dX10_back_3 : decode cX10_back 3 = .ok (.invokestatic 48, 3) := by decide +kernel
theorem dX10_back_6 : decode cX10_back 6 = .ok (.ifCond .ne 5, 3) := by decide +kernel
theorem dX10_back_9 : decode cX10_back 9 = .ok (.iconst (-1), 1) := by decide +kernel
theorem dX10_back_10 : decode cX10_back 10 = .ok (.ireturn, 1) := by decide +kernel
theorem dX10_back_11 : decode cX10_back 11 = .ok (.aload_n 0, 1) := by decide +kernel
theorem dX10_back_12 : decode cX10_back 12 = .ok (.getfield 22, 3) := by decide +kernel
theorem dX10_back_15 : decode cX10_back 15 = .ok (.iload_n 1, 1) := by decide +kernel
theorem dX10_back_16 : decode cX10_back 16 = .ok (.baload, 1) := by decide +kernel
theorem dX10_back_17 : decode cX10_back 17 = .ok (.ifCond .ne 6, 3) := by decide +kernel
theorem dX10_back_20 : decode cX10_back 20 = .ok (.bipush (-2), 2) := by decide +kernel
theorem dX10_back_22 : decode cX10_back 22 = .ok (.ireturn, 1) := by decide +kernel
theorem dX10_back_23 : decode cX10_back 23 = .ok (.iconst 0, 1) := by decide +kernel
theorem dX10_back_24 : decode cX10_back 24 = .ok (.istore_n 2, 1) := by decide +kernel
theorem dX10_back_25 : decode cX10_back 25 = .ok (.iload_n 2, 1) := by decide +kernel
theorem dX10_back_26 : decode cX10_back 26 = .ok (.bipush 25, 2) := by decide +kernel
theorem dX10_back_28 : decode cX10_back 28 = .ok (.if_icmp .ge 26, 3) := by decide +kernel
theorem dX10_back_31 : decode cX10_back 31 = .ok (.aload_n 0, 1) := by decide +kernel
theorem dX10_back_32 : decode cX10_back 32 = .ok (.getfield 16, 3) := by decide +kernel
theorem dX10_back_35 : decode cX10_back 35 = .ok (.iload_n 2, 1) := by decide +kernel
theorem dX10_back_36 : decode cX10_back 36 = .ok (.aload_n 0, 1) := by decide +kernel
theorem dX10_back_37 : decode cX10_back 37 = .ok (.getfield 26, 3) := by decide +kernel
theorem dX10_back_40 : decode cX10_back 40 = .ok (.bipush 25, 2) := by decide +kernel
theorem dX10_back_42 : decode cX10_back 42 = .ok (.iload_n 1, 1) := by decide +kernel
theorem dX10_back_43 : decode cX10_back 43 = .ok (.imul, 1) := by decide +kernel
theorem dX10_back_44 : decode cX10_back 44 = .ok (.iload_n 2, 1) := by decide +kernel
theorem dX10_back_45 : decode cX10_back 45 = .ok (.iadd, 1) := by decide +kernel
theorem dX10_back_46 : decode cX10_back 46 = .ok (.iaload, 1) := by decide +kernel
theorem dX10_back_47 : decode cX10_back 47 = .ok (.iastore, 1) := by decide +kernel
theorem dX10_back_48 : decode cX10_back 48 = .ok (.iinc 2 1, 3) := by decide +kernel
theorem dX10_back_51 : decode cX10_back 51 = .ok (.goto (-26), 3) := by decide +kernel
theorem dX10_back_54 : decode cX10_back 54 = .ok (.aload_n 0, 1) := by decide +kernel
theorem dX10_back_55 : decode cX10_back 55 = .ok (.iconst 0, 1) := by decide +kernel
theorem dX10_back_56 : decode cX10_back 56 = .ok (.putfield 107, 3) := by decide +kernel
theorem dX10_back_59 : decode cX10_back 59 = .ok (.aload_n 0, 1) := by decide +kernel
theorem dX10_back_60 : decode cX10_back 60 = .ok (.getfield 16, 3) := by decide +kernel
theorem dX10_back_63 : decode cX10_back 63 = .ok (.iconst 0, 1) := by decide +kernel
theorem dX10_back_64 : decode cX10_back 64 = .ok (.iaload, 1) := by decide +kernel
theorem dX10_back_65 : decode cX10_back 65 = .ok (.ireturn, 1) := by decide +kernel
theorem dX10_sureMany_0 : decode cX10_sureMany 0 = .ok (.iconst 0, 1) := by decide +kernel
theorem dX10_sureMany_1 : decode cX10_sureMany 1 = .ok (.istore_n 1, 1) := by decide +kernel
theorem dX10_sureMany_2 : decode cX10_sureMany 2 = .ok (.iconst 0, 1) := by decide +kernel
theorem dX10_sureMany_3 : decode cX10_sureMany 3 = .ok (.istore_n 2, 1) := by decide +kernel
theorem dX10_sureMany_4 : decode cX10_sureMany 4 = .ok (.iload_n 2, 1) := by decide +kernel
theorem dX10_sureMany_5 : decode cX10_sureMany 5 = .ok (.aload_n 0, 1) := by decide +kernel
theorem dX10_sureMany_6 : decode cX10_sureMany 6 = .ok (.getfield 122, 3) := by decide +kernel
theorem dX10_sureMany_9 : decode cX10_sureMany 9 = .ok (.if_icmp .ge 30, 3) := by decide +kernel
theorem dX10_sureMany_12 : decode cX10_sureMany 12 = .ok (.iload_n 1, 1) := by decide +kernel
theorem dX10_sureMany_13 : decode cX10_sureMany 13 = .ok (.aload_n 0, 1) := by decide +kernel
theorem dX10_sureMany_14 : decode cX10_sureMany 14 = .ok (.aload_n 0, 1) := by decide +kernel
theorem dX10_sureMany_15 : decode cX10_sureMany 15 = .ok (.getfield 41, 3) := by decide +kernel
theorem dX10_sureMany_18 : decode cX10_sureMany 18 = .ok (.iload_n 2, 1) := by decide +kernel
theorem dX10_sureMany_19 : decode cX10_sureMany 19 = .ok (.iaload, 1) := by decide +kernel
theorem dX10_sureMany_20 : decode cX10_sureMany 20 = .ok (.invokevirtual 207, 3) := by decide +kernel
theorem dX10_sureMany_23 : decode cX10_sureMany 23 = .ok (.ifCond .ne 7, 3) := by decide +kernel
theorem dX10_sureMany_26 : decode cX10_sureMany 26 = .ok (.iconst 1, 1) := by decide +kernel
theorem dX10_sureMany_27 : decode cX10_sureMany 27 = .ok (.goto 4, 3) := by decide +kernel
theorem dX10_sureMany_30 : decode cX10_sureMany 30 = .ok (.iconst 0, 1) := by decide +kernel
theorem dX10_sureMany_31 : decode cX10_sureMany 31 = .ok (.iadd, 1) := by decide +kernel
theorem dX10_sureMany_32 : decode cX10_sureMany 32 = .ok (.istore_n 1, 1) := by decide +kernel
theorem dX10_sureMany_33 : decode cX10_sureMany 33 = .ok (.iinc 2 1, 3) := by decide +kernel
theorem dX10_sureMany_36 : decode cX10_sureMany 36 = .ok (.goto (-32), 3) := by decide +kernel
theorem dX10_sureMany_39 : decode cX10_sureMany 39 = .ok (.iload_n 1, 1) := by decide +kernel
theorem dX10_sureMany_40 : decode cX10_sureMany 40 = .ok (.ireturn, 1) := by decide +kernel
theorem dX10_count_0 : decode cX10_count 0 = .ok (.aload_n 0, 1) := by decide +kernel
theorem dX10_count_1 : decode cX10_count 1 = .ok (.invokevirtual 135, 3) := by decide +kernel
theorem dX10_count_4 : decode cX10_count 4 = .ok (.iload_n 1, 1) := by decide +kernel
theorem dX10_count_5 : decode cX10_count 5 = .ok (.tableswitch 71 0 5 #[39, 44, 51, 56, 61, 66], 39) := by decide +kernel
theorem dX10_count_44 : decode cX10_count 44 = .ok (.aload_n 0, 1) := by decide +kernel
theorem dX10_count_45 : decode cX10_count 45 = .ok (.getfield 104, 3) := by decide +kernel
theorem dX10_count_48 : decode cX10_count 48 = .ok (.ireturn, 1) := by decide +kernel
theorem dX10_count_49 : decode cX10_count 49 = .ok (.aload_n 0, 1) := by decide +kernel
theorem dX10_count_50 : decode cX10_count 50 = .ok (.getfield 16, 3) := by decide +kernel
theorem dX10_count_53 : decode cX10_count 53 = .ok (.iconst 0, 1) := by decide +kernel
theorem dX10_count_54 : decode cX10_count 54 = .ok (.iaload, 1) := by decide +kernel
theorem dX10_count_55 : decode cX10_count 55 = .ok (.ireturn, 1) := by decide +kernel
theorem dX10_count_56 : decode cX10_count 56 = .ok (.aload_n 0, 1) := by decide +kernel
theorem dX10_count_57 : decode cX10_count 57 = .ok (.getfield 122, 3) := by decide +kernel
theorem dX10_count_60 : decode cX10_count 60 = .ok (.ireturn, 1) := by decide +kernel
theorem dX10_count_61 : decode cX10_count 61 = .ok (.aload_n 0, 1) := by decide +kernel
theorem dX10_count_62 : decode cX10_count 62 = .ok (.invokevirtual 246, 3) := by decide +kernel
theorem dX10_count_65 : decode cX10_count 65 = .ok (.ireturn, 1) := by decide +kernel
theorem dX10_count_66 : decode cX10_count 66 = .ok (.aload_n 0, 1) := by decide +kernel
theorem dX10_count_67 : decode cX10_count 67 = .ok (.getfield 52, 3) := by decide +kernel
theorem dX10_count_70 : decode cX10_count 70 = .ok (.ireturn, 1) := by decide +kernel
theorem dX10_count_71 : decode cX10_count 71 = .ok (.aload_n 0, 1) := by decide +kernel
theorem dX10_count_72 : decode cX10_count 72 = .ok (.getfield 107, 3) := by decide +kernel
theorem dX10_count_75 : decode cX10_count 75 = .ok (.ireturn, 1) := by decide +kernel
theorem dX10_count_76 : decode cX10_count 76 = .ok (.iconst (-1), 1) := by decide +kernel
theorem dX10_count_77 : decode cX10_count 77 = .ok (.ireturn, 1) := by decide +kernel
end
section
theorem dJ6_bitCount_0f7a4_0 : decode cJ6_bitCount_0f7a4 0 = .ok (.iload_n 0, 1) := by decide +kernel
theorem dJ6_bitCount_0f7a4_1 : decode cJ6_bitCount_0f7a4 1 = .ok (.iload_n 0, 1) := by decide +kernel
theorem dJ6_bitCount_0f7a4_2 : decode cJ6_bitCount_0f7a4 2 = .ok (.iconst 1, 1) := by decide +kernel
theorem dJ6_bitCount_0f7a4_3 : decode cJ6_bitCount_0f7a4 3 = .ok (.iushr, 1) := by decide +kernel
theorem dJ6_bitCount_0f7a4_4 : decode cJ6_bitCount_0f7a4 4 = .ok (.ldc_w 265, 3) := by decide +kernel
theorem dJ6_bitCount_0f7a4_7 : decode cJ6_bitCount_0f7a4 7 = .ok (.iand, 1) := by decide +kernel
theorem dJ6_bitCount_0f7a4_8 : decode cJ6_bitCount_0f7a4 8 = .ok (.isub, 1) := by decide +kernel
theorem dJ6_bitCount_0f7a4_9 : decode cJ6_bitCount_0f7a4 9 = .ok (.istore_n 0, 1) := by decide +kernel
theorem dJ6_bitCount_0f7a4_10 : decode cJ6_bitCount_0f7a4 10 = .ok (.iload_n 0, 1) := by decide +kernel
theorem dJ6_bitCount_0f7a4_11 : decode cJ6_bitCount_0f7a4 11 = .ok (.ldc_w 266, 3) := by decide +kernel
theorem dJ6_bitCount_0f7a4_14 : decode cJ6_bitCount_0f7a4 14 = .ok (.iand, 1) := by decide +kernel
theorem dJ6_bitCount_0f7a4_15 : decode cJ6_bitCount_0f7a4 15 = .ok (.iload_n 0, 1) := by decide +kernel
theorem dJ6_bitCount_0f7a4_16 : decode cJ6_bitCount_0f7a4 16 = .ok (.iconst 2, 1) := by decide +kernel
theorem dJ6_bitCount_0f7a4_17 : decode cJ6_bitCount_0f7a4 17 = .ok (.iushr, 1) := by decide +kernel
theorem dJ6_bitCount_0f7a4_18 : decode cJ6_bitCount_0f7a4 18 = .ok (.ldc_w 266, 3) := by decide +kernel
theorem dJ6_bitCount_0f7a4_21 : decode cJ6_bitCount_0f7a4 21 = .ok (.iand, 1) := by decide +kernel
theorem dJ6_bitCount_0f7a4_22 : decode cJ6_bitCount_0f7a4 22 = .ok (.iadd, 1) := by decide +kernel
theorem dJ6_bitCount_0f7a4_23 : decode cJ6_bitCount_0f7a4 23 = .ok (.istore_n 0, 1) := by decide +kernel
theorem dJ6_bitCount_0f7a4_24 : decode cJ6_bitCount_0f7a4 24 = .ok (.iload_n 0, 1) := by decide +kernel
theorem dJ6_bitCount_0f7a4_25 : decode cJ6_bitCount_0f7a4 25 = .ok (.iload_n 0, 1) := by decide +kernel
theorem dJ6_bitCount_0f7a4_26 : decode cJ6_bitCount_0f7a4 26 = .ok (.iconst 4, 1) := by decide +kernel
theorem dJ6_bitCount_0f7a4_27 : decode cJ6_bitCount_0f7a4 27 = .ok (.iushr, 1) := by decide +kernel
theorem dJ6_bitCount_0f7a4_28 : decode cJ6_bitCount_0f7a4 28 = .ok (.iadd, 1) := by decide +kernel
theorem dJ6_bitCount_0f7a4_29 : decode cJ6_bitCount_0f7a4 29 = .ok (.ldc_w 267, 3) := by decide +kernel
theorem dJ6_bitCount_0f7a4_32 : decode cJ6_bitCount_0f7a4 32 = .ok (.iand, 1) := by decide +kernel
theorem dJ6_bitCount_0f7a4_33 : decode cJ6_bitCount_0f7a4 33 = .ok (.istore_n 0, 1) := by decide +kernel
theorem dJ6_bitCount_0f7a4_34 : decode cJ6_bitCount_0f7a4 34 = .ok (.iload_n 0, 1) := by decide +kernel
theorem dJ6_bitCount_0f7a4_35 : decode cJ6_bitCount_0f7a4 35 = .ok (.iload_n 0, 1) := by decide +kernel
theorem dJ6_bitCount_0f7a4_36 : decode cJ6_bitCount_0f7a4 36 = .ok (.bipush 8, 2) := by decide +kernel
theorem dJ6_bitCount_0f7a4_38 : decode cJ6_bitCount_0f7a4 38 = .ok (.iushr, 1) := by decide +kernel
theorem dJ6_bitCount_0f7a4_39 : decode cJ6_bitCount_0f7a4 39 = .ok (.iadd, 1) := by decide +kernel
theorem dJ6_bitCount_0f7a4_40 : decode cJ6_bitCount_0f7a4 40 = .ok (.istore_n 0, 1) := by decide +kernel
theorem dJ6_bitCount_0f7a4_41 : decode cJ6_bitCount_0f7a4 41 = .ok (.iload_n 0, 1) := by decide +kernel
theorem dJ6_bitCount_0f7a4_42 : decode cJ6_bitCount_0f7a4 42 = .ok (.iload_n 0, 1) := by decide +kernel
theorem dJ6_bitCount_0f7a4_43 : decode cJ6_bitCount_0f7a4 43 = .ok (.bipush 16, 2) := by decide +kernel
theorem dJ6_bitCount_0f7a4_45 : decode cJ6_bitCount_0f7a4 45 = .ok (.iushr, 1) := by decide +kernel
theorem dJ6_bitCount_0f7a4_46 : decode cJ6_bitCount_0f7a4 46 = .ok (.iadd, 1) := by decide +kernel
theorem dJ6_bitCount_0f7a4_47 : decode cJ6_bitCount_0f7a4 47 = .ok (.istore_n 0, 1) := by decide +kernel
theorem dJ6_bitCount_0f7a4_48 : decode cJ6_bitCount_0f7a4 48 = .ok (.iload_n 0, 1) := by decide +kernel
theorem dJ6_bitCount_0f7a4_49 : decode cJ6_bitCount_0f7a4 49 = .ok (.bipush 63, 2) := by decide +kernel
theorem dJ6_bitCount_0f7a4_51 : decode cJ6_bitCount_0f7a4 51 = .ok (.iand, 1) := by decide +kernel
theorem dJ6_bitCount_0f7a4_52 : decode cJ6_bitCount_0f7a4 52 = .ok (.ireturn, 1) := by decide +kernel
end
section
theorem dJ9_abs_067f4_0 : decode cJ9_abs_067f4 0 = .ok (.lload_n 0, 1) := by decide +kernel
theorem dJ9_abs_067f4_1 : decode cJ9_abs_067f4 1 = .ok (.lconst 0, 1) := by decide +kernel
theorem dJ9_abs_067f4_2 : decode cJ9_abs_067f4 2 = .ok (.lcmp, 1) := by decide +kernel
theorem dJ9_abs_067f4_3 : decode cJ9_abs_067f4 3 = .ok (.ifCond .ge 8, 3) := by decide +kernel
theorem dJ9_abs_067f4_6 : decode cJ9_abs_067f4 6 = .ok (.lload_n 0, 1) := by decide +kernel
theorem dJ9_abs_067f4_7 : decode cJ9_abs_067f4 7 = .ok (.lneg, 1) := by decide +kernel
theorem dJ9_abs_067f4_8 : decode cJ9_abs_067f4 8 = .ok (.goto 4, 3) := by decide +kernel
theorem dJ9_abs_067f4_11 : decode cJ9_abs_067f4 11 = .ok (.lload_n 0, 1) := by decide +kernel
theorem dJ9_abs_067f4_12 : decode cJ9_abs_067f4 12 = .ok (.lreturn, 1) := by decide +kernel
theorem dJ9_max_f86c9_0 : decode cJ9_max_f86c9 0 = .ok (.lload_n 0, 1) := by decide +kernel
theorem dJ9_max_f86c9_1 : decode cJ9_max_f86c9 1 = .ok (.lload_n 2, 1) := by decide +kernel
theorem dJ9_max_f86c9_2 : decode cJ9_max_f86c9 2 = .ok (.lcmp, 1) := by decide +kernel
theorem dJ9_max_f86c9_3 : decode cJ9_max_f86c9 3 = .ok (.ifCond .lt 7, 3) := by decide +kernel
theorem dJ9_max_f86c9_6 : decode cJ9_max_f86c9 6 = .ok (.lload_n 0, 1) := by decide +kernel
theorem dJ9_max_f86c9_7 : decode cJ9_max_f86c9 7 = .ok (.goto 4, 3) := by decide +kernel
theorem dJ9_max_f86c9_10 : decode cJ9_max_f86c9 10 = .ok (.lload_n 2, 1) := by decide +kernel
theorem dJ9_max_f86c9_11 : decode cJ9_max_f86c9 11 = .ok (.lreturn, 1) := by decide +kernel
theorem dJ9_min_7cf53_0 : decode cJ9_min_7cf53 0 = .ok (.iload_n 0, 1) := by decide +kernel
theorem dJ9_min_7cf53_1 : decode cJ9_min_7cf53 1 = .ok (.iload_n 1, 1) := by decide +kernel
theorem dJ9_min_7cf53_2 : decode cJ9_min_7cf53 2 = .ok (.if_icmp .gt 7, 3) := by decide +kernel
theorem dJ9_min_7cf53_5 : decode cJ9_min_7cf53 5 = .ok (.iload_n 0, 1) := by decide +kernel
theorem dJ9_min_7cf53_6 : decode cJ9_min_7cf53 6 = .ok (.goto 4, 3) := by decide +kernel
theorem dJ9_min_7cf53_9 : decode cJ9_min_7cf53 9 = .ok (.iload_n 1, 1) := by decide +kernel
theorem dJ9_min_7cf53_10 : decode cJ9_min_7cf53 10 = .ok (.ireturn, 1) := by decide +kernel
theorem dJ9_min_f86c9_0 : decode cJ9_min_f86c9 0 = .ok (.lload_n 0, 1) := by decide +kernel
theorem dJ9_min_f86c9_1 : decode cJ9_min_f86c9 1 = .ok (.lload_n 2, 1) := by decide +kernel
theorem dJ9_min_f86c9_2 : decode cJ9_min_f86c9 2 = .ok (.lcmp, 1) := by decide +kernel
theorem dJ9_min_f86c9_3 : decode cJ9_min_f86c9 3 = .ok (.ifCond .gt 7, 3) := by decide +kernel
theorem dJ9_min_f86c9_6 : decode cJ9_min_f86c9 6 = .ok (.lload_n 0, 1) := by decide +kernel
theorem dJ9_min_f86c9_7 : decode cJ9_min_f86c9 7 = .ok (.goto 4, 3) := by decide +kernel
theorem dJ9_min_f86c9_10 : decode cJ9_min_f86c9 10 = .ok (.lload_n 2, 1) := by decide +kernel
theorem dJ9_min_f86c9_11 : decode cJ9_min_f86c9 11 = .ok (.lreturn, 1) := by decide +kernel
end
section
theorem dL_law_0 : decode cL_law 0 = .ok (.new 7, 3) := by decide +kernel
theorem dL_law_3 : decode cL_law 3 = .ok (.dup, 1) := by decide +kernel
theorem dL_law_4 : decode cL_law 4 = .ok (.invokespecial 9, 3) := by decide +kernel
theorem dL_law_7 : decode cL_law 7 = .ok (.astore_n 1, 1) := by decide +kernel
theorem dL_law_8 : decode cL_law 8 = .ok (.new 10, 3) := by decide +kernel
theorem dL_law_11 : decode cL_law 11 = .ok (.dup, 1) := by decide +kernel
theorem dL_law_12 : decode cL_law 12 = .ok (.invokespecial 12, 3) := by decide +kernel
theorem dL_law_15 : decode cL_law 15 = .ok (.astore_n 2, 1) := by decide +kernel
theorem dL_law_16 : decode cL_law 16 = .ok (.iconst 0, 1) := by decide +kernel
theorem dL_law_17 : decode cL_law 17 = .ok (.istore_n 3, 1) := by decide +kernel
theorem dL_law_18 : decode cL_law 18 = .ok (.iload_n 3, 1) := by decide +kernel
theorem dL_law_19 : decode cL_law 19 = .ok (.aload_n 0, 1) := by decide +kernel
theorem dL_law_20 : decode cL_law 20 = .ok (.arraylength, 1) := by decide +kernel
theorem dL_law_21 : decode cL_law 21 = .ok (.bipush 6, 2) := by decide +kernel
theorem dL_law_23 : decode cL_law 23 = .ok (.isub, 1) := by decide +kernel
theorem dL_law_24 : decode cL_law 24 = .ok (.if_icmp .gt 579, 3) := by decide +kernel
theorem dL_law_27 : decode cL_law 27 = .ok (.aload_n 0, 1) := by decide +kernel
theorem dL_law_28 : decode cL_law 28 = .ok (.iload_n 3, 1) := by decide +kernel
theorem dL_law_29 : decode cL_law 29 = .ok (.iaload, 1) := by decide +kernel
theorem dL_law_30 : decode cL_law 30 = .ok (.bipush 31, 2) := by decide +kernel
theorem dL_law_32 : decode cL_law 32 = .ok (.iand, 1) := by decide +kernel
theorem dL_law_33 : decode cL_law 33 = .ok (.tableswitch 564 0 16 #[83, 106, 119, 132, 165, 198, 231, 254, 287, 300, 333, 366, 389, 452, 495, 518, 541], 83) := by decide +kernel
theorem dL_law_116 : decode cL_law 116 = .ok (.aload_n 1, 1) := by decide +kernel
theorem dL_law_117 : decode cL_law 117 = .ok (.aload_n 0, 1) := by decide +kernel
theorem dL_law_118 : decode cL_law 118 = .ok (.iload_n 3, 1) := by decide +kernel
theorem dL_law_119 : decode cL_law 119 = .ok (.iconst 1, 1) := by decide +kernel
theorem dL_law_120 : decode cL_law 120 = .ok (.iadd, 1) := by decide +kernel
theorem dL_law_121 : decode cL_law 121 = .ok (.iaload, 1) := by decide +kernel
theorem dL_law_122 : decode cL_law 122 = .ok (.invokevirtual 13, 3) := by decide +kernel
theorem dL_law_125 : decode cL_law 125 = .ok (.aload_n 2, 1) := by decide +kernel
theorem dL_law_126 : decode cL_law 126 = .ok (.aload_n 0, 1) := by decide +kernel
theorem dL_law_127 : decode cL_law 127 = .ok (.iload_n 3, 1) := by decide +kernel
theorem dL_law_128 : decode cL_law 128 = .ok (.iconst 1, 1) := by decide +kernel
theorem dL_law_129 : decode cL_law 129 = .ok (.iadd, 1) := by decide +kernel
theorem dL_law_130 : decode cL_law 130 = .ok (.iaload, 1) := by decide +kernel
theorem dL_law_131 : decode cL_law 131 = .ok (.invokevirtual 17, 3) := by decide +kernel
theorem dL_law_134 : decode cL_law 134 = .ok (.if_icmp .eq 463, 3) := by decide +kernel
theorem dL_law_137 : decode cL_law 137 = .ok (.iconst 0, 1) := by decide +kernel
theorem dL_law_138 : decode cL_law 138 = .ok (.ireturn, 1) := by decide +kernel
theorem dL_law_139 : decode cL_law 139 = .ok (.aload_n 1, 1) := by decide +kernel
theorem dL_law_140 : decode cL_law 140 = .ok (.invokevirtual 18, 3) := by decide +kernel
theorem dL_law_143 : decode cL_law 143 = .ok (.aload_n 2, 1) := by decide +kernel
theorem dL_law_144 : decode cL_law 144 = .ok (.invokevirtual 22, 3) := by decide +kernel
theorem dL_law_147 : decode cL_law 147 = .ok (.if_icmp .eq 450, 3) := by decide +kernel
theorem dL_law_150 : decode cL_law 150 = .ok (.iconst 0, 1) := by decide +kernel
theorem dL_law_151 : decode cL_law 151 = .ok (.ireturn, 1) := by decide +kernel
theorem dL_law_152 : decode cL_law 152 = .ok (.aload_n 1, 1) := by decide +kernel
theorem dL_law_153 : decode cL_law 153 = .ok (.invokevirtual 23, 3) := by decide +kernel
theorem dL_law_156 : decode cL_law 156 = .ok (.aload_n 2, 1) := by decide +kernel
theorem dL_law_157 : decode cL_law 157 = .ok (.invokevirtual 26, 3) := by decide +kernel
theorem dL_law_160 : decode cL_law 160 = .ok (.if_icmp .eq 437, 3) := by decide +kernel
theorem dL_law_163 : decode cL_law 163 = .ok (.iconst 0, 1) := by decide +kernel
theorem dL_law_164 : decode cL_law 164 = .ok (.ireturn, 1) := by decide +kernel
theorem dL_law_165 : decode cL_law 165 = .ok (.aload_n 1, 1) := by decide +kernel
theorem dL_law_166 : decode cL_law 166 = .ok (.aload_n 0, 1) := by decide +kernel
theorem dL_law_167 : decode cL_law 167 = .ok (.iload_n 3, 1) := by decide +kernel
theorem dL_law_168 : decode cL_law 168 = .ok (.iconst 1, 1) := by decide +kernel
theorem dL_law_169 : decode cL_law 169 = .ok (.iadd, 1) := by decide +kernel
theorem dL_law_170 : decode cL_law 170 = .ok (.iaload, 1) := by decide +kernel
theorem dL_law_171 : decode cL_law 171 = .ok (.aload_n 0, 1) := by decide +kernel
theorem dL_law_172 : decode cL_law 172 = .ok (.iload_n 3, 1) := by decide +kernel
theorem dL_law_173 : decode cL_law 173 = .ok (.iconst 2, 1) := by decide +kernel
theorem dL_law_174 : decode cL_law 174 = .ok (.iadd, 1) := by decide +kernel
theorem dL_law_175 : decode cL_law 175 = .ok (.iaload, 1) := by decide +kernel
theorem dL_law_176 : decode cL_law 176 = .ok (.invokevirtual 27, 3) := by decide +kernel
theorem dL_law_179 : decode cL_law 179 = .ok (.aload_n 2, 1) := by decide +kernel
theorem dL_law_180 : decode cL_law 180 = .ok (.aload_n 0, 1) := by decide +kernel
theorem dL_law_181 : decode cL_law 181 = .ok (.iload_n 3, 1) := by decide +kernel
theorem dL_law_182 : decode cL_law 182 = .ok (.iconst 1, 1) := by decide +kernel
theorem dL_law_183 : decode cL_law 183 = .ok (.iadd, 1) := by decide +kernel
theorem dL_law_184 : decode cL_law 184 = .ok (.iaload, 1) := by decide +kernel
theorem dL_law_185 : decode cL_law 185 = .ok (.aload_n 0, 1) := by decide +kernel
theorem dL_law_186 : decode cL_law 186 = .ok (.iload_n 3, 1) := by decide +kernel
theorem dL_law_187 : decode cL_law 187 = .ok (.iconst 2, 1) := by decide +kernel
theorem dL_law_188 : decode cL_law 188 = .ok (.iadd, 1) := by decide +kernel
theorem dL_law_189 : decode cL_law 189 = .ok (.iaload, 1) := by decide +kernel
theorem dL_law_190 : decode cL_law 190 = .ok (.invokevirtual 31, 3) := by decide +kernel
theorem dL_law_193 : decode cL_law 193 = .ok (.if_icmp .eq 404, 3) := by decide +kernel
theorem dL_law_196 : decode cL_law 196 = .ok (.iconst 0, 1) := by decide +kernel
theorem dL_law_197 : decode cL_law 197 = .ok (.ireturn, 1) := by decide +kernel
theorem dL_law_198 : decode cL_law 198 = .ok (.aload_n 1, 1) := by decide +kernel
theorem dL_law_199 : decode cL_law 199 = .ok (.aload_n 0, 1) := by decide +kernel
theorem dL_law_200 : decode cL_law 200 = .ok (.iload_n 3, 1) := by decide +kernel
theorem dL_law_201 : decode cL_law 201 = .ok (.iconst 1, 1) := by decide +kernel
theorem dL_law_202 : decode cL_law 202 = .ok (.iadd, 1) := by decide +kernel
theorem dL_law_203 : decode cL_law 203 = .ok (.iaload, 1) := by decide +kernel
theorem dL_law_204 : decode cL_law 204 = .ok (.aload_n 0, 1) := by decide +kernel
theorem dL_law_205 : decode cL_law 205 = .ok (.iload_n 3, 1) := by decide +kernel
theorem dL_law_206 : decode cL_law 206 = .ok (.iconst 2, 1) := by decide +kernel
theorem dL_law_207 : decode cL_law 207 = .ok (.iadd, 1) := by decide +kernel
theorem dL_law_208 : decode cL_law 208 = .ok (.iaload, 1) := by decide +kernel
theorem dL_law_209 : decode cL_law 209 = .ok (.invokevirtual 32, 3) := by decide +kernel
theorem dL_law_212 : decode cL_law 212 = .ok (.aload_n 2, 1) := by decide +kernel
theorem dL_law_213 : decode cL_law 213 = .ok (.aload_n 0, 1) := by decide +kernel
theorem dL_law_214 : decode cL_law 214 = .ok (.iload_n 3, 1) := by decide +kernel
theorem dL_law_215 : decode cL_law 215 = .ok (.iconst 1, 1) := by decide +kernel
theorem dL_law_216 : decode cL_law 216 = .ok (.iadd, 1) := by decide +kernel
theorem dL_law_217 : decode cL_law 217 = .ok (.iaload, 1) := by decide +kernel
theorem dL_law_218 : decode cL_law 218 = .ok (.aload_n 0, 1) := by decide +kernel
theorem dL_law_219 : decode cL_law 219 = .ok (.iload_n 3, 1) := by decide +kernel
theorem dL_law_220 : decode cL_law 220 = .ok (.iconst 2, 1) := by decide +kernel
theorem dL_law_221 : decode cL_law 221 = .ok (.iadd, 1) := by decide +kernel
theorem dL_law_222 : decode cL_law 222 = .ok (.iaload, 1) := by decide +kernel
theorem dL_law_223 : decode cL_law 223 = .ok (.invokevirtual 35, 3) := by decide +kernel
theorem dL_law_226 : decode cL_law 226 = .ok (.if_icmp .eq 371, 3) := by decide +kernel
theorem dL_law_229 : decode cL_law 229 = .ok (.iconst 0, 1) := by decide +kernel
theorem dL_law_230 : decode cL_law 230 = .ok (.ireturn, 1) := by decide +kernel
theorem dL_law_231 : decode cL_law 231 = .ok (.aload_n 1, 1) := by decide +kernel
theorem dL_law_232 : decode cL_law 232 = .ok (.aload_n 0, 1) := by decide +kernel
theorem dL_law_233 : decode cL_law 233 = .ok (.iload_n 3, 1) := by decide +kernel
theorem dL_law_234 : decode cL_law 234 = .ok (.iconst 1, 1) := by decide +kernel
theorem dL_law_235 : decode cL_law 235 = .ok (.iadd, 1) := by decide +kernel
theorem dL_law_236 : decode cL_law 236 = .ok (.iaload, 1) := by decide +kernel
theorem dL_law_237 : decode cL_law 237 = .ok (.aload_n 0, 1) := by decide +kernel
theorem dL_law_238 : decode cL_law 238 = .ok (.iload_n 3, 1) := by decide +kernel
theorem dL_law_239 : decode cL_law 239 = .ok (.iconst 2, 1) := by decide +kernel
theorem dL_law_240 : decode cL_law 240 = .ok (.iadd, 1) := by decide +kernel
theorem dL_law_241 : decode cL_law 241 = .ok (.iaload, 1) := by decide +kernel
theorem dL_law_242 : decode cL_law 242 = .ok (.invokevirtual 36, 3) := by decide +kernel
theorem dL_law_245 : decode cL_law 245 = .ok (.aload_n 2, 1) := by decide +kernel
theorem dL_law_246 : decode cL_law 246 = .ok (.aload_n 0, 1) := by decide +kernel
theorem dL_law_247 : decode cL_law 247 = .ok (.iload_n 3, 1) := by decide +kernel
theorem dL_law_248 : decode cL_law 248 = .ok (.iconst 1, 1) := by decide +kernel
theorem dL_law_249 : decode cL_law 249 = .ok (.iadd, 1) := by decide +kernel
theorem dL_law_250 : decode cL_law 250 = .ok (.iaload, 1) := by decide +kernel
theorem dL_law_251 : decode cL_law 251 = .ok (.aload_n 0, 1) := by decide +kernel
theorem dL_law_252 : decode cL_law 252 = .ok (.iload_n 3, 1) := by decide +kernel
theorem dL_law_253 : decode cL_law 253 = .ok (.iconst 2, 1) := by decide +kernel
theorem dL_law_254 : decode cL_law 254 = .ok (.iadd, 1) := by decide +kernel
theorem dL_law_255 : decode cL_law 255 = .ok (.iaload, 1) := by decide +kernel
theorem dL_law_256 : decode cL_law 256 = .ok (.invokevirtual 39, 3) := by decide +kernel
theorem dL_law_259 : decode cL_law 259 = .ok (.if_icmp .eq 338, 3) := by decide +kernel
theorem dL_law_262 : decode cL_law 262 = .ok (.iconst 0, 1) := by decide +kernel
theorem dL_law_263 : decode cL_law 263 = .ok (.ireturn, 1) := by decide +kernel
theorem dL_law_264 : decode cL_law 264 = .ok (.aload_n 1, 1) := by decide +kernel
theorem dL_law_265 : decode cL_law 265 = .ok (.aload_n 0, 1) := by decide +kernel
theorem dL_law_266 : decode cL_law 266 = .ok (.iload_n 3, 1) := by decide +kernel
theorem dL_law_267 : decode cL_law 267 = .ok (.iconst 1, 1) := by decide +kernel
theorem dL_law_268 : decode cL_law 268 = .ok (.iadd, 1) := by decide +kernel
theorem dL_law_269 : decode cL_law 269 = .ok (.iaload, 1) := by decide +kernel
theorem dL_law_270 : decode cL_law 270 = .ok (.invokevirtual 40, 3) := by decide +kernel
theorem dL_law_273 : decode cL_law 273 = .ok (.aload_n 2, 1) := by decide +kernel
theorem dL_law_274 : decode cL_law 274 = .ok (.aload_n 0, 1) := by decide +kernel
theorem dL_law_275 : decode cL_law 275 = .ok (.iload_n 3, 1) := by decide +kernel
theorem dL_law_276 : decode cL_law 276 = .ok (.iconst 1, 1) := by decide +kernel
theorem dL_law_277 : decode cL_law 277 = .ok (.iadd, 1) := by decide +kernel
theorem dL_law_278 : decode cL_law 278 = .ok (.iaload, 1) := by decide +kernel
theorem dL_law_279 : decode cL_law 279 = .ok (.invokevirtual 43, 3) := by decide +kernel
theorem dL_law_282 : decode cL_law 282 = .ok (.if_icmp .eq 315, 3) := by decide +kernel
theorem dL_law_285 : decode cL_law 285 = .ok (.iconst 0, 1) := by decide +kernel
theorem dL_law_286 : decode cL_law 286 = .ok (.ireturn, 1) := by decide +kernel
theorem dL_law_287 : decode cL_law 287 = .ok (.aload_n 1, 1) := by decide +kernel
theorem dL_law_288 : decode cL_law 288 = .ok (.aload_n 0, 1) := by decide +kernel
theorem dL_law_289 : decode cL_law 289 = .ok (.iload_n 3, 1) := by decide +kernel
theorem dL_law_290 : decode cL_law 290 = .ok (.iconst 1, 1) := by decide +kernel
theorem dL_law_291 : decode cL_law 291 = .ok (.iadd, 1) := by decide +kernel
theorem dL_law_292 : decode cL_law 292 = .ok (.iaload, 1) := by decide +kernel
theorem dL_law_293 : decode cL_law 293 = .ok (.aload_n 0, 1) := by decide +kernel
theorem dL_law_294 : decode cL_law 294 = .ok (.iload_n 3, 1) := by decide +kernel
theorem dL_law_295 : decode cL_law 295 = .ok (.iconst 2, 1) := by decide +kernel
theorem dL_law_296 : decode cL_law 296 = .ok (.iadd, 1) := by decide +kernel
theorem dL_law_297 : decode cL_law 297 = .ok (.iaload, 1) := by decide +kernel
theorem dL_law_298 : decode cL_law 298 = .ok (.invokevirtual 44, 3) := by decide +kernel
theorem dL_law_301 : decode cL_law 301 = .ok (.aload_n 2, 1) := by decide +kernel
theorem dL_law_302 : decode cL_law 302 = .ok (.aload_n 0, 1) := by decide +kernel
theorem dL_law_303 : decode cL_law 303 = .ok (.iload_n 3, 1) := by decide +kernel
theorem dL_law_304 : decode cL_law 304 = .ok (.iconst 1, 1) := by decide +kernel
theorem dL_law_305 : decode cL_law 305 = .ok (.iadd, 1) := by decide +kernel
theorem dL_law_306 : decode cL_law 306 = .ok (.iaload, 1) := by decide +kernel
theorem dL_law_307 : decode cL_law 307 = .ok (.aload_n 0, 1) := by decide +kernel
theorem dL_law_308 : decode cL_law 308 = .ok (.iload_n 3, 1) := by decide +kernel
theorem dL_law_309 : decode cL_law 309 = .ok (.iconst 2, 1) := by decide +kernel
theorem dL_law_310 : decode cL_law 310 = .ok (.iadd, 1) := by decide +kernel
theorem dL_law_311 : decode cL_law 311 = .ok (.iaload, 1) := by decide +kernel
theorem dL_law_312 : decode cL_law 312 = .ok (.invokevirtual 47, 3) := by decide +kernel
theorem dL_law_315 : decode cL_law 315 = .ok (.if_icmp .eq 282, 3) := by decide +kernel
theorem dL_law_318 : decode cL_law 318 = .ok (.iconst 0, 1) := by decide +kernel
theorem dL_law_319 : decode cL_law 319 = .ok (.ireturn, 1) := by decide +kernel
theorem dL_law_320 : decode cL_law 320 = .ok (.aload_n 1, 1) := by decide +kernel
theorem dL_law_321 : decode cL_law 321 = .ok (.invokevirtual 48, 3) := by decide +kernel
theorem dL_law_324 : decode cL_law 324 = .ok (.aload_n 2, 1) := by decide +kernel
theorem dL_law_325 : decode cL_law 325 = .ok (.invokevirtual 51, 3) := by decide +kernel
theorem dL_law_328 : decode cL_law 328 = .ok (.if_icmp .eq 269, 3) := by decide +kernel
theorem dL_law_331 : decode cL_law 331 = .ok (.iconst 0, 1) := by decide +kernel
theorem dL_law_332 : decode cL_law 332 = .ok (.ireturn, 1) := by decide +kernel
theorem dL_law_333 : decode cL_law 333 = .ok (.aload_n 1, 1) := by decide +kernel
theorem dL_law_334 : decode cL_law 334 = .ok (.aload_n 0, 1) := by decide +kernel
theorem dL_law_335 : decode cL_law 335 = .ok (.iload_n 3, 1) := by decide +kernel
theorem dL_law_336 : decode cL_law 336 = .ok (.iconst 1, 1) := by decide +kernel
theorem dL_law_337 : decode cL_law 337 = .ok (.iadd, 1) := by decide +kernel
theorem dL_law_338 : decode cL_law 338 = .ok (.iaload, 1) := by decide +kernel
theorem dL_law_339 : decode cL_law 339 = .ok (.aload_n 0, 1) := by decide +kernel
theorem dL_law_340 : decode cL_law 340 = .ok (.iload_n 3, 1) := by decide +kernel
theorem dL_law_341 : decode cL_law 341 = .ok (.iconst 2, 1) := by decide +kernel
theorem dL_law_342 : decode cL_law 342 = .ok (.iadd, 1) := by decide +kernel
theorem dL_law_343 : decode cL_law 343 = .ok (.iaload, 1) := by decide +kernel
theorem dL_law_344 : decode cL_law 344 = .ok (.invokevirtual 52, 3) := by decide +kernel
theorem dL_law_347 : decode cL_law 347 = .ok (.aload_n 2, 1) := by decide +kernel
theorem dL_law_348 : decode cL_law 348 = .ok (.aload_n 0, 1) := by decide +kernel
theorem dL_law_349 : decode cL_law 349 = .ok (.iload_n 3, 1) := by decide +kernel
theorem dL_law_350 : decode cL_law 350 = .ok (.iconst 1, 1) := by decide +kernel
theorem dL_law_351 : decode cL_law 351 = .ok (.iadd, 1) := by decide +kernel
theorem dL_law_352 : decode cL_law 352 = .ok (.iaload, 1) := by decide +kernel
theorem dL_law_353 : decode cL_law 353 = .ok (.aload_n 0, 1) := by decide +kernel
theorem dL_law_354 : decode cL_law 354 = .ok (.iload_n 3, 1) := by decide +kernel
theorem dL_law_355 : decode cL_law 355 = .ok (.iconst 2, 1) := by decide +kernel
theorem dL_law_356 : decode cL_law 356 = .ok (.iadd, 1) := by decide +kernel
theorem dL_law_357 : decode cL_law 357 = .ok (.iaload, 1) := by decide +kernel
theorem dL_law_358 : decode cL_law 358 = .ok (.invokevirtual 55, 3) := by decide +kernel
theorem dL_law_361 : decode cL_law 361 = .ok (.if_icmp .eq 236, 3) := by decide +kernel
theorem dL_law_364 : decode cL_law 364 = .ok (.iconst 0, 1) := by decide +kernel
theorem dL_law_365 : decode cL_law 365 = .ok (.ireturn, 1) := by decide +kernel
theorem dL_law_366 : decode cL_law 366 = .ok (.aload_n 1, 1) := by decide +kernel
theorem dL_law_367 : decode cL_law 367 = .ok (.aload_n 0, 1) := by decide +kernel
theorem dL_law_368 : decode cL_law 368 = .ok (.iload_n 3, 1) := by decide +kernel
theorem dL_law_369 : decode cL_law 369 = .ok (.iconst 1, 1) := by decide +kernel
theorem dL_law_370 : decode cL_law 370 = .ok (.iadd, 1) := by decide +kernel
theorem dL_law_371 : decode cL_law 371 = .ok (.iaload, 1) := by decide +kernel
theorem dL_law_372 : decode cL_law 372 = .ok (.aload_n 0, 1) := by decide +kernel
theorem dL_law_373 : decode cL_law 373 = .ok (.iload_n 3, 1) := by decide +kernel
theorem dL_law_374 : decode cL_law 374 = .ok (.iconst 2, 1) := by decide +kernel
theorem dL_law_375 : decode cL_law 375 = .ok (.iadd, 1) := by decide +kernel
theorem dL_law_376 : decode cL_law 376 = .ok (.iaload, 1) := by decide +kernel
theorem dL_law_377 : decode cL_law 377 = .ok (.invokevirtual 56, 3) := by decide +kernel
theorem dL_law_380 : decode cL_law 380 = .ok (.aload_n 2, 1) := by decide +kernel
theorem dL_law_381 : decode cL_law 381 = .ok (.aload_n 0, 1) := by decide +kernel
theorem dL_law_382 : decode cL_law 382 = .ok (.iload_n 3, 1) := by decide +kernel
theorem dL_law_383 : decode cL_law 383 = .ok (.iconst 1, 1) := by decide +kernel
theorem dL_law_384 : decode cL_law 384 = .ok (.iadd, 1) := by decide +kernel
theorem dL_law_385 : decode cL_law 385 = .ok (.iaload, 1) := by decide +kernel
theorem dL_law_386 : decode cL_law 386 = .ok (.aload_n 0, 1) := by decide +kernel
theorem dL_law_387 : decode cL_law 387 = .ok (.iload_n 3, 1) := by decide +kernel
theorem dL_law_388 : decode cL_law 388 = .ok (.iconst 2, 1) := by decide +kernel
theorem dL_law_389 : decode cL_law 389 = .ok (.iadd, 1) := by decide +kernel
theorem dL_law_390 : decode cL_law 390 = .ok (.iaload, 1) := by decide +kernel
theorem dL_law_391 : decode cL_law 391 = .ok (.invokevirtual 59, 3) := by decide +kernel
theorem dL_law_394 : decode cL_law 394 = .ok (.if_icmp .eq 203, 3) := by decide +kernel
theorem dL_law_397 : decode cL_law 397 = .ok (.iconst 0, 1) := by decide +kernel
theorem dL_law_398 : decode cL_law 398 = .ok (.ireturn, 1) := by decide +kernel
theorem dL_law_399 : decode cL_law 399 = .ok (.aload_n 1, 1) := by decide +kernel
theorem dL_law_400 : decode cL_law 400 = .ok (.aload_n 0, 1) := by decide +kernel
theorem dL_law_401 : decode cL_law 401 = .ok (.iload_n 3, 1) := by decide +kernel
theorem dL_law_402 : decode cL_law 402 = .ok (.iconst 1, 1) := by decide +kernel
theorem dL_law_403 : decode cL_law 403 = .ok (.iadd, 1) := by decide +kernel
theorem dL_law_404 : decode cL_law 404 = .ok (.iaload, 1) := by decide +kernel
theorem dL_law_405 : decode cL_law 405 = .ok (.invokevirtual 60, 3) := by decide +kernel
theorem dL_law_408 : decode cL_law 408 = .ok (.aload_n 2, 1) := by decide +kernel
theorem dL_law_409 : decode cL_law 409 = .ok (.aload_n 0, 1) := by decide +kernel
theorem dL_law_410 : decode cL_law 410 = .ok (.iload_n 3, 1) := by decide +kernel
theorem dL_law_411 : decode cL_law 411 = .ok (.iconst 1, 1) := by decide +kernel
theorem dL_law_412 : decode cL_law 412 = .ok (.iadd, 1) := by decide +kernel
theorem dL_law_413 : decode cL_law 413 = .ok (.iaload, 1) := by decide +kernel
theorem dL_law_414 : decode cL_law 414 = .ok (.invokevirtual 63, 3) := by decide +kernel
theorem dL_law_417 : decode cL_law 417 = .ok (.if_icmp .eq 180, 3) := by decide +kernel
theorem dL_law_420 : decode cL_law 420 = .ok (.iconst 0, 1) := by decide +kernel
theorem dL_law_421 : decode cL_law 421 = .ok (.ireturn, 1) := by decide +kernel
theorem dL_law_422 : decode cL_law 422 = .ok (.aload_n 1, 1) := by decide +kernel
theorem dL_law_423 : decode cL_law 423 = .ok (.aload_n 0, 1) := by decide +kernel
theorem dL_law_424 : decode cL_law 424 = .ok (.iload_n 3, 1) := by decide +kernel
theorem dL_law_425 : decode cL_law 425 = .ok (.iconst 1, 1) := by decide +kernel
theorem dL_law_426 : decode cL_law 426 = .ok (.iadd, 1) := by decide +kernel
theorem dL_law_427 : decode cL_law 427 = .ok (.iaload, 1) := by decide +kernel
theorem dL_law_428 : decode cL_law 428 = .ok (.aload_n 0, 1) := by decide +kernel
theorem dL_law_429 : decode cL_law 429 = .ok (.iload_n 3, 1) := by decide +kernel
theorem dL_law_430 : decode cL_law 430 = .ok (.iconst 2, 1) := by decide +kernel
theorem dL_law_431 : decode cL_law 431 = .ok (.iadd, 1) := by decide +kernel
theorem dL_law_432 : decode cL_law 432 = .ok (.iaload, 1) := by decide +kernel
theorem dL_law_433 : decode cL_law 433 = .ok (.aload_n 0, 1) := by decide +kernel
theorem dL_law_434 : decode cL_law 434 = .ok (.iload_n 3, 1) := by decide +kernel
theorem dL_law_435 : decode cL_law 435 = .ok (.iconst 3, 1) := by decide +kernel
theorem dL_law_436 : decode cL_law 436 = .ok (.iadd, 1) := by decide +kernel
theorem dL_law_437 : decode cL_law 437 = .ok (.iaload, 1) := by decide +kernel
theorem dL_law_438 : decode cL_law 438 = .ok (.aload_n 0, 1) := by decide +kernel
theorem dL_law_439 : decode cL_law 439 = .ok (.iload_n 3, 1) := by decide +kernel
theorem dL_law_440 : decode cL_law 440 = .ok (.iconst 4, 1) := by decide +kernel
theorem dL_law_441 : decode cL_law 441 = .ok (.iadd, 1) := by decide +kernel
theorem dL_law_442 : decode cL_law 442 = .ok (.iaload, 1) := by decide +kernel
theorem dL_law_443 : decode cL_law 443 = .ok (.aload_n 0, 1) := by decide +kernel
theorem dL_law_444 : decode cL_law 444 = .ok (.iload_n 3, 1) := by decide +kernel
theorem dL_law_445 : decode cL_law 445 = .ok (.iconst 5, 1) := by decide +kernel
theorem dL_law_446 : decode cL_law 446 = .ok (.iadd, 1) := by decide +kernel
theorem dL_law_447 : decode cL_law 447 = .ok (.iaload, 1) := by decide +kernel
theorem dL_law_448 : decode cL_law 448 = .ok (.invokevirtual 64, 3) := by decide +kernel
theorem dL_law_451 : decode cL_law 451 = .ok (.aload_n 2, 1) := by decide +kernel
theorem dL_law_452 : decode cL_law 452 = .ok (.aload_n 0, 1) := by decide +kernel
theorem dL_law_453 : decode cL_law 453 = .ok (.iload_n 3, 1) := by decide +kernel
theorem dL_law_454 : decode cL_law 454 = .ok (.iconst 1, 1) := by decide +kernel
theorem dL_law_455 : decode cL_law 455 = .ok (.iadd, 1) := by decide +kernel
theorem dL_law_456 : decode cL_law 456 = .ok (.iaload, 1) := by decide +kernel
theorem dL_law_457 : decode cL_law 457 = .ok (.aload_n 0, 1) := by decide +kernel
theorem dL_law_458 : decode cL_law 458 = .ok (.iload_n 3, 1) := by decide +kernel
theorem dL_law_459 : decode cL_law 459 = .ok (.iconst 2, 1) := by decide +kernel
theorem dL_law_460 : decode cL_law 460 = .ok (.iadd, 1) := by decide +kernel
theorem dL_law_461 : decode cL_law 461 = .ok (.iaload, 1) := by decide +kernel
theorem dL_law_462 : decode cL_law 462 = .ok (.aload_n 0, 1) := by decide +kernel
theorem dL_law_463 : decode cL_law 463 = .ok (.iload_n 3, 1) := by decide +kernel
theorem dL_law_464 : decode cL_law 464 = .ok (.iconst 3, 1) := by decide +kernel
theorem dL_law_465 : decode cL_law 465 = .ok (.iadd, 1) := by decide +kernel
theorem dL_law_466 : decode cL_law 466 = .ok (.iaload, 1) := by decide +kernel
theorem dL_law_467 : decode cL_law 467 = .ok (.aload_n 0, 1) := by decide +kernel
theorem dL_law_468 : decode cL_law 468 = .ok (.iload_n 3, 1) := by decide +kernel
theorem dL_law_469 : decode cL_law 469 = .ok (.iconst 4, 1) := by decide +kernel
theorem dL_law_470 : decode cL_law 470 = .ok (.iadd, 1) := by decide +kernel
theorem dL_law_471 : decode cL_law 471 = .ok (.iaload, 1) := by decide +kernel
theorem dL_law_472 : decode cL_law 472 = .ok (.aload_n 0, 1) := by decide +kernel
theorem dL_law_473 : decode cL_law 473 = .ok (.iload_n 3, 1) := by decide +kernel
theorem dL_law_474 : decode cL_law 474 = .ok (.iconst 5, 1) := by decide +kernel
theorem dL_law_475 : decode cL_law 475 = .ok (.iadd, 1) := by decide +kernel
theorem dL_law_476 : decode cL_law 476 = .ok (.iaload, 1) := by decide +kernel
theorem dL_law_477 : decode cL_law 477 = .ok (.invokevirtual 68, 3) := by decide +kernel
theorem dL_law_480 : decode cL_law 480 = .ok (.if_icmp .eq 117, 3) := by decide +kernel
theorem dL_law_483 : decode cL_law 483 = .ok (.iconst 0, 1) := by decide +kernel
theorem dL_law_484 : decode cL_law 484 = .ok (.ireturn, 1) := by decide +kernel
theorem dL_law_485 : decode cL_law 485 = .ok (.aload_n 1, 1) := by decide +kernel
theorem dL_law_486 : decode cL_law 486 = .ok (.aload_n 0, 1) := by decide +kernel
theorem dL_law_487 : decode cL_law 487 = .ok (.iload_n 3, 1) := by decide +kernel
theorem dL_law_488 : decode cL_law 488 = .ok (.iconst 1, 1) := by decide +kernel
theorem dL_law_489 : decode cL_law 489 = .ok (.iadd, 1) := by decide +kernel
theorem dL_law_490 : decode cL_law 490 = .ok (.iaload, 1) := by decide +kernel
theorem dL_law_491 : decode cL_law 491 = .ok (.aload_n 0, 1) := by decide +kernel
theorem dL_law_492 : decode cL_law 492 = .ok (.iload_n 3, 1) := by decide +kernel
theorem dL_law_493 : decode cL_law 493 = .ok (.iconst 2, 1) := by decide +kernel
theorem dL_law_494 : decode cL_law 494 = .ok (.iadd, 1) := by decide +kernel
theorem dL_law_495 : decode cL_law 495 = .ok (.iaload, 1) := by decide +kernel
theorem dL_law_496 : decode cL_law 496 = .ok (.aload_n 0, 1) := by decide +kernel
theorem dL_law_497 : decode cL_law 497 = .ok (.iload_n 3, 1) := by decide +kernel
theorem dL_law_498 : decode cL_law 498 = .ok (.iconst 3, 1) := by decide +kernel
theorem dL_law_499 : decode cL_law 499 = .ok (.iadd, 1) := by decide +kernel
theorem dL_law_500 : decode cL_law 500 = .ok (.iaload, 1) := by decide +kernel
theorem dL_law_501 : decode cL_law 501 = .ok (.invokevirtual 69, 3) := by decide +kernel
theorem dL_law_504 : decode cL_law 504 = .ok (.aload_n 2, 1) := by decide +kernel
theorem dL_law_505 : decode cL_law 505 = .ok (.aload_n 0, 1) := by decide +kernel
theorem dL_law_506 : decode cL_law 506 = .ok (.iload_n 3, 1) := by decide +kernel
theorem dL_law_507 : decode cL_law 507 = .ok (.iconst 1, 1) := by decide +kernel
theorem dL_law_508 : decode cL_law 508 = .ok (.iadd, 1) := by decide +kernel
theorem dL_law_509 : decode cL_law 509 = .ok (.iaload, 1) := by decide +kernel
theorem dL_law_510 : decode cL_law 510 = .ok (.aload_n 0, 1) := by decide +kernel
theorem dL_law_511 : decode cL_law 511 = .ok (.iload_n 3, 1) := by decide +kernel
theorem dL_law_512 : decode cL_law 512 = .ok (.iconst 2, 1) := by decide +kernel
theorem dL_law_513 : decode cL_law 513 = .ok (.iadd, 1) := by decide +kernel
theorem dL_law_514 : decode cL_law 514 = .ok (.iaload, 1) := by decide +kernel
theorem dL_law_515 : decode cL_law 515 = .ok (.aload_n 0, 1) := by decide +kernel
theorem dL_law_516 : decode cL_law 516 = .ok (.iload_n 3, 1) := by decide +kernel
theorem dL_law_517 : decode cL_law 517 = .ok (.iconst 3, 1) := by decide +kernel
theorem dL_law_518 : decode cL_law 518 = .ok (.iadd, 1) := by decide +kernel
theorem dL_law_519 : decode cL_law 519 = .ok (.iaload, 1) := by decide +kernel
theorem dL_law_520 : decode cL_law 520 = .ok (.invokevirtual 73, 3) := by decide +kernel
theorem dL_law_523 : decode cL_law 523 = .ok (.if_icmp .eq 74, 3) := by decide +kernel
theorem dL_law_526 : decode cL_law 526 = .ok (.iconst 0, 1) := by decide +kernel
theorem dL_law_527 : decode cL_law 527 = .ok (.ireturn, 1) := by decide +kernel
theorem dL_law_528 : decode cL_law 528 = .ok (.aload_n 1, 1) := by decide +kernel
theorem dL_law_529 : decode cL_law 529 = .ok (.aload_n 0, 1) := by decide +kernel
theorem dL_law_530 : decode cL_law 530 = .ok (.iload_n 3, 1) := by decide +kernel
theorem dL_law_531 : decode cL_law 531 = .ok (.iconst 1, 1) := by decide +kernel
theorem dL_law_532 : decode cL_law 532 = .ok (.iadd, 1) := by decide +kernel
theorem dL_law_533 : decode cL_law 533 = .ok (.iaload, 1) := by decide +kernel
theorem dL_law_534 : decode cL_law 534 = .ok (.invokevirtual 74, 3) := by decide +kernel
theorem dL_law_537 : decode cL_law 537 = .ok (.aload_n 2, 1) := by decide +kernel
theorem dL_law_538 : decode cL_law 538 = .ok (.aload_n 0, 1) := by decide +kernel
theorem dL_law_539 : decode cL_law 539 = .ok (.iload_n 3, 1) := by decide +kernel
theorem dL_law_540 : decode cL_law 540 = .ok (.iconst 1, 1) := by decide +kernel
theorem dL_law_541 : decode cL_law 541 = .ok (.iadd, 1) := by decide +kernel
theorem dL_law_542 : decode cL_law 542 = .ok (.iaload, 1) := by decide +kernel
theorem dL_law_543 : decode cL_law 543 = .ok (.invokevirtual 77, 3) := by decide +kernel
theorem dL_law_546 : decode cL_law 546 = .ok (.if_icmp .eq 51, 3) := by decide +kernel
theorem dL_law_549 : decode cL_law 549 = .ok (.iconst 0, 1) := by decide +kernel
theorem dL_law_550 : decode cL_law 550 = .ok (.ireturn, 1) := by decide +kernel
theorem dL_law_551 : decode cL_law 551 = .ok (.aload_n 1, 1) := by decide +kernel
theorem dL_law_552 : decode cL_law 552 = .ok (.aload_n 0, 1) := by decide +kernel
theorem dL_law_553 : decode cL_law 553 = .ok (.iload_n 3, 1) := by decide +kernel
theorem dL_law_554 : decode cL_law 554 = .ok (.iconst 1, 1) := by decide +kernel
theorem dL_law_555 : decode cL_law 555 = .ok (.iadd, 1) := by decide +kernel
theorem dL_law_556 : decode cL_law 556 = .ok (.iaload, 1) := by decide +kernel
theorem dL_law_557 : decode cL_law 557 = .ok (.invokevirtual 78, 3) := by decide +kernel
theorem dL_law_560 : decode cL_law 560 = .ok (.aload_n 2, 1) := by decide +kernel
theorem dL_law_561 : decode cL_law 561 = .ok (.aload_n 0, 1) := by decide +kernel
theorem dL_law_562 : decode cL_law 562 = .ok (.iload_n 3, 1) := by decide +kernel
theorem dL_law_563 : decode cL_law 563 = .ok (.iconst 1, 1) := by decide +kernel
theorem dL_law_564 : decode cL_law 564 = .ok (.iadd, 1) := by decide +kernel
theorem dL_law_565 : decode cL_law 565 = .ok (.iaload, 1) := by decide +kernel
theorem dL_law_566 : decode cL_law 566 = .ok (.invokevirtual 81, 3) := by decide +kernel
theorem dL_law_569 : decode cL_law 569 = .ok (.if_icmp .eq 28, 3) := by decide +kernel
theorem dL_law_572 : decode cL_law 572 = .ok (.iconst 0, 1) := by decide +kernel
theorem dL_law_573 : decode cL_law 573 = .ok (.ireturn, 1) := by decide +kernel
theorem dL_law_574 : decode cL_law 574 = .ok (.aload_n 1, 1) := by decide +kernel
theorem dL_law_575 : decode cL_law 575 = .ok (.aload_n 0, 1) := by decide +kernel
theorem dL_law_576 : decode cL_law 576 = .ok (.iload_n 3, 1) := by decide +kernel
theorem dL_law_577 : decode cL_law 577 = .ok (.iconst 1, 1) := by decide +kernel
theorem dL_law_578 : decode cL_law 578 = .ok (.iadd, 1) := by decide +kernel
theorem dL_law_579 : decode cL_law 579 = .ok (.iaload, 1) := by decide +kernel
theorem dL_law_580 : decode cL_law 580 = .ok (.invokevirtual 82, 3) := by decide +kernel
theorem dL_law_583 : decode cL_law 583 = .ok (.aload_n 2, 1) := by decide +kernel
theorem dL_law_584 : decode cL_law 584 = .ok (.aload_n 0, 1) := by decide +kernel
theorem dL_law_585 : decode cL_law 585 = .ok (.iload_n 3, 1) := by decide +kernel
theorem dL_law_586 : decode cL_law 586 = .ok (.iconst 1, 1) := by decide +kernel
theorem dL_law_587 : decode cL_law 587 = .ok (.iadd, 1) := by decide +kernel
theorem dL_law_588 : decode cL_law 588 = .ok (.iaload, 1) := by decide +kernel
theorem dL_law_589 : decode cL_law 589 = .ok (.invokevirtual 85, 3) := by decide +kernel
theorem dL_law_592 : decode cL_law 592 = .ok (.if_icmp .eq 5, 3) := by decide +kernel
theorem dL_law_595 : decode cL_law 595 = .ok (.iconst 0, 1) := by decide +kernel
theorem dL_law_596 : decode cL_law 596 = .ok (.ireturn, 1) := by decide +kernel
theorem dL_law_597 : decode cL_law 597 = .ok (.iinc 3 6, 3) := by decide +kernel
theorem dL_law_600 : decode cL_law 600 = .ok (.goto (-582), 3) := by decide +kernel
theorem dL_law_603 : decode cL_law 603 = .ok (.iconst 1, 1) := by decide +kernel
theorem dL_law_604 : decode cL_law 604 = .ok (.ireturn, 1) := by decide +kernel
end
section
/-- the types of the fields of the classes: 0 int, 1 long, 2 reference -/
def ftyL : Nat → List Nat
  | 0 => [2, 2, 0, 0, 0, 0]
  | 1 => [2, 2, 0, 2]
  | 2 => [2, 2, 2, 0]
  | 3 => [2, 2, 0, 0, 0, 0, 0]
  | 4 => [2, 0, 0]
  | 5 => [2, 2, 2, 2, 0]
  | 6 => [2, 2, 0]
  | 7 => [2, 2, 0, 0, 1, 1, 1, 1]
  | 8 => [2, 0]
  | 9 => [2, 2, 2, 2, 2, 2, 2, 2, 2, 2, 2]
  | 10 => [0, 2, 2, 2, 0, 0, 2, 2, 2, 0, 2, 0, 0, 0, 0, 0, 0, 2, 2, 2, 0, 2, 0, 2, 1, 1, 1, 1, 0, 0, 0]
  | _ => []
/-! ===== the abstract heap: shape (kinds and references) and memory (ints and longs) ===== -/
/-- the words that stay good, and those that move by laws of their own -/
def lw_good : List Cond := lw_tbl.filter goodWord
def lw_isNw : Cond → Bool
  | .methodLinkNest _ _ _ _ => true
  | .arrayOver (.object _) => true
  | .arrayOver (.array _) => true
  | _ => false
def lw_nw : List Cond := lw_tbl.filter lw_isNw
abbrev SH : Type := List (Nat × Nat) × (Nat → Nat → Option Nat)
abbrev ME : Type := (Nat → Nat → Int32) × (Nat → Nat → Int64)
/-- the kind of a cell: below 11 an object of that class, 11 int[], 12 long[], 13 boolean[], 14 Log[], 15 long[][] -/
def kO (S : SH) (r : Nat) : Nat := (S.1.getD r (99, 0)).1
def lO (S : SH) (r : Nat) : Nat := (S.1.getD r (99, 0)).2
def sO (S : SH) : Nat := (S.1.map (fun q => q.2)).sum
def up2 {α : Type} (f : Nat → Nat → α) (r k : Nat) (v : α) : Nat → Nat → α := fun a j => if a = r then (if j = k then v else f a j) else f a j
def nF (c : Nat) : Nat := (ftyL c).length
def fty (c k : Nat) : Nat := (ftyL c).getD k 9
def fV (b : Nat) (S : SH) (me : ME) (c r : Nat) : Nat → Value := fun k => if fty c k = 0 then .int (me.1 r k) else if fty c k = 1 then .long (me.2 r k) else va_rf ((S.2 r k).map (fun y => b + y))
def aTy (c : Nat) : FieldType := if c = 11 then .int else if c = 12 then .long else if c = 13 then .boolean else if c = 14 then .object "StrokeSeek$Log" else .array .long
def aV (b : Nat) (S : SH) (me : ME) (c r : Nat) : Nat → Value := fun j => if c = 11 ∨ c = 13 then .int (me.1 r j) else if c = 12 then .long (me.2 r j) else va_rf ((S.2 r j).map (fun y => b + y))
def cO (U : State) (D : va_G) (b : Nat) (S : SH) (me : ME) (H : Heap) (r : Nat) : Prop :=
  (kO S r < 11 → t_OB (b + r) (D.1 (kO S r)) (nF (kO S r)) (D.2 (kO S r)) H (fV b S me (kO S r) r)) ∧
  (11 ≤ kO S r → ∃ cA : ClassId, (ArrOfT U cA (aTy (kO S r)) ∧ va_RA U cA (aTy (kO S r))) ∧ H[b + r]? = some (arrV cA (lO S r) (aV b S me (kO S r) r)))
def HR (U : State) (D : va_G) (b : Nat) (S : SH) (me : ME) (H : Heap) : Prop := H.size = b + S.1.length ∧ ∀ r, r < S.1.length → cO U D b S me H r
def KD (U : State) (D : va_G) : Prop := (∀ (c : Nat) (q : vw_C), vwCl[c]? = some q → u_Kn U q.1 q.2.1 q.2.2 (D.1 c) (D.2 c)) ∧ ∀ w ∈ lw_nw, va_Nw w U
theorem kO_lt {S : SH} {r c : Nat} (h : kO S r = c) (hc : c < 99) : r < S.1.length := by
  rcases Nat.lt_or_ge r S.1.length with q | q
  · exact q
  · unfold kO at h
    rw [show S.1.getD r (99, 0) = (99, 0) by simp [List.getD, List.getElem?_eq_none q]] at h
    simp at h
    omega
theorem cO_moved {u U : State} {D : va_G} {b : Nat} {S : SH} {me : ME} {H : Heap} {r : Nat} (hvm : u.vm.Alike U.vm) (h : cO u D b S me H r) : cO U D b S me H r := by
  refine ⟨h.1, fun q => ?_⟩
  obtain ⟨cA, ⟨h1, h2⟩, h3⟩ := h.2 q
  exact ⟨cA, ⟨arrOfT_moved hvm h1, h2.moved hvm⟩, h3⟩
theorem HR_moved {u U : State} {D : va_G} {b : Nat} {S : SH} {me : ME} {H : Heap} (hvm : u.vm.Alike U.vm) (h : HR u D b S me H) : HR U D b S me H := ⟨h.1, fun r hr => cO_moved hvm (h.2 r hr)⟩
theorem nw_overA {t : FieldType} {u U : State} (hvm : u.vm.Alike U.vm) (h : va_Nw (.arrayOver (.array t)) u) : va_Nw (.arrayOver (.array t)) U := by
  unfold va_Nw Cond.before at h ⊢
  simp only [Cond.holds, Cond.value, beq_iff_eq] at h ⊢
  rw [hvm.findClass]
  cases hc : u.vm.findClass (FieldType.array t).toString with
  | none => simp [hc] at h
  | some comp =>
    rw [hc, Option.bind_some] at h
    rw [Option.bind_some]
    have hi : (U.vm.classes.findIdx? fun (x : Class) => match x.kind with | .array component _ => component == comp | _ => false) = (u.vm.classes.findIdx? fun (x : Class) => match x.kind with | .array component _ => component == comp | _ => false) := by
      have e1 := va_idx_bare U.vm comp
      have e2 := va_idx_bare u.vm comp
      rw [hvm.bare_eq] at e1
      exact e1.symm.trans e2
    rw [Option.bind_eq_some_iff] at h ⊢
    obtain ⟨c, h1, h2⟩ := h
    refine ⟨c, hi.trans h1, ?_⟩
    rw [Option.map_eq_some_iff] at h2 ⊢
    obtain ⟨k, hk, hb⟩ := h2
    obtain ⟨k', hk', he⟩ := hvm.2.2 _ _ hk
    refine ⟨k', hk', ?_⟩
    have hkind : k'.kind = k.kind := by rw [he]
    rw [hkind, hvm.findClass]
    exact hb
theorem nw_warm {w : Cond} (hw : lw_isNw w = true) {s U : State} (hW : s.WarmedH U.vm) (h : va_Nw w s) : va_Nw w U := by
  cases w <;> first | exact va_Nw.warmM hW h | (simp [lw_isNw] at hw; done) | skip
  rename_i ty
  cases ty <;> first | (simp [lw_isNw] at hw; done) | exact va_AO.moved hW.alike h | exact nw_overA hW.alike h
theorem KD_moved {s U : State} {D : va_G} (hW : s.WarmedH U.vm) (h : KD s D) : KD U D :=
  ⟨fun c q hq => u_Kn_moved hW.alike (h.1 c q hq), fun w hw => nw_warm (List.mem_filter.mp hw).2 hW (h.2 w hw)⟩
/-- what a method asks of its start, what it says of its end -/
def PcA (D : va_G) (b : Nat) (av : List Value) (S : SH) (me : ME) : Array Value → State → Prop := fun v U => v = av.toArray ∧ HR U D b S me U.heap ∧ KD U D
def QcA (D : va_G) (b : Nat) (S : SH) (me : ME) (rv : Option Value) : Array Value → State → Outcome → State → Prop := fun _ st o t => o = .returned rv ∧ HR t D b S me t.heap ∧ ∀ q : Nat, q < b → t.heap[q]? = st.heap[q]?
def Ct (l : Launch) (D : va_G) (b : Nat) (y : MethodName) (cc : ByteArray) (nL : Nat) (ret : Option FieldType) (fr lo mc ms : Nat) (av : List Value) (S : SH) (me : ME) (S' : SH) (me' : ME) (rv : Option Value) : Prop :=
  Met l y (.code y cc nL ret :: lw_good) { frames := fr, cells := mc, slots := ms, locals := lo } (PcA D b av S me) (QcA D b S' me' rv) mc ms (fun q => b ≤ q)
abbrev XT : Type := Program × Launch × Env × Room × State × MethodId × Array Value × List Frame × Method × Code × va_G × (State → Prop) × Nat × Nat
/-- the machine goes on from here to its end: at pc, with the locals lv and the stack st, the heap as S and me tell -/
def WS : XT → Nat → Nat → SH → ME → Nat → List (Nat × Value) → List Value → Prop
  | (p, l, e, R, s, m, args, below, meth, c, D, Q, n0, m0), b, nL, S, me, pc, lv, st => ∀ (H : Heap) (locs : List Loc) (ls : Array Slot), HR s D b S me H → (∀ q : Nat, q < b → H[q]? = s.heap[q]?) → (∀ q ∈ locs, b ≤ q.base) → (n0 ≤ S.1.length ∧ m0 ≤ sO S ∧ S.1.length - n0 ≤ R.cells ∧ sO S - m0 ≤ R.slots) → lv_has ls nL lv → W p l e R s m args below meth c H locs (S.1.length - n0) (sO S - m0) Q (F0 m pc ls st)
/-- what is fixed in a method's walk -/
def CX : XT → Launch → va_G → Nat → ByteArray → Nat → String → String → Nat → Nat → Nat → Nat → Prop
  | (p, l', e, R, s, m, args, below, meth, c, D', Q, n0, m0), l, D, b, cc, nL, own, nm, fr, lo, mc, ms => l' = l ∧ D' = D ∧ p.tables.exec = Jvm.exec ∧ c.code = cc ∧ c.maxLocals = nL ∧ s.vm.findClass own = some m.cls ∧ (∀ w ∈ lw_good, w.before args s = true) ∧ KD s D ∧ b ≤ s.heap.size ∧ (R.frames = fr ∧ R.locals = lo ∧ R.cells = mc ∧ R.slots = ms) ∧ meth.name = nm ∧ meth.locks = false
/-- what the end must be -/
def EX : XT → Nat → Option FieldType → SH → ME → Option Value → Prop
  | (p, l, e, R, s, m, args, below, meth, c, D, Q, n0, m0), b, ret, S', me', rv => meth.sig.returnType = ret ∧ Q = MQ below (QcA D b S' me' rv) args s R.cells R.slots (fun q => b ≤ q)
theorem HR_eq {U : State} {D : va_G} {b : Nat} {S : SH} {me : ME} {H H1 : Heap} (h : HR U D b S me H) (hz : H1.size = H.size) (ho : ∀ q : Nat, b ≤ q → H1[q]? = H[q]?) : HR U D b S me H1 := by
  refine ⟨hz.trans h.1, fun r hr => ⟨fun q => ((h.2 r hr).1 q).kept (ho _ (by omega)), fun q => ?_⟩⟩
  obtain ⟨cA, h1, h2⟩ := (h.2 r hr).2 q
  exact ⟨cA, h1, (ho _ (by omega)).trans h2⟩
/-- one cell has become another, as the memory tells -/
theorem HR_put {U : State} {D : va_G} {b : Nat} {S : SH} {me me1 : ME} {H H1 : Heap} {r : Nat} (h : HR U D b S me H) (hz : H1.size = H.size) (ho : ∀ q : Nat, q ≠ b + r → H1[q]? = H[q]?) (hI : ∀ a, a ≠ r → me1.1 a = me.1 a) (hJ : ∀ a, a ≠ r → me1.2 a = me.2 a) (hc : r < S.1.length → cO U D b S me1 H1 r) : HR U D b S me1 H1 := by
  refine ⟨hz.trans h.1, fun a ha => ?_⟩
  by_cases hr : a = r
  · subst hr
    exact hc ha
  · have e1 : H1[b + a]? = H[b + a]? := ho _ (by omega)
    have eF : fV b S me1 (kO S a) a = fV b S me (kO S a) a := by
      funext k
      simp only [fV, hI a hr, hJ a hr]
    have eA : aV b S me1 (kO S a) a = aV b S me (kO S a) a := by
      funext k
      simp only [aV, hI a hr, hJ a hr]
    refine ⟨fun q => ?_, fun q => ?_⟩
    · rw [eF]
      exact ((h.2 a ha).1 q).kept e1
    · obtain ⟨cA, h1, h2⟩ := (h.2 a ha).2 q
      rw [eA]
      exact ⟨cA, h1, e1.trans h2⟩
def gI (S : SH) (me : ME) (c k r : Nat) : Option Int32 := if kO S r = c then some (me.1 r k) else none
def gJ (S : SH) (me : ME) (c k r : Nat) : Option Int64 := if kO S r = c then some (me.2 r k) else none
def gR (S : SH) (c k r : Nat) : Option Nat := if kO S r = c then S.2 r k else none
def sI (S : SH) (me : ME) (c k r : Nat) (v : Int32) : Option ME := if kO S r = c then some (up2 me.1 r k v, me.2) else none
def sJ (S : SH) (me : ME) (c k r : Nat) (v : Int64) : Option ME := if kO S r = c then some (me.1, up2 me.2 r k v) else none
def aI (S : SH) (me : ME) (c r : Nat) (i : Int32) : Option Int32 := if kO S r = c ∧ ¬ (i < 0 ∨ lO S r ≤ i.toNatClampNeg) then some (me.1 r i.toNatClampNeg) else none
def aJ (S : SH) (me : ME) (r : Nat) (i : Int32) : Option Int64 := if kO S r = 12 ∧ ¬ (i < 0 ∨ lO S r ≤ i.toNatClampNeg) then some (me.2 r i.toNatClampNeg) else none
def aR (S : SH) (c r : Nat) (i : Int32) : Option Nat := if kO S r = c ∧ ¬ (i < 0 ∨ lO S r ≤ i.toNatClampNeg) then S.2 r i.toNatClampNeg else none
def uI (S : SH) (me : ME) (r : Nat) (i v : Int32) : Option ME := if kO S r = 11 ∧ ¬ (i < 0 ∨ lO S r ≤ i.toNatClampNeg) then some (up2 me.1 r i.toNatClampNeg v, me.2) else none
def uZ (S : SH) (me : ME) (r : Nat) (i v : Int32) : Option ME := if kO S r = 13 ∧ ¬ (i < 0 ∨ lO S r ≤ i.toNatClampNeg) then some (up2 me.1 r i.toNatClampNeg (vp_nar .boolean v), me.2) else none
def uJ (S : SH) (me : ME) (r : Nat) (i : Int32) (v : Int64) : Option ME := if kO S r = 12 ∧ ¬ (i < 0 ∨ lO S r ≤ i.toNatClampNeg) then some (me.1, up2 me.2 r i.toNatClampNeg v) else none
theorem ite_s {c : Prop} [Decidable c] {α : Type} {a : α} {b : Option α} (h : (if c then some a else none) = b) {x : α} (hb : b = some x) : c ∧ a = x := by
  by_cases hc : c
  · rw [if_pos hc, hb] at h
    exact ⟨hc, Option.some.inj h⟩
  · rw [if_neg hc, hb] at h
    cases h
theorem ite_o {c : Prop} [Decidable c] {α : Type} {a : Option α} {x : α} (h : (if c then a else none) = some x) : c ∧ a = some x := by
  by_cases hc : c
  · rw [if_pos hc] at h
    exact ⟨hc, h⟩
  · rw [if_neg hc] at h
    cases h
theorem bnd {α β : Type} {x : Option α} {f : α → Option β} {r : β} (h : x.bind f = some r) : ∃ v, x = some v ∧ f v = some r := by
  cases x with
  | none => cases h
  | some v => exact ⟨v, rfl, h⟩
theorem if_t {α : Type} {c : Prop} [Decidable c] {a b : Option α} {r : α} (h : (if c then a else b) = some r) (hc : c) : a = some r := by rwa [if_pos hc] at h
theorem if_f {α : Type} {c : Prop} [Decidable c] {a b : Option α} {r : α} (h : (if c then a else b) = some r) (hc : ¬ c) : b = some r := by rwa [if_neg hc] at h
/-- a field: its class c, its number k, its type t, by the link that a method of class own has at index -/
def FF (own : String) (index c k t : Nat) (fin : Bool) : Prop := c < 11 ∧ fty c k = t ∧ ∃ q : vw_C, vwCl[c]? = some q ∧ q.2.2 = nF c ∧ (∀ w ∈ u_ws q.1 q.2.1 q.2.2, w ∈ lw_good) ∧ k < q.2.2 ∧ Cond.fieldLink own index (q.2.1 k).1 (q.2.1 k).2.1 (q.2.1 k).2.2.1 ∈ lw_good ∧ (q.2.1 k).2.2.2 = fin ∧ (q.2.1 k).1 = q.1 ∧ (∀ a, a < q.2.2 → ∀ b, b < q.2.2 → a ≠ b → (q.2.1 a).2.1 ≠ (q.2.1 b).2.1) ∧ ∃ ty0 : Nat → FieldType, (∀ j, j < q.2.2 → parseFieldDescriptor (q.2.1 j).2.2.1 = some (ty0 j)) ∧ (t = 0 → ty0 k = .int) ∧ (t = 1 → ty0 k = .long) ∧ (t = 2 → (ty0 k).isReference = true)
section HROWS
variable {p : Program} {l : Launch} {e : Env} {R : Room} {s : State} {m : MethodId} {args : Array Value} {below : List Frame} {meth : Method} {c : Code} {H : Heap} {locs : List Loc} {cells slots : Nat} {Q : State → Prop}
variable {cc : ByteArray} {pc : Nat} {ls : Array Slot} {rest : List Value} {D : va_G}
theorem w_get (hexec : p.tables.exec = Jvm.exec) (hb : c.code = cc) {own : String} (hown : s.vm.findClass own = some m.cls) (hts : ∀ w ∈ lw_good, w.before args s = true) (hKD : KD s D) {index ci k t a : Nat} {fin : Bool} {V : Nat → Value} (hF : FF own index ci k t fin) (hO : t_OB a (D.1 ci) (nF ci) (D.2 ci) H V) (hdg : decode cc pc = .ok (.getfield index, 3))
    (kk : W p l e R s m args below meth c H locs cells slots Q (F0 m (pc + 3) ls (V k :: rest))) : W p l e R s m args below meth c H locs cells slots Q (F0 m pc ls (.ref a :: rest)) := by
  obtain ⟨-, -, q, hq, hN, hin, hk, hlink, -, -, -, -⟩ := hF
  have hkN : k < nF ci := by rw [← hN]; exact hk
  obtain ⟨cell, q1, q2, q3, q4⟩ := hO
  obtain ⟨hS, hfc, kC, hkC, hkind⟩ := hKD.1 ci _ hq
  obtain ⟨cf, kf, fi, f, hi, hsl⟩ := hS k hk
  refine W.getf hexec hb hown (hts _ hlink) hi (u_facts hfc hkC (u_lays hts hin hk) hi).1 q1 (by rw [q3]; exact fun h => by cases h) (v := V k) ?_ rfl rfl hdg kk
  rw [hsl, q4 k hkN]
theorem w_put (hexec : p.tables.exec = Jvm.exec) (hb : c.code = cc) {own : String} (hown : s.vm.findClass own = some m.cls) (hts : ∀ w ∈ lw_good, w.before args s = true) (hKD : KD s D) {index ci k t a : Nat} {fin : Bool} {V : Nat → Value} (hF : FF own index ci k t fin) (hfi : fin = false ∨ (meth.name = "<init>" ∧ ∀ q : vw_C, vwCl[ci]? = some q → q.1 = own)) (hO : t_OB a (D.1 ci) (nF ci) (D.2 ci) H V) {v : Value} (hv : ∀ ty : FieldType, (t = 0 → ty = .int) → (t = 1 → ty = .long) → (t = 2 → ty.isReference = true) → narrow ty v = v ∧ fits ty v = true) (hdg : decode cc pc = .ok (.putfield index, 3))
    (kk : ∀ (H1 : Heap) (z : Nat), t_OB a (D.1 ci) (nF ci) (D.2 ci) H1 (updV V k v) → H1.size = H.size → (∀ q : Nat, q ≠ a → H1[q]? = H[q]?) → W p l e R s m args below meth c H1 (locs ++ [⟨a, z⟩]) cells slots Q (F0 m (pc + 3) ls rest)) : W p l e R s m args below meth c H locs cells slots Q (F0 m pc ls (v :: .ref a :: rest)) := by
  obtain ⟨-, -, q, hq, hN, hin, hk, hlink, hfin, hdecl, hnm, ty0, hty, t0, t1, t2⟩ := hF
  have hkN : k < nF ci := by rw [← hN]; exact hk
  obtain ⟨cell, q1, q2, q3, q4⟩ := hO
  obtain ⟨hS, hfc, kC, hkC, hkind⟩ := hKD.1 ci _ hq
  have hap : ∀ x y, x < nF ci → y < nF ci → x ≠ y → (D.2 ci) x ≠ (D.2 ci) y := by
    intro x y hx hy hne
    rw [← hN] at hx hy
    obtain ⟨_, _, _, fa, hia, ea⟩ := hS x hx
    obtain ⟨_, _, _, fb, hib, eb⟩ := hS y hy
    rw [← ea, ← eb]
    refine u_apart (u_lays hts hin hx) (u_lays hts hin hy) hia hib ?_
    rw [(State.fieldFound?_type hia (hty x hx)).1, (State.fieldFound?_type hib (hty y hy)).1]
    exact hnm x hx y hy hne
  obtain ⟨cf, kf, fi, f, hi, hsl⟩ := hS k hk
  have hlay := hts _ (hin _ (u_in_lay hk))
  have hst := (u_facts hfc hkC (u_lays hts hin hk) hi).1
  obtain ⟨hn, hfit⟩ := hv (ty0 k) t0 t1 t2
  have hd := hty k hk
  cases fin with
  | false =>
    unfold u_lay at hlay
    rw [if_neg (by rw [hfin]; decide)] at hlay
    have h6 := u_store hfc hkC hkind hlay hi hd hn hfit
    refine W.putK hexec hb (f := f) ⟨hown, hts _ hlink, ⟨_, _, _, hi⟩, hst⟩ (by rw [q2]; exact h6) q1 q3 (by rw [hsl]; exact k2_hasslot (q4 k hkN)) rfl rfl hdg fun H' e1 e2 e3 => ?_
    rw [hsl] at e1 ⊢
    exact kk H' _ ⟨_, e1, q2, q3, t_set q4 hap hkN v⟩ e2 e3
  | true =>
    rcases hfi with h9 | ⟨hin2, hown2⟩
    · cases h9
    · unfold u_lay at hlay
      rw [if_pos hfin] at hlay
      have hcf : m.cls = cf := by
        obtain ⟨_, _, c', _, _, _, -, -, hf', -, -, -, hown3, -⟩ := Cond.laysFinal_spec hlay
        have e1 : c' = cf := by have := hi.symm.trans hf'; simp at this; exact this.1.symm
        rw [hdecl, hown2 q hq] at hown3
        rw [← e1]; exact Option.some.inj (hown.symm.trans hown3)
      have h6 := u_fits hfc hkC hkind (Or.inr hlay) hi hd hn hfit
      refine W.putFinK hexec hb hown (hts _ hlink) hi hst hcf hin2 (by rw [q2]; exact h6) q1 q3 (by rw [hsl]; exact k2_hasslot (q4 k hkN)) rfl rfl hdg fun H' e1 e2 e3 => ?_
      rw [hsl] at e1 ⊢
      exact kk H' _ ⟨_, e1, q2, q3, t_set q4 hap hkN v⟩ e2 e3
end HROWS
section WROWS
variable {X : XT} {l : Launch} {D : va_G} {b : Nat} {cc : ByteArray} {nL : Nat} {own nm : String} {fr lo mc ms : Nat} {S : SH} {me me1 : ME} {pc : Nat} {lv : List (Nat × Value)} {st : List Value}
theorem ws_getI (cx : CX X l D b cc nL own nm fr lo mc ms) {c k r index : Nat} {fin : Bool} {v : Int32} (hF : FF own index c k 0 fin) (hv : gI S me c k r = some v) (d : decode cc pc = .ok (.getfield index, 3)) (kk : WS X b nL S me (pc + 3) lv (.int v :: st)) : WS X b nL S me pc lv (.ref (b + r) :: st) := by
  obtain ⟨p, l', e, R, s, m, args, below, meth, cd, D', Q, n0, m0⟩ := X
  obtain ⟨rfl, rfl, hx, hb, hml, hown, hts, hKD, -⟩ := cx
  intro H locs ls h1 h2 h3 h4 h5
  obtain ⟨g1, rfl⟩ := ite_s hv rfl
  have hlt := hF.1
  have hc := (h1.2 r (kO_lt g1 (by omega))).1 (by omega)
  rw [g1] at hc
  refine w_get hx hb hown hts hKD hF hc d ?_
  have e : fV b S me c r k = .int (me.1 r k) := by simp [fV, hF.2.1]
  rw [e]
  exact kk H locs ls h1 h2 h3 h4 h5
theorem ws_getJ (cx : CX X l D b cc nL own nm fr lo mc ms) {c k r index : Nat} {fin : Bool} {v : Int64} (hF : FF own index c k 1 fin) (hv : gJ S me c k r = some v) (d : decode cc pc = .ok (.getfield index, 3)) (kk : WS X b nL S me (pc + 3) lv (.long v :: st)) : WS X b nL S me pc lv (.ref (b + r) :: st) := by
  obtain ⟨p, l', e, R, s, m, args, below, meth, cd, D', Q, n0, m0⟩ := X
  obtain ⟨rfl, rfl, hx, hb, hml, hown, hts, hKD, -⟩ := cx
  intro H locs ls h1 h2 h3 h4 h5
  obtain ⟨g1, rfl⟩ := ite_s hv rfl
  have hlt := hF.1
  have hc := (h1.2 r (kO_lt g1 (by omega))).1 (by omega)
  rw [g1] at hc
  refine w_get hx hb hown hts hKD hF hc d ?_
  have e : fV b S me c r k = .long (me.2 r k) := by simp [fV, hF.2.1]
  rw [e]
  exact kk H locs ls h1 h2 h3 h4 h5
theorem ws_getR (cx : CX X l D b cc nL own nm fr lo mc ms) {c k r index : Nat} {fin : Bool} {v : Nat} (hF : FF own index c k 2 fin) (hv : gR S c k r = some v) (d : decode cc pc = .ok (.getfield index, 3)) (kk : WS X b nL S me (pc + 3) lv (.ref (b + v) :: st)) : WS X b nL S me pc lv (.ref (b + r) :: st) := by
  obtain ⟨p, l', e, R, s, m, args, below, meth, cd, D', Q, n0, m0⟩ := X
  obtain ⟨rfl, rfl, hx, hb, hml, hown, hts, hKD, -⟩ := cx
  intro H locs ls h1 h2 h3 h4 h5
  obtain ⟨g1, g3⟩ := ite_o hv
  have hlt := hF.1
  have hc := (h1.2 r (kO_lt g1 (by omega))).1 (by omega)
  rw [g1] at hc
  refine w_get hx hb hown hts hKD hF hc d ?_
  have e : fV b S me c r k = .ref (b + v) := by simp [fV, hF.2.1, g3, va_rf]
  rw [e]
  exact kk H locs ls h1 h2 h3 h4 h5
theorem ws_putI (cx : CX X l D b cc nL own nm fr lo mc ms) {c k r index : Nat} {v : Int32} (hF : FF own index c k 0 false) (hv : sI S me c k r v = some me1) (d : decode cc pc = .ok (.putfield index, 3)) (kk : WS X b nL S me1 (pc + 3) lv st) : WS X b nL S me pc lv (.int v :: .ref (b + r) :: st) := by
  obtain ⟨p, l', e, R, s, m, args, below, meth, cd, D', Q, n0, m0⟩ := X
  obtain ⟨rfl, rfl, hx, hb, hml, hown, hts, hKD, -⟩ := cx
  intro H locs ls h1 h2 h3 h4 h5
  obtain ⟨g1, rfl⟩ := ite_s hv rfl
  have hlt := hF.1
  have hrl := kO_lt g1 (by omega)
  have hc := (h1.2 r hrl).1 (by omega)
  rw [g1] at hc
  refine w_put hx hb hown hts hKD hF (Or.inl rfl) hc (v := .int v) (fun ty a _ _ => by rw [a rfl]; exact ⟨rfl, rfl⟩) d (fun H1 z e1 e2 e3 => ?_)
  refine kk H1 _ ls (HR_put h1 e2 e3 (fun a ha => by funext j; simp [up2, ha]) (fun a ha => rfl) (fun _ => ⟨fun _ => ?_, fun q => absurd q (by omega)⟩)) (fun q hq => (e3 q (by omega)).trans (h2 q hq)) (fun q hq => ?_) h4 h5
  · rw [g1]
    refine e1.to (fun j _ => ?_)
    by_cases hj : j = k
    · subst hj
      simp [updV, fV, hF.2.1, up2]
    · simp [updV, fV, up2, hj]
  · rcases List.mem_append.mp hq with h | h
    · exact h3 q h
    · rw [List.mem_singleton.mp h]; exact Nat.le_add_right b r
theorem ws_putJ (cx : CX X l D b cc nL own nm fr lo mc ms) {c k r index : Nat} {v : Int64} (hF : FF own index c k 1 false) (hv : sJ S me c k r v = some me1) (d : decode cc pc = .ok (.putfield index, 3)) (kk : WS X b nL S me1 (pc + 3) lv st) : WS X b nL S me pc lv (.long v :: .ref (b + r) :: st) := by
  obtain ⟨p, l', e, R, s, m, args, below, meth, cd, D', Q, n0, m0⟩ := X
  obtain ⟨rfl, rfl, hx, hb, hml, hown, hts, hKD, -⟩ := cx
  intro H locs ls h1 h2 h3 h4 h5
  obtain ⟨g1, rfl⟩ := ite_s hv rfl
  have hlt := hF.1
  have hrl := kO_lt g1 (by omega)
  have hc := (h1.2 r hrl).1 (by omega)
  rw [g1] at hc
  refine w_put hx hb hown hts hKD hF (Or.inl rfl) hc (v := .long v) (fun ty _ a _ => by rw [a rfl]; exact ⟨rfl, rfl⟩) d (fun H1 z e1 e2 e3 => ?_)
  refine kk H1 _ ls (HR_put h1 e2 e3 (fun a ha => rfl) (fun a ha => by funext j; simp [up2, ha]) (fun _ => ⟨fun _ => ?_, fun q => absurd q (by omega)⟩)) (fun q hq => (e3 q (by omega)).trans (h2 q hq)) (fun q hq => ?_) h4 h5
  · rw [g1]
    refine e1.to (fun j _ => ?_)
    by_cases hj : j = k
    · subst hj
      simp [updV, fV, hF.2.1, up2]
    · simp [updV, fV, up2, hj]
  · rcases List.mem_append.mp hq with h | h
    · exact h3 q h
    · rw [List.mem_singleton.mp h]; exact Nat.le_add_right b r
end WROWS
end
section
def sR (S : SH) (c k r v : Nat) : Option SH := if kO S r = c then some (S.1, up2 S.2 r k (some v)) else none
def uR (S : SH) (r : Nat) (i : Int32) (v : Nat) : Option SH := if (kO S r = 14 ∧ kO S v = 2) ∧ ¬ (i < 0 ∨ lO S r ≤ i.toNatClampNeg) then some (S.1, up2 S.2 r i.toNatClampNeg (some v)) else none
/-- a cell that comes behind the others, all of it 0 and null -/
def nS (S : SH) (c n : Nat) : SH := (S.1 ++ [(c, n)], fun a => if a = S.1.length then (fun _ => none) else S.2 a)
def nM (S : SH) (me : ME) : ME := (fun a => if a = S.1.length then (fun _ => 0) else me.1 a, fun a => if a = S.1.length then (fun _ => 0) else me.2 a)
def cpI (S : SH) (me : ME) (r0 : Nat) (sp : Int32) (r1 : Nat) (dp n : Int32) : Option ME := if (kO S r0 = 11 ∧ kO S r1 = 11) ∧ (¬ sp < 0 ∧ ¬ dp < 0 ∧ ¬ n < 0) ∧ sp.toNatClampNeg + n.toNatClampNeg ≤ lO S r0 ∧ dp.toNatClampNeg + n.toNatClampNeg ≤ lO S r1 then some (va_up me.1 r1 (va_cpy (me.1 r0) (me.1 r1) sp.toNatClampNeg dp.toNatClampNeg n.toNatClampNeg), me.2) else none
theorem HR_putS {U : State} {D : va_G} {b : Nat} {S S1 : SH} {me : ME} {H H1 : Heap} {r : Nat} (h : HR U D b S me H) (hz : H1.size = H.size) (ho : ∀ q : Nat, q ≠ b + r → H1[q]? = H[q]?) (hk : S1.1 = S.1) (hR : ∀ a, a ≠ r → S1.2 a = S.2 a) (hc : r < S.1.length → cO U D b S1 me H1 r) : HR U D b S1 me H1 := by
  refine ⟨by rw [hk]; exact hz.trans h.1, fun a ha => ?_⟩
  rw [hk] at ha
  by_cases hr : a = r
  · subst hr
    exact hc ha
  · have e1 : H1[b + a]? = H[b + a]? := ho _ (by omega)
    have ek : kO S1 a = kO S a := by simp only [kO, hk]
    have el : lO S1 a = lO S a := by simp only [lO, hk]
    have eF : fV b S1 me (kO S a) a = fV b S me (kO S a) a := by
      funext k
      simp only [fV, hR a hr]
    have eA : aV b S1 me (kO S a) a = aV b S me (kO S a) a := by
      funext k
      simp only [aV, hR a hr]
    unfold cO
    rw [ek, el, eF, eA]
    refine ⟨fun q => ((h.2 a ha).1 q).kept e1, fun q => ?_⟩
    obtain ⟨cA, h1, h2⟩ := (h.2 a ha).2 q
    exact ⟨cA, h1, e1.trans h2⟩
theorem kO_new (S : SH) (c n : Nat) : kO (nS S c n) S.1.length = c := by simp [kO, nS, List.getD]
theorem lO_new (S : SH) (c n : Nat) : lO (nS S c n) S.1.length = n := by simp [lO, nS, List.getD]
theorem kO_old (S : SH) (c n : Nat) {a : Nat} (h : a < S.1.length) : kO (nS S c n) a = kO S a := by simp [kO, nS, List.getD, List.getElem?_append_left h]
theorem lO_old (S : SH) (c n : Nat) {a : Nat} (h : a < S.1.length) : lO (nS S c n) a = lO S a := by simp [lO, nS, List.getD, List.getElem?_append_left h]
theorem sO_new (S : SH) (c n : Nat) : sO (nS S c n) = sO S + n := by simp [sO, nS, List.sum_append]
theorem len_new (S : SH) (c n : Nat) : (nS S c n).1.length = S.1.length + 1 := by simp [nS]
theorem HR_new {U : State} {D : va_G} {b : Nat} {S : SH} {me : ME} {H H1 : Heap} {c n : Nat} (h : HR U D b S me H) (hz : H1.size = H.size + 1) (ho : ∀ q : Nat, q < H.size → H1[q]? = H[q]?) (hc : cO U D b (nS S c n) (nM S me) H1 S.1.length) : HR U D b (nS S c n) (nM S me) H1 := by
  refine ⟨by rw [len_new, hz, h.1]; omega, fun a ha => ?_⟩
  rw [len_new] at ha
  by_cases hr : a = S.1.length
  · subst hr
    exact hc
  · have hlt : a < S.1.length := by omega
    have e1 : H1[b + a]? = H[b + a]? := ho _ (by rw [h.1]; omega)
    have eF : fV b (nS S c n) (nM S me) (kO S a) a = fV b S me (kO S a) a := by
      funext k
      simp only [fV, nS, nM, if_neg hr]
    have eA : aV b (nS S c n) (nM S me) (kO S a) a = aV b S me (kO S a) a := by
      funext k
      simp only [aV, nS, nM, if_neg hr]
    unfold cO
    rw [kO_old S c n hlt, lO_old S c n hlt, eF, eA]
    refine ⟨fun q => ((h.2 a hlt).1 q).kept e1, fun q => ?_⟩
    obtain ⟨cA, h1, h2⟩ := (h.2 a hlt).2 q
    exact ⟨cA, h1, e1.trans h2⟩
theorem locs_put {b a z : Nat} {locs : List Loc} (h3 : ∀ q ∈ locs, b ≤ q.base) (ha : b ≤ a) : ∀ q ∈ locs ++ [⟨a, z⟩], b ≤ q.base := fun q hq => by
  rcases List.mem_append.mp hq with h | h
  · exact h3 q h
  · rw [List.mem_singleton.mp h]; exact ha
section WROWS2
variable {X : XT} {l : Launch} {D : va_G} {b : Nat} {cc : ByteArray} {nL : Nat} {own nm : String} {fr lo mc ms : Nat} {S S1 : SH} {me me1 : ME} {pc : Nat} {lv : List (Nat × Value)} {st : List Value}
theorem ws_putR (cx : CX X l D b cc nL own nm fr lo mc ms) {c k r v index : Nat} {fin : Bool} (hF : FF own index c k 2 fin) (hfi : fin = false ∨ (nm = "<init>" ∧ ∀ q : vw_C, vwCl[c]? = some q → q.1 = own)) (hv : sR S c k r v = some S1) (d : decode cc pc = .ok (.putfield index, 3)) (kk : WS X b nL S1 me (pc + 3) lv st) : WS X b nL S me pc lv (.ref (b + v) :: .ref (b + r) :: st) := by
  obtain ⟨p, l', e, R, s, m, args, below, meth, cd, D', Q, n0, m0⟩ := X
  obtain ⟨rfl, rfl, hx, hb, hml, hown, hts, hKD, -, -, hnm, -⟩ := cx
  intro H locs ls h1 h2 h3 h4 h5
  obtain ⟨g1, rfl⟩ := ite_s hv rfl
  have hlt := hF.1
  have hrl := kO_lt g1 (by omega)
  have hc := (h1.2 r hrl).1 (by omega)
  rw [g1] at hc
  refine w_put hx hb hown hts hKD hF (hfi.imp_right fun q => ⟨hnm.trans q.1, q.2⟩) hc (v := .ref (b + v)) (fun ty _ _ a => by have := a rfl; cases ty <;> first | exact ⟨rfl, rfl⟩ | (simp [FieldType.isReference] at this)) d (fun H1 z e1 e2 e3 => ?_)
  refine kk H1 _ ls (HR_putS h1 e2 e3 rfl (fun a ha => by funext j; simp [up2, ha]) (fun _ => ⟨fun _ => ?_, fun q => absurd (show 11 ≤ kO S r from q) (by omega)⟩)) (fun q hq => (e3 q (Nat.ne_of_lt (Nat.lt_of_lt_of_le hq (Nat.le_add_right b r)))).trans (h2 q hq)) (locs_put h3 (Nat.le_add_right b r)) h4 h5
  have g1' : kO (S.1, up2 S.2 r k (some v)) r = c := g1
  rw [g1']
  refine e1.to (fun j _ => ?_)
  by_cases hj : j = k
  · subst hj
    simp [updV, fV, hF.2.1, up2, va_rf]
  · simp [updV, fV, up2, hj]
theorem ws_iald (cx : CX X l D b cc nL own nm fr lo mc ms) {r : Nat} {i v : Int32} (hv : aI S me 11 r i = some v) (d : decode cc pc = .ok (.iaload, 1)) (kk : WS X b nL S me (pc + 1) lv (.int v :: st)) : WS X b nL S me pc lv (.int i :: .ref (b + r) :: st) := by
  obtain ⟨p, l', e, R, s, m, args, below, meth, cd, D', Q, n0, m0⟩ := X
  obtain ⟨rfl, rfl, hx, hb, -⟩ := cx
  intro H locs ls h1 h2 h3 h4 h5
  obtain ⟨⟨g1, g2⟩, rfl⟩ := ite_s hv rfl
  obtain ⟨cA, ⟨hA, -⟩, hc⟩ := (h1.2 r (kO_lt g1 (by omega))).2 (by omega)
  rw [g1] at hA hc
  exact W.iald (v := .int (me.1 r i.toNatClampNeg)) hx hb hc (hA _ _) (fun q => by cases q) (by rw [arrV_size]; exact g2) (by rw [arrV_read _ _ (by omega)]; simp [aV]) rfl rfl d (kk H locs ls h1 h2 h3 h4 h5)
theorem ws_zald (cx : CX X l D b cc nL own nm fr lo mc ms) {r : Nat} {i v : Int32} (hv : aI S me 13 r i = some v) (d : decode cc pc = .ok (.baload, 1)) (kk : WS X b nL S me (pc + 1) lv (.int v :: st)) : WS X b nL S me pc lv (.int i :: .ref (b + r) :: st) := by
  obtain ⟨p, l', e, R, s, m, args, below, meth, cd, D', Q, n0, m0⟩ := X
  obtain ⟨rfl, rfl, hx, hb, -⟩ := cx
  intro H locs ls h1 h2 h3 h4 h5
  obtain ⟨⟨g1, g2⟩, rfl⟩ := ite_s hv rfl
  obtain ⟨cA, ⟨hA, -⟩, hc⟩ := (h1.2 r (kO_lt g1 (by omega))).2 (by omega)
  rw [g1] at hA hc
  exact W.zald (v := .int (me.1 r i.toNatClampNeg)) hx hb hc (hA _ _) (fun q => by cases q) (by rw [arrV_size]; exact g2) (by rw [arrV_read _ _ (by omega)]; simp [aV]) rfl rfl d (kk H locs ls h1 h2 h3 h4 h5)
theorem ws_lald (cx : CX X l D b cc nL own nm fr lo mc ms) {r : Nat} {i : Int32} {v : Int64} (hv : aJ S me r i = some v) (d : decode cc pc = .ok (.laload, 1)) (kk : WS X b nL S me (pc + 1) lv (.long v :: st)) : WS X b nL S me pc lv (.int i :: .ref (b + r) :: st) := by
  obtain ⟨p, l', e, R, s, m, args, below, meth, cd, D', Q, n0, m0⟩ := X
  obtain ⟨rfl, rfl, hx, hb, -⟩ := cx
  intro H locs ls h1 h2 h3 h4 h5
  obtain ⟨⟨g1, g2⟩, rfl⟩ := ite_s hv rfl
  obtain ⟨cA, ⟨hA, -⟩, hc⟩ := (h1.2 r (kO_lt g1 (by omega))).2 (by omega)
  rw [g1] at hA hc
  exact W.lald (v := .long (me.2 r i.toNatClampNeg)) hx hb hc (hA _ _) (fun q => by cases q) (by rw [arrV_size]; exact g2) (by rw [arrV_read _ _ (by omega)]; simp [aV]) rfl rfl d (kk H locs ls h1 h2 h3 h4 h5)
theorem ws_aald (cx : CX X l D b cc nL own nm fr lo mc ms) {c r v : Nat} {i : Int32} (hc9 : c = 14 ∨ c = 15) (hv : aR S c r i = some v) (d : decode cc pc = .ok (.aaload, 1)) (kk : WS X b nL S me (pc + 1) lv (.ref (b + v) :: st)) : WS X b nL S me pc lv (.int i :: .ref (b + r) :: st) := by
  obtain ⟨p, l', e, R, s, m, args, below, meth, cd, D', Q, n0, m0⟩ := X
  obtain ⟨rfl, rfl, hx, hb, -⟩ := cx
  intro H locs ls h1 h2 h3 h4 h5
  obtain ⟨⟨g1, g2⟩, g3⟩ := ite_o hv
  obtain ⟨cA, ⟨hA, -⟩, hc⟩ := (h1.2 r (kO_lt g1 (by omega))).2 (by omega)
  rw [g1] at hA hc
  have hty : (aTy c).isReference = true := by rcases hc9 with rfl | rfl <;> rfl
  exact W.aald (v := .ref (b + v)) hx hb hc (hA _ _) hty (fun q => by cases q) (by rw [arrV_size]; exact g2) (by rw [arrV_read _ _ (by omega)]; rcases hc9 with rfl | rfl <;> simp [aV, g3, va_rf]) rfl rfl d (kk H locs ls h1 h2 h3 h4 h5)
theorem ws_iast (cx : CX X l D b cc nL own nm fr lo mc ms) {r : Nat} {i v : Int32} (hv : uI S me r i v = some me1) (d : decode cc pc = .ok (.iastore, 1)) (kk : WS X b nL S me1 (pc + 1) lv st) : WS X b nL S me pc lv (.int v :: .int i :: .ref (b + r) :: st) := by
  obtain ⟨p, l', e, R, s, m, args, below, meth, cd, D', Q, n0, m0⟩ := X
  obtain ⟨rfl, rfl, hx, hb, -⟩ := cx
  intro H locs ls h1 h2 h3 h4 h5
  obtain ⟨⟨g1, g2⟩, rfl⟩ := ite_s hv rfl
  obtain ⟨cA, ⟨hA, hA2⟩, hc⟩ := (h1.2 r (kO_lt g1 (by omega))).2 (by omega)
  rw [g1] at hA hA2 hc
  refine W.iast hx hb hc (hA _ _) (fun q => by cases q) (by rw [arrV_size]; exact g2) rfl rfl d (fun H1 e1 e2 e3 => ?_)
  refine kk H1 _ ls (HR_put h1 e2 e3 (fun a ha => by funext j; simp [up2, ha]) (fun a ha => rfl) (fun _ => ⟨fun q => absurd q (by omega), fun _ => ?_⟩)) (fun q hq => (e3 q (Nat.ne_of_lt (Nat.lt_of_lt_of_le hq (Nat.le_add_right b r)))).trans (h2 q hq)) (locs_put h3 (Nat.le_add_right b r)) h4 h5
  rw [g1]
  refine ⟨cA, ⟨hA, hA2⟩, ?_⟩
  rw [e1, arrV_store]
  congr 2
  funext j
  by_cases hj : j = i.toNatClampNeg <;> simp [updV, aV, up2, hj]
theorem ws_zast (cx : CX X l D b cc nL own nm fr lo mc ms) {r : Nat} {i v : Int32} (hv : uZ S me r i v = some me1) (d : decode cc pc = .ok (.bastore, 1)) (kk : WS X b nL S me1 (pc + 1) lv st) : WS X b nL S me pc lv (.int v :: .int i :: .ref (b + r) :: st) := by
  obtain ⟨p, l', e, R, s, m, args, below, meth, cd, D', Q, n0, m0⟩ := X
  obtain ⟨rfl, rfl, hx, hb, -⟩ := cx
  intro H locs ls h1 h2 h3 h4 h5
  obtain ⟨⟨g1, g2⟩, rfl⟩ := ite_s hv rfl
  obtain ⟨cA, ⟨hA, hA2⟩, hc⟩ := (h1.2 r (kO_lt g1 (by omega))).2 (by omega)
  rw [g1] at hA hA2 hc
  refine W.zast hx hb hc (hA _ _) (fun q => by cases q) (by rw [arrV_size]; exact g2) rfl rfl d (fun H1 e1 e2 e3 => ?_)
  refine kk H1 _ ls (HR_put h1 e2 e3 (fun a ha => by funext j; simp [up2, ha]) (fun a ha => rfl) (fun _ => ⟨fun q => absurd q (by omega), fun _ => ?_⟩)) (fun q hq => (e3 q (Nat.ne_of_lt (Nat.lt_of_lt_of_le hq (Nat.le_add_right b r)))).trans (h2 q hq)) (locs_put h3 (Nat.le_add_right b r)) h4 h5
  rw [g1]
  refine ⟨cA, ⟨hA, hA2⟩, ?_⟩
  rw [e1, arrV_store]
  congr 2
  funext j
  by_cases hj : j = i.toNatClampNeg
  · simp [updV, aV, up2, hj, vp_nar, narrow]
  · simp [updV, aV, up2, hj]
theorem ws_last (cx : CX X l D b cc nL own nm fr lo mc ms) {r : Nat} {i : Int32} {v : Int64} (hv : uJ S me r i v = some me1) (d : decode cc pc = .ok (.lastore, 1)) (kk : WS X b nL S me1 (pc + 1) lv st) : WS X b nL S me pc lv (.long v :: .int i :: .ref (b + r) :: st) := by
  obtain ⟨p, l', e, R, s, m, args, below, meth, cd, D', Q, n0, m0⟩ := X
  obtain ⟨rfl, rfl, hx, hb, -⟩ := cx
  intro H locs ls h1 h2 h3 h4 h5
  obtain ⟨⟨g1, g2⟩, rfl⟩ := ite_s hv rfl
  obtain ⟨cA, ⟨hA, hA2⟩, hc⟩ := (h1.2 r (kO_lt g1 (by omega))).2 (by omega)
  rw [g1] at hA hA2 hc
  refine W.last hx hb hc (hA _ _) (fun q => by cases q) (by rw [arrV_size]; exact g2) rfl rfl d (fun H1 e1 e2 e3 => ?_)
  refine kk H1 _ ls (HR_put h1 e2 e3 (fun a ha => rfl) (fun a ha => by funext j; simp [up2, ha]) (fun _ => ⟨fun q => absurd q (by omega), fun _ => ?_⟩)) (fun q hq => (e3 q (Nat.ne_of_lt (Nat.lt_of_lt_of_le hq (Nat.le_add_right b r)))).trans (h2 q hq)) (locs_put h3 (Nat.le_add_right b r)) h4 h5
  rw [g1]
  refine ⟨cA, ⟨hA, hA2⟩, ?_⟩
  rw [e1, arrV_store]
  congr 2
  funext j
  by_cases hj : j = i.toNatClampNeg <;> simp [updV, aV, up2, hj]
theorem ws_aast (cx : CX X l D b cc nL own nm fr lo mc ms) {r v : Nat} {i : Int32} (hv : uR S r i v = some S1) (d : decode cc pc = .ok (.aastore, 1)) (kk : WS X b nL S1 me (pc + 1) lv st) : WS X b nL S me pc lv (.ref (b + v) :: .int i :: .ref (b + r) :: st) := by
  obtain ⟨p, l', e, R, s, m, args, below, meth, cd, D', Q, n0, m0⟩ := X
  obtain ⟨rfl, rfl, hx, hb, hml, hown, hts, hKD, -⟩ := cx
  intro H locs ls h1 h2 h3 h4 h5
  obtain ⟨⟨⟨g1, g0⟩, g2⟩, rfl⟩ := ite_s hv rfl
  obtain ⟨cA, ⟨hA, hA2⟩, hc⟩ := (h1.2 r (kO_lt g1 (by omega))).2 (by omega)
  have hcv := (h1.2 v (kO_lt g0 (by omega))).1 (by omega)
  rw [g0] at hcv
  rw [g1] at hA hA2 hc
  obtain ⟨cv, v1, v2, v3, -⟩ := hcv
  have hcls := (hKD.1 2 (RX2, TX2, 4) rfl).2
  have hA3 := hA2
  obtain ⟨kA, comp, k1, k2, k3, -⟩ : ∃ (kA : Class) (comp : ClassId), s.vm.classes[cA]? = some kA ∧ kA.kind = .array comp (.object "StrokeSeek$Log") ∧ s.vm.findClass "StrokeSeek$Log" = some comp ∧ s.vm.findClass ("[" ++ (FieldType.object "StrokeSeek$Log").toString) = some cA := hA3
  have hcomp : comp = D'.1 2 := Option.some.inj (k3.symm.trans hcls.1)
  subst hcomp
  obtain ⟨kC, hkC, hkind⟩ := hcls.2
  refine W.aast hx hb hc (fun q h => by cases h) (fun h => by cases h) k1 k2 rfl hkC ⟨fun q => g2 (Or.inl q), by rw [arrV_size]; omega⟩ v1 (fun q h => by rw [v3] at h; cases h) (by rw [v2]; exact hkC) (by rw [v2]; exact va_assign (C := "StrokeSeek$Log") hcls) rfl rfl d (fun H1 e1 e2 e3 => ?_)
  refine kk H1 _ ls (HR_putS h1 e2 e3 rfl (fun a ha => by funext j; simp [up2, ha]) (fun _ => ⟨fun q => absurd (show kO S r < 11 from q) (by omega), fun _ => ?_⟩)) (fun q hq => (e3 q (Nat.ne_of_lt (Nat.lt_of_lt_of_le hq (Nat.le_add_right b r)))).trans (h2 q hq)) (locs_put h3 (Nat.le_add_right b r)) h4 h5
  have g1' : kO (S.1, up2 S.2 r i.toNatClampNeg (some v)) r = 14 := g1
  have l1' : lO (S.1, up2 S.2 r i.toNatClampNeg (some v)) r = lO S r := rfl
  rw [g1', l1']
  refine ⟨cA, ⟨hA, hA2⟩, ?_⟩
  rw [e1, arrV_store]
  congr 2
  funext j
  by_cases hj : j = i.toNatClampNeg <;> simp [updV, aV, up2, hj, va_rf]
end WROWS2
end
section
section WROWS3
variable {X : XT} {l : Launch} {D : va_G} {b : Nat} {cc : ByteArray} {nL : Nat} {own nm : String} {fr lo mc ms : Nat} {S S1 : SH} {me me1 : ME} {pc : Nat} {lv lv' : List (Nat × Value)} {st : List Value}

theorem ws_iconst (cx : CX X l D b cc nL own nm fr lo mc ms) {n : Int} {v : Int32} (d : decode cc pc = .ok (.iconst n, 1)) (hv : Int32.ofInt n = v) (k : WS X b nL S me (pc + 1) lv (.int v :: st)) : WS X b nL S me pc lv (st) := by
  obtain ⟨p, l', e, R, s, m, args, below, meth, cd, D', Q, n0, m0⟩ := X
  obtain ⟨rfl, rfl, hx, hb, hml, hown, hts, hKD, hbs, hR, hnm, hlk⟩ := cx
  exact fun H locs ls h1 h2 h3 h4 h5 => lv_iconst hx hb d hv (k H locs ls h1 h2 h3 h4 h5)

theorem ws_bipush (cx : CX X l D b cc nL own nm fr lo mc ms) {n : Int} {v : Int32} (d : decode cc pc = .ok (.bipush n, 2)) (hv : (Int8.ofInt n).toInt32 = v) (k : WS X b nL S me (pc + 2) lv (.int v :: st)) : WS X b nL S me pc lv (st) := by
  obtain ⟨p, l', e, R, s, m, args, below, meth, cd, D', Q, n0, m0⟩ := X
  obtain ⟨rfl, rfl, hx, hb, hml, hown, hts, hKD, hbs, hR, hnm, hlk⟩ := cx
  exact fun H locs ls h1 h2 h3 h4 h5 => lv_bipush hx hb d hv (k H locs ls h1 h2 h3 h4 h5)

theorem ws_sipush (cx : CX X l D b cc nL own nm fr lo mc ms) {n : Int} {v : Int32} (d : decode cc pc = .ok (.sipush n, 3)) (hv : (Int16.ofInt n).toInt32 = v) (k : WS X b nL S me (pc + 3) lv (.int v :: st)) : WS X b nL S me pc lv (st) := by
  obtain ⟨p, l', e, R, s, m, args, below, meth, cd, D', Q, n0, m0⟩ := X
  obtain ⟨rfl, rfl, hx, hb, hml, hown, hts, hKD, hbs, hR, hnm, hlk⟩ := cx
  exact fun H locs ls h1 h2 h3 h4 h5 => lv_sipush hx hb d hv (k H locs ls h1 h2 h3 h4 h5)

theorem ws_lconst (cx : CX X l D b cc nL own nm fr lo mc ms) {n : Fin 2} {v : Int64} (d : decode cc pc = .ok (.lconst n, 1)) (hv : Int64.ofNat (n : Nat) = v) (k : WS X b nL S me (pc + 1) lv (.long v :: st)) : WS X b nL S me pc lv (st) := by
  obtain ⟨p, l', e, R, s, m, args, below, meth, cd, D', Q, n0, m0⟩ := X
  obtain ⟨rfl, rfl, hx, hb, hml, hown, hts, hKD, hbs, hR, hnm, hlk⟩ := cx
  exact fun H locs ls h1 h2 h3 h4 h5 => lv_lconst hx hb d hv (k H locs ls h1 h2 h3 h4 h5)

theorem ws_ldc (cx : CX X l D b cc nL own nm fr lo mc ms) {index : Nat} {v : Int32} (hw : Cond.constant own index v ∈ lw_good) (d : decode cc pc = .ok (.ldc index, 2)) (k : WS X b nL S me (pc + 2) lv (.int v :: st)) : WS X b nL S me pc lv (st) := by
  obtain ⟨p, l', e, R, s, m, args, below, meth, cd, D', Q, n0, m0⟩ := X
  obtain ⟨rfl, rfl, hx, hb, hml, hown, hts, hKD, hbs, hR, hnm, hlk⟩ := cx
  exact fun H locs ls h1 h2 h3 h4 h5 => lv_ldc hx hb hown (hts _ hw) d (k H locs ls h1 h2 h3 h4 h5)

theorem ws_ldcw (cx : CX X l D b cc nL own nm fr lo mc ms) {index : Nat} {v : Int32} (hw : Cond.constant own index v ∈ lw_good) (d : decode cc pc = .ok (.ldc_w index, 3)) (k : WS X b nL S me (pc + 3) lv (.int v :: st)) : WS X b nL S me pc lv (st) := by
  obtain ⟨p, l', e, R, s, m, args, below, meth, cd, D', Q, n0, m0⟩ := X
  obtain ⟨rfl, rfl, hx, hb, hml, hown, hts, hKD, hbs, hR, hnm, hlk⟩ := cx
  exact fun H locs ls h1 h2 h3 h4 h5 => lv_ldcw hx hb hown (hts _ hw) d (k H locs ls h1 h2 h3 h4 h5)

theorem ws_ldc2 (cx : CX X l D b cc nL own nm fr lo mc ms) {index : Nat} {v : Int64} (hw : Cond.constantLong own index v ∈ lw_good) (d : decode cc pc = .ok (.ldc2_w index, 3)) (k : WS X b nL S me (pc + 3) lv (.long v :: st)) : WS X b nL S me pc lv (st) := by
  obtain ⟨p, l', e, R, s, m, args, below, meth, cd, D', Q, n0, m0⟩ := X
  obtain ⟨rfl, rfl, hx, hb, hml, hown, hts, hKD, hbs, hR, hnm, hlk⟩ := cx
  exact fun H locs ls h1 h2 h3 h4 h5 => lv_ldc2 hx hb hown (hts _ hw) d (k H locs ls h1 h2 h3 h4 h5)

theorem ws_iload_n (cx : CX X l D b cc nL own nm fr lo mc ms) {q : Fin 4} {i j : Nat} {x : Int32} (d : decode cc pc = .ok (.iload_n q, 1)) (hi : (q : Nat) = i) (hj : lv[j]? = some (i, .int x)) (k : WS X b nL S me (pc + 1) lv (.int x :: st)) : WS X b nL S me pc lv (st) := by
  obtain ⟨p, l', e, R, s, m, args, below, meth, cd, D', Q, n0, m0⟩ := X
  obtain ⟨rfl, rfl, hx, hb, hml, hown, hts, hKD, hbs, hR, hnm, hlk⟩ := cx
  exact fun H locs ls h1 h2 h3 h4 h5 => lv_iload_n hx hb d hi (lv_at h5 j hj) (k H locs ls h1 h2 h3 h4 h5)

theorem ws_iload (cx : CX X l D b cc nL own nm fr lo mc ms) {i j : Nat} {x : Int32} (d : decode cc pc = .ok (.iload i, 2)) (hj : lv[j]? = some (i, .int x)) (k : WS X b nL S me (pc + 2) lv (.int x :: st)) : WS X b nL S me pc lv (st) := by
  obtain ⟨p, l', e, R, s, m, args, below, meth, cd, D', Q, n0, m0⟩ := X
  obtain ⟨rfl, rfl, hx, hb, hml, hown, hts, hKD, hbs, hR, hnm, hlk⟩ := cx
  exact fun H locs ls h1 h2 h3 h4 h5 => lv_iload hx hb d (lv_at h5 j hj) (k H locs ls h1 h2 h3 h4 h5)

theorem ws_lload_n (cx : CX X l D b cc nL own nm fr lo mc ms) {q : Fin 4} {i j : Nat} {x : Int64} (d : decode cc pc = .ok (.lload_n q, 1)) (hi : (q : Nat) = i) (hj : lv[j]? = some (i, .long x)) (k : WS X b nL S me (pc + 1) lv (.long x :: st)) : WS X b nL S me pc lv (st) := by
  obtain ⟨p, l', e, R, s, m, args, below, meth, cd, D', Q, n0, m0⟩ := X
  obtain ⟨rfl, rfl, hx, hb, hml, hown, hts, hKD, hbs, hR, hnm, hlk⟩ := cx
  exact fun H locs ls h1 h2 h3 h4 h5 => lv_lload_n hx hb d hi (lv_at h5 j hj) (k H locs ls h1 h2 h3 h4 h5)

theorem ws_lload (cx : CX X l D b cc nL own nm fr lo mc ms) {i j : Nat} {x : Int64} (d : decode cc pc = .ok (.lload i, 2)) (hj : lv[j]? = some (i, .long x)) (k : WS X b nL S me (pc + 2) lv (.long x :: st)) : WS X b nL S me pc lv (st) := by
  obtain ⟨p, l', e, R, s, m, args, below, meth, cd, D', Q, n0, m0⟩ := X
  obtain ⟨rfl, rfl, hx, hb, hml, hown, hts, hKD, hbs, hR, hnm, hlk⟩ := cx
  exact fun H locs ls h1 h2 h3 h4 h5 => lv_lload hx hb d (lv_at h5 j hj) (k H locs ls h1 h2 h3 h4 h5)

theorem ws_aload_n (cx : CX X l D b cc nL own nm fr lo mc ms) {q : Fin 4} {i j : Nat} {x : Nat} (d : decode cc pc = .ok (.aload_n q, 1)) (hi : (q : Nat) = i) (hj : lv[j]? = some (i, .ref x)) (k : WS X b nL S me (pc + 1) lv (.ref x :: st)) : WS X b nL S me pc lv (st) := by
  obtain ⟨p, l', e, R, s, m, args, below, meth, cd, D', Q, n0, m0⟩ := X
  obtain ⟨rfl, rfl, hx, hb, hml, hown, hts, hKD, hbs, hR, hnm, hlk⟩ := cx
  exact fun H locs ls h1 h2 h3 h4 h5 => lv_aload_n hx hb d hi (lv_at h5 j hj) (k H locs ls h1 h2 h3 h4 h5)

theorem ws_aload (cx : CX X l D b cc nL own nm fr lo mc ms) {i j : Nat} {x : Nat} (d : decode cc pc = .ok (.aload i, 2)) (hj : lv[j]? = some (i, .ref x)) (k : WS X b nL S me (pc + 2) lv (.ref x :: st)) : WS X b nL S me pc lv (st) := by
  obtain ⟨p, l', e, R, s, m, args, below, meth, cd, D', Q, n0, m0⟩ := X
  obtain ⟨rfl, rfl, hx, hb, hml, hown, hts, hKD, hbs, hR, hnm, hlk⟩ := cx
  exact fun H locs ls h1 h2 h3 h4 h5 => lv_aload hx hb d (lv_at h5 j hj) (k H locs ls h1 h2 h3 h4 h5)

theorem ws_istore_n (cx : CX X l D b cc nL own nm fr lo mc ms) {q : Fin 4} {i : Nat} {x : Int32} (d : decode cc pc = .ok (.istore_n q, 1)) (hi : (q : Nat) = i) (hn : i < nL) (hl : (i, Value.int x) :: lv.filter (fun q => !(q.1 == i) && !(q.1 + 1 == i && q.2.category == 2)) = lv') (k : WS X b nL S me (pc + 1) lv' (st)) : WS X b nL S me pc lv (.int x :: st) := by
  obtain ⟨p, l', e, R, s, m, args, below, meth, cd, D', Q, n0, m0⟩ := X
  obtain ⟨rfl, rfl, hx, hb, hml, hown, hts, hKD, hbs, hR, hnm, hlk⟩ := cx
  exact fun H locs ls h1 h2 h3 h4 h5 => lv_istore_n hx hb d hi h5 hn hl (fun ls' h6 => k H locs ls' h1 h2 h3 h4 h6)

theorem ws_istore (cx : CX X l D b cc nL own nm fr lo mc ms) {i : Nat} {x : Int32} (d : decode cc pc = .ok (.istore i, 2)) (hn : i < nL) (hl : (i, Value.int x) :: lv.filter (fun q => !(q.1 == i) && !(q.1 + 1 == i && q.2.category == 2)) = lv') (k : WS X b nL S me (pc + 2) lv' (st)) : WS X b nL S me pc lv (.int x :: st) := by
  obtain ⟨p, l', e, R, s, m, args, below, meth, cd, D', Q, n0, m0⟩ := X
  obtain ⟨rfl, rfl, hx, hb, hml, hown, hts, hKD, hbs, hR, hnm, hlk⟩ := cx
  exact fun H locs ls h1 h2 h3 h4 h5 => lv_istore hx hb d h5 hn hl (fun ls' h6 => k H locs ls' h1 h2 h3 h4 h6)

theorem ws_lstore_n (cx : CX X l D b cc nL own nm fr lo mc ms) {q : Fin 4} {i : Nat} {x : Int64} (d : decode cc pc = .ok (.lstore_n q, 1)) (hi : (q : Nat) = i) (hn : i + 1 < nL) (hl : (i, Value.long x) :: lv.filter (fun q => !(q.1 == i) && (!(q.1 == i + 1) && !(q.1 + 1 == i && q.2.category == 2))) = lv') (k : WS X b nL S me (pc + 1) lv' (st)) : WS X b nL S me pc lv (.long x :: st) := by
  obtain ⟨p, l', e, R, s, m, args, below, meth, cd, D', Q, n0, m0⟩ := X
  obtain ⟨rfl, rfl, hx, hb, hml, hown, hts, hKD, hbs, hR, hnm, hlk⟩ := cx
  exact fun H locs ls h1 h2 h3 h4 h5 => lv_lstore_n hx hb d hi h5 hn hl (fun ls' h6 => k H locs ls' h1 h2 h3 h4 h6)

theorem ws_lstore (cx : CX X l D b cc nL own nm fr lo mc ms) {i : Nat} {x : Int64} (d : decode cc pc = .ok (.lstore i, 2)) (hn : i + 1 < nL) (hl : (i, Value.long x) :: lv.filter (fun q => !(q.1 == i) && (!(q.1 == i + 1) && !(q.1 + 1 == i && q.2.category == 2))) = lv') (k : WS X b nL S me (pc + 2) lv' (st)) : WS X b nL S me pc lv (.long x :: st) := by
  obtain ⟨p, l', e, R, s, m, args, below, meth, cd, D', Q, n0, m0⟩ := X
  obtain ⟨rfl, rfl, hx, hb, hml, hown, hts, hKD, hbs, hR, hnm, hlk⟩ := cx
  exact fun H locs ls h1 h2 h3 h4 h5 => lv_lstore hx hb d h5 hn hl (fun ls' h6 => k H locs ls' h1 h2 h3 h4 h6)

theorem ws_astore_n (cx : CX X l D b cc nL own nm fr lo mc ms) {q : Fin 4} {i : Nat} {x : Nat} (d : decode cc pc = .ok (.astore_n q, 1)) (hi : (q : Nat) = i) (hn : i < nL) (hl : (i, Value.ref x) :: lv.filter (fun q => !(q.1 == i) && !(q.1 + 1 == i && q.2.category == 2)) = lv') (k : WS X b nL S me (pc + 1) lv' (st)) : WS X b nL S me pc lv (.ref x :: st) := by
  obtain ⟨p, l', e, R, s, m, args, below, meth, cd, D', Q, n0, m0⟩ := X
  obtain ⟨rfl, rfl, hx, hb, hml, hown, hts, hKD, hbs, hR, hnm, hlk⟩ := cx
  exact fun H locs ls h1 h2 h3 h4 h5 => lv_astore_n hx hb d hi h5 hn hl (fun ls' h6 => k H locs ls' h1 h2 h3 h4 h6)

theorem ws_astore (cx : CX X l D b cc nL own nm fr lo mc ms) {i : Nat} {x : Nat} (d : decode cc pc = .ok (.astore i, 2)) (hn : i < nL) (hl : (i, Value.ref x) :: lv.filter (fun q => !(q.1 == i) && !(q.1 + 1 == i && q.2.category == 2)) = lv') (k : WS X b nL S me (pc + 2) lv' (st)) : WS X b nL S me pc lv (.ref x :: st) := by
  obtain ⟨p, l', e, R, s, m, args, below, meth, cd, D', Q, n0, m0⟩ := X
  obtain ⟨rfl, rfl, hx, hb, hml, hown, hts, hKD, hbs, hR, hnm, hlk⟩ := cx
  exact fun H locs ls h1 h2 h3 h4 h5 => lv_astore hx hb d h5 hn hl (fun ls' h6 => k H locs ls' h1 h2 h3 h4 h6)

theorem ws_iinc (cx : CX X l D b cc nL own nm fr lo mc ms) {i j : Nat} {n : Int} {x v : Int32} (d : decode cc pc = .ok (.iinc i n, 3)) (hj : lv[j]? = some (i, .int x)) (hv : x + Int32.ofInt n = v) (hn : i < nL) (hl : (i, Value.int v) :: lv.filter (fun q => !(q.1 == i) && !(q.1 + 1 == i && q.2.category == 2)) = lv') (k : WS X b nL S me (pc + 3) lv' (st)) : WS X b nL S me pc lv (st) := by
  obtain ⟨p, l', e, R, s, m, args, below, meth, cd, D', Q, n0, m0⟩ := X
  obtain ⟨rfl, rfl, hx, hb, hml, hown, hts, hKD, hbs, hR, hnm, hlk⟩ := cx
  exact fun H locs ls h1 h2 h3 h4 h5 => lv_iinc hx hb d h5 hj hv hn hl (fun ls' h6 => k H locs ls' h1 h2 h3 h4 h6)

theorem ws_iadd (cx : CX X l D b cc nL own nm fr lo mc ms) {x y : Int32} (d : decode cc pc = .ok (.iadd, 1)) (k : WS X b nL S me (pc + 1) lv (.int (x + y) :: st)) : WS X b nL S me pc lv (.int y :: .int x :: st) := by
  obtain ⟨p, l', e, R, s, m, args, below, meth, cd, D', Q, n0, m0⟩ := X
  obtain ⟨rfl, rfl, hx, hb, hml, hown, hts, hKD, hbs, hR, hnm, hlk⟩ := cx
  exact fun H locs ls h1 h2 h3 h4 h5 => lv_iadd hx hb d (k H locs ls h1 h2 h3 h4 h5)

theorem ws_isub (cx : CX X l D b cc nL own nm fr lo mc ms) {x y : Int32} (d : decode cc pc = .ok (.isub, 1)) (k : WS X b nL S me (pc + 1) lv (.int (x - y) :: st)) : WS X b nL S me pc lv (.int y :: .int x :: st) := by
  obtain ⟨p, l', e, R, s, m, args, below, meth, cd, D', Q, n0, m0⟩ := X
  obtain ⟨rfl, rfl, hx, hb, hml, hown, hts, hKD, hbs, hR, hnm, hlk⟩ := cx
  exact fun H locs ls h1 h2 h3 h4 h5 => lv_isub hx hb d (k H locs ls h1 h2 h3 h4 h5)

theorem ws_imul (cx : CX X l D b cc nL own nm fr lo mc ms) {x y : Int32} (d : decode cc pc = .ok (.imul, 1)) (k : WS X b nL S me (pc + 1) lv (.int (x * y) :: st)) : WS X b nL S me pc lv (.int y :: .int x :: st) := by
  obtain ⟨p, l', e, R, s, m, args, below, meth, cd, D', Q, n0, m0⟩ := X
  obtain ⟨rfl, rfl, hx, hb, hml, hown, hts, hKD, hbs, hR, hnm, hlk⟩ := cx
  exact fun H locs ls h1 h2 h3 h4 h5 => lv_imul hx hb d (k H locs ls h1 h2 h3 h4 h5)

theorem ws_iand (cx : CX X l D b cc nL own nm fr lo mc ms) {x y : Int32} (d : decode cc pc = .ok (.iand, 1)) (k : WS X b nL S me (pc + 1) lv (.int (x &&& y) :: st)) : WS X b nL S me pc lv (.int y :: .int x :: st) := by
  obtain ⟨p, l', e, R, s, m, args, below, meth, cd, D', Q, n0, m0⟩ := X
  obtain ⟨rfl, rfl, hx, hb, hml, hown, hts, hKD, hbs, hR, hnm, hlk⟩ := cx
  exact fun H locs ls h1 h2 h3 h4 h5 => lv_iand hx hb d (k H locs ls h1 h2 h3 h4 h5)

theorem ws_ior (cx : CX X l D b cc nL own nm fr lo mc ms) {x y : Int32} (d : decode cc pc = .ok (.ior, 1)) (k : WS X b nL S me (pc + 1) lv (.int (x ||| y) :: st)) : WS X b nL S me pc lv (.int y :: .int x :: st) := by
  obtain ⟨p, l', e, R, s, m, args, below, meth, cd, D', Q, n0, m0⟩ := X
  obtain ⟨rfl, rfl, hx, hb, hml, hown, hts, hKD, hbs, hR, hnm, hlk⟩ := cx
  exact fun H locs ls h1 h2 h3 h4 h5 => lv_ior hx hb d (k H locs ls h1 h2 h3 h4 h5)

theorem ws_ixor (cx : CX X l D b cc nL own nm fr lo mc ms) {x y : Int32} (d : decode cc pc = .ok (.ixor, 1)) (k : WS X b nL S me (pc + 1) lv (.int (x ^^^ y) :: st)) : WS X b nL S me pc lv (.int y :: .int x :: st) := by
  obtain ⟨p, l', e, R, s, m, args, below, meth, cd, D', Q, n0, m0⟩ := X
  obtain ⟨rfl, rfl, hx, hb, hml, hown, hts, hKD, hbs, hR, hnm, hlk⟩ := cx
  exact fun H locs ls h1 h2 h3 h4 h5 => lv_ixor hx hb d (k H locs ls h1 h2 h3 h4 h5)

theorem ws_ishl (cx : CX X l D b cc nL own nm fr lo mc ms) {x y : Int32} (d : decode cc pc = .ok (.ishl, 1)) (k : WS X b nL S me (pc + 1) lv (.int (x <<< (y &&& 31)) :: st)) : WS X b nL S me pc lv (.int y :: .int x :: st) := by
  obtain ⟨p, l', e, R, s, m, args, below, meth, cd, D', Q, n0, m0⟩ := X
  obtain ⟨rfl, rfl, hx, hb, hml, hown, hts, hKD, hbs, hR, hnm, hlk⟩ := cx
  exact fun H locs ls h1 h2 h3 h4 h5 => lv_ishl hx hb d (k H locs ls h1 h2 h3 h4 h5)

theorem ws_ishr (cx : CX X l D b cc nL own nm fr lo mc ms) {x y : Int32} (d : decode cc pc = .ok (.ishr, 1)) (k : WS X b nL S me (pc + 1) lv (.int (x >>> (y &&& 31)) :: st)) : WS X b nL S me pc lv (.int y :: .int x :: st) := by
  obtain ⟨p, l', e, R, s, m, args, below, meth, cd, D', Q, n0, m0⟩ := X
  obtain ⟨rfl, rfl, hx, hb, hml, hown, hts, hKD, hbs, hR, hnm, hlk⟩ := cx
  exact fun H locs ls h1 h2 h3 h4 h5 => lv_ishr hx hb d (k H locs ls h1 h2 h3 h4 h5)

theorem ws_idiv (cx : CX X l D b cc nL own nm fr lo mc ms) {x y : Int32} (hne : ¬ y = 0) (d : decode cc pc = .ok (.idiv, 1)) (k : WS X b nL S me (pc + 1) lv (.int (x / y) :: st)) : WS X b nL S me pc lv (.int y :: .int x :: st) := by
  obtain ⟨p, l', e, R, s, m, args, below, meth, cd, D', Q, n0, m0⟩ := X
  obtain ⟨rfl, rfl, hx, hb, hml, hown, hts, hKD, hbs, hR, hnm, hlk⟩ := cx
  exact fun H locs ls h1 h2 h3 h4 h5 => lv_idiv hx hb d hne (k H locs ls h1 h2 h3 h4 h5)

theorem ws_irem (cx : CX X l D b cc nL own nm fr lo mc ms) {x y : Int32} (hne : ¬ y = 0) (d : decode cc pc = .ok (.irem, 1)) (k : WS X b nL S me (pc + 1) lv (.int (x - x / y * y) :: st)) : WS X b nL S me pc lv (.int y :: .int x :: st) := by
  obtain ⟨p, l', e, R, s, m, args, below, meth, cd, D', Q, n0, m0⟩ := X
  obtain ⟨rfl, rfl, hx, hb, hml, hown, hts, hKD, hbs, hR, hnm, hlk⟩ := cx
  exact fun H locs ls h1 h2 h3 h4 h5 => lv_irem hx hb d hne (k H locs ls h1 h2 h3 h4 h5)

theorem ws_ladd (cx : CX X l D b cc nL own nm fr lo mc ms) {x y : Int64} (d : decode cc pc = .ok (.ladd, 1)) (k : WS X b nL S me (pc + 1) lv (.long (x + y) :: st)) : WS X b nL S me pc lv (.long y :: .long x :: st) := by
  obtain ⟨p, l', e, R, s, m, args, below, meth, cd, D', Q, n0, m0⟩ := X
  obtain ⟨rfl, rfl, hx, hb, hml, hown, hts, hKD, hbs, hR, hnm, hlk⟩ := cx
  exact fun H locs ls h1 h2 h3 h4 h5 => lv_ladd hx hb d (k H locs ls h1 h2 h3 h4 h5)

theorem ws_lsub (cx : CX X l D b cc nL own nm fr lo mc ms) {x y : Int64} (d : decode cc pc = .ok (.lsub, 1)) (k : WS X b nL S me (pc + 1) lv (.long (x - y) :: st)) : WS X b nL S me pc lv (.long y :: .long x :: st) := by
  obtain ⟨p, l', e, R, s, m, args, below, meth, cd, D', Q, n0, m0⟩ := X
  obtain ⟨rfl, rfl, hx, hb, hml, hown, hts, hKD, hbs, hR, hnm, hlk⟩ := cx
  exact fun H locs ls h1 h2 h3 h4 h5 => lv_lsub hx hb d (k H locs ls h1 h2 h3 h4 h5)

theorem ws_lmul (cx : CX X l D b cc nL own nm fr lo mc ms) {x y : Int64} (d : decode cc pc = .ok (.lmul, 1)) (k : WS X b nL S me (pc + 1) lv (.long (x * y) :: st)) : WS X b nL S me pc lv (.long y :: .long x :: st) := by
  obtain ⟨p, l', e, R, s, m, args, below, meth, cd, D', Q, n0, m0⟩ := X
  obtain ⟨rfl, rfl, hx, hb, hml, hown, hts, hKD, hbs, hR, hnm, hlk⟩ := cx
  exact fun H locs ls h1 h2 h3 h4 h5 => lv_lmul hx hb d (k H locs ls h1 h2 h3 h4 h5)

theorem ws_ldiv (cx : CX X l D b cc nL own nm fr lo mc ms) {x y : Int64} (hne : ¬ y = 0) (d : decode cc pc = .ok (.ldiv, 1)) (k : WS X b nL S me (pc + 1) lv (.long (x / y) :: st)) : WS X b nL S me pc lv (.long y :: .long x :: st) := by
  obtain ⟨p, l', e, R, s, m, args, below, meth, cd, D', Q, n0, m0⟩ := X
  obtain ⟨rfl, rfl, hx, hb, hml, hown, hts, hKD, hbs, hR, hnm, hlk⟩ := cx
  exact fun H locs ls h1 h2 h3 h4 h5 => lv_ldiv hx hb d hne (k H locs ls h1 h2 h3 h4 h5)

theorem ws_lrem (cx : CX X l D b cc nL own nm fr lo mc ms) {x y : Int64} (hne : ¬ y = 0) (d : decode cc pc = .ok (.lrem, 1)) (k : WS X b nL S me (pc + 1) lv (.long (x - x / y * y) :: st)) : WS X b nL S me pc lv (.long y :: .long x :: st) := by
  obtain ⟨p, l', e, R, s, m, args, below, meth, cd, D', Q, n0, m0⟩ := X
  obtain ⟨rfl, rfl, hx, hb, hml, hown, hts, hKD, hbs, hR, hnm, hlk⟩ := cx
  exact fun H locs ls h1 h2 h3 h4 h5 => lv_lrem hx hb d hne (k H locs ls h1 h2 h3 h4 h5)

theorem ws_lneg (cx : CX X l D b cc nL own nm fr lo mc ms) {x : Int64} (d : decode cc pc = .ok (.lneg, 1)) (k : WS X b nL S me (pc + 1) lv (.long (-x) :: st)) : WS X b nL S me pc lv (.long x :: st) := by
  obtain ⟨p, l', e, R, s, m, args, below, meth, cd, D', Q, n0, m0⟩ := X
  obtain ⟨rfl, rfl, hx, hb, hml, hown, hts, hKD, hbs, hR, hnm, hlk⟩ := cx
  exact fun H locs ls h1 h2 h3 h4 h5 => lv_lneg hx hb d (k H locs ls h1 h2 h3 h4 h5)

theorem ws_ineg (cx : CX X l D b cc nL own nm fr lo mc ms) {x : Int32} (d : decode cc pc = .ok (.ineg, 1)) (k : WS X b nL S me (pc + 1) lv (.int (-x) :: st)) : WS X b nL S me pc lv (.int x :: st) := by
  obtain ⟨p, l', e, R, s, m, args, below, meth, cd, D', Q, n0, m0⟩ := X
  obtain ⟨rfl, rfl, hx, hb, hml, hown, hts, hKD, hbs, hR, hnm, hlk⟩ := cx
  exact fun H locs ls h1 h2 h3 h4 h5 => lv_ineg hx hb d (k H locs ls h1 h2 h3 h4 h5)

theorem ws_i2l (cx : CX X l D b cc nL own nm fr lo mc ms) {x : Int32} (d : decode cc pc = .ok (.i2l, 1)) (k : WS X b nL S me (pc + 1) lv (.long x.toInt64 :: st)) : WS X b nL S me pc lv (.int x :: st) := by
  obtain ⟨p, l', e, R, s, m, args, below, meth, cd, D', Q, n0, m0⟩ := X
  obtain ⟨rfl, rfl, hx, hb, hml, hown, hts, hKD, hbs, hR, hnm, hlk⟩ := cx
  exact fun H locs ls h1 h2 h3 h4 h5 => lv_i2l hx hb d rfl (k H locs ls h1 h2 h3 h4 h5)

theorem ws_l2i (cx : CX X l D b cc nL own nm fr lo mc ms) {x : Int64} (d : decode cc pc = .ok (.l2i, 1)) (k : WS X b nL S me (pc + 1) lv (.int x.toInt32 :: st)) : WS X b nL S me pc lv (.long x :: st) := by
  obtain ⟨p, l', e, R, s, m, args, below, meth, cd, D', Q, n0, m0⟩ := X
  obtain ⟨rfl, rfl, hx, hb, hml, hown, hts, hKD, hbs, hR, hnm, hlk⟩ := cx
  exact fun H locs ls h1 h2 h3 h4 h5 => lv_l2i hx hb d rfl (k H locs ls h1 h2 h3 h4 h5)

theorem ws_iushr (cx : CX X l D b cc nL own nm fr lo mc ms) {x y : Int32} (d : decode cc pc = .ok (.iushr, 1)) (k : WS X b nL S me (pc + 1) lv (.int (x.toUInt32 >>> (y.toUInt32 &&& Int32.toUInt32 31)).toInt32 :: st)) : WS X b nL S me pc lv (.int y :: .int x :: st) := by
  obtain ⟨p, l', e, R, s, m, args, below, meth, cd, D', Q, n0, m0⟩ := X
  obtain ⟨rfl, rfl, hx, hb, hml, hown, hts, hKD, hbs, hR, hnm, hlk⟩ := cx
  exact fun H locs ls h1 h2 h3 h4 h5 => lv_iushr hx hb d rfl (k H locs ls h1 h2 h3 h4 h5)

theorem ws_lcmp (cx : CX X l D b cc nL own nm fr lo mc ms) {x y : Int64} (d : decode cc pc = .ok (.lcmp, 1)) (k : WS X b nL S me (pc + 1) lv (.int (lg_cmp x y) :: st)) : WS X b nL S me pc lv (.long y :: .long x :: st) := by
  obtain ⟨p, l', e, R, s, m, args, below, meth, cd, D', Q, n0, m0⟩ := X
  obtain ⟨rfl, rfl, hx, hb, hml, hown, hts, hKD, hbs, hR, hnm, hlk⟩ := cx
  exact fun H locs ls h1 h2 h3 h4 h5 => W.lcmp hx hb d (k H locs ls h1 h2 h3 h4 h5)

theorem ws_dup (cx : CX X l D b cc nL own nm fr lo mc ms) {v : Value} (d : decode cc pc = .ok (.dup, 1)) (hc : v.category = 1) (k : WS X b nL S me (pc + 1) lv (v :: v :: st)) : WS X b nL S me pc lv (v :: st) := by
  obtain ⟨p, l', e, R, s, m, args, below, meth, cd, D', Q, n0, m0⟩ := X
  obtain ⟨rfl, rfl, hx, hb, hml, hown, hts, hKD, hbs, hR, hnm, hlk⟩ := cx
  exact fun H locs ls h1 h2 h3 h4 h5 => lv_dup hx hb d hc (k H locs ls h1 h2 h3 h4 h5)

theorem ws_dup2 (cx : CX X l D b cc nL own nm fr lo mc ms) {v w : Value} (d : decode cc pc = .ok (.dup2, 1)) (hc : v.category = 1) (hc2 : w.category = 1) (k : WS X b nL S me (pc + 1) lv (v :: w :: v :: w :: st)) : WS X b nL S me pc lv (v :: w :: st) := by
  obtain ⟨p, l', e, R, s, m, args, below, meth, cd, D', Q, n0, m0⟩ := X
  obtain ⟨rfl, rfl, hx, hb, hml, hown, hts, hKD, hbs, hR, hnm, hlk⟩ := cx
  exact fun H locs ls h1 h2 h3 h4 h5 => lv_dup2_11 hx hb d hc hc2 (k H locs ls h1 h2 h3 h4 h5)

theorem ws_pop (cx : CX X l D b cc nL own nm fr lo mc ms) {v : Value} (d : decode cc pc = .ok (.pop, 1)) (hc : v.category = 1) (k : WS X b nL S me (pc + 1) lv (st)) : WS X b nL S me pc lv (v :: st) := by
  obtain ⟨p, l', e, R, s, m, args, below, meth, cd, D', Q, n0, m0⟩ := X
  obtain ⟨rfl, rfl, hx, hb, hml, hown, hts, hKD, hbs, hR, hnm, hlk⟩ := cx
  exact fun H locs ls h1 h2 h3 h4 h5 => lv_pop hx hb d hc (k H locs ls h1 h2 h3 h4 h5)

theorem ws_goto (cx : CX X l D b cc nL own nm fr lo mc ms) {off : Int} {tgt : Nat} (d : decode cc pc = .ok (.goto off, 3)) (ht : (pc : Int) + off = (tgt : Int)) (k : WS X b nL S me tgt lv (st)) : WS X b nL S me pc lv (st) := by
  obtain ⟨p, l', e, R, s, m, args, below, meth, cd, D', Q, n0, m0⟩ := X
  obtain ⟨rfl, rfl, hx, hb, hml, hown, hts, hKD, hbs, hR, hnm, hlk⟩ := cx
  exact fun H locs ls h1 h2 h3 h4 h5 => lv_goto hx hb d ht (k H locs ls h1 h2 h3 h4 h5)

theorem ws_if_eq (cx : CX X l D b cc nL own nm fr lo mc ms) {x : Int32} {off : Int} {tgt : Nat} (d : decode cc pc = .ok (.ifCond .eq off, 3)) (ht : (pc : Int) + off = (tgt : Int)) (kt : x = 0 → WS X b nL S me tgt lv st) (kf : ¬ (x = 0) → WS X b nL S me (pc + 3) lv st) : WS X b nL S me pc lv (.int x :: st) := by
  obtain ⟨p, l', e, R, s, m, args, below, meth, cd, D', Q, n0, m0⟩ := X
  obtain ⟨rfl, rfl, hx, hb, hml, hown, hts, hKD, hbs, hR, hnm, hlk⟩ := cx
  exact fun H locs ls h1 h2 h3 h4 h5 => lv_if_eq hx hb d ht (fun q => kt q H locs ls h1 h2 h3 h4 h5) (fun q => kf q H locs ls h1 h2 h3 h4 h5)

theorem ws_icmp_eq (cx : CX X l D b cc nL own nm fr lo mc ms) {x y : Int32} {off : Int} {tgt : Nat} (d : decode cc pc = .ok (.if_icmp .eq off, 3)) (ht : (pc : Int) + off = (tgt : Int)) (kt : x = y → WS X b nL S me tgt lv st) (kf : ¬ (x = y) → WS X b nL S me (pc + 3) lv st) : WS X b nL S me pc lv (.int y :: .int x :: st) := by
  obtain ⟨p, l', e, R, s, m, args, below, meth, cd, D', Q, n0, m0⟩ := X
  obtain ⟨rfl, rfl, hx, hb, hml, hown, hts, hKD, hbs, hR, hnm, hlk⟩ := cx
  exact fun H locs ls h1 h2 h3 h4 h5 => lv_icmp_eq hx hb d ht (fun q => kt q H locs ls h1 h2 h3 h4 h5) (fun q => kf q H locs ls h1 h2 h3 h4 h5)

theorem ws_if_ne (cx : CX X l D b cc nL own nm fr lo mc ms) {x : Int32} {off : Int} {tgt : Nat} (d : decode cc pc = .ok (.ifCond .ne off, 3)) (ht : (pc : Int) + off = (tgt : Int)) (kt : ¬ x = 0 → WS X b nL S me tgt lv st) (kf : x = 0 → WS X b nL S me (pc + 3) lv st) : WS X b nL S me pc lv (.int x :: st) := by
  obtain ⟨p, l', e, R, s, m, args, below, meth, cd, D', Q, n0, m0⟩ := X
  obtain ⟨rfl, rfl, hx, hb, hml, hown, hts, hKD, hbs, hR, hnm, hlk⟩ := cx
  exact fun H locs ls h1 h2 h3 h4 h5 => lv_if_ne hx hb d ht (fun q => kt q H locs ls h1 h2 h3 h4 h5) (fun q => kf q H locs ls h1 h2 h3 h4 h5)

theorem ws_icmp_ne (cx : CX X l D b cc nL own nm fr lo mc ms) {x y : Int32} {off : Int} {tgt : Nat} (d : decode cc pc = .ok (.if_icmp .ne off, 3)) (ht : (pc : Int) + off = (tgt : Int)) (kt : ¬ x = y → WS X b nL S me tgt lv st) (kf : x = y → WS X b nL S me (pc + 3) lv st) : WS X b nL S me pc lv (.int y :: .int x :: st) := by
  obtain ⟨p, l', e, R, s, m, args, below, meth, cd, D', Q, n0, m0⟩ := X
  obtain ⟨rfl, rfl, hx, hb, hml, hown, hts, hKD, hbs, hR, hnm, hlk⟩ := cx
  exact fun H locs ls h1 h2 h3 h4 h5 => lv_icmp_ne hx hb d ht (fun q => kt q H locs ls h1 h2 h3 h4 h5) (fun q => kf q H locs ls h1 h2 h3 h4 h5)

theorem ws_if_lt (cx : CX X l D b cc nL own nm fr lo mc ms) {x : Int32} {off : Int} {tgt : Nat} (d : decode cc pc = .ok (.ifCond .lt off, 3)) (ht : (pc : Int) + off = (tgt : Int)) (kt : x < 0 → WS X b nL S me tgt lv st) (kf : ¬ (x < 0) → WS X b nL S me (pc + 3) lv st) : WS X b nL S me pc lv (.int x :: st) := by
  obtain ⟨p, l', e, R, s, m, args, below, meth, cd, D', Q, n0, m0⟩ := X
  obtain ⟨rfl, rfl, hx, hb, hml, hown, hts, hKD, hbs, hR, hnm, hlk⟩ := cx
  exact fun H locs ls h1 h2 h3 h4 h5 => lv_if_lt hx hb d ht (fun q => kt q H locs ls h1 h2 h3 h4 h5) (fun q => kf q H locs ls h1 h2 h3 h4 h5)

theorem ws_icmp_lt (cx : CX X l D b cc nL own nm fr lo mc ms) {x y : Int32} {off : Int} {tgt : Nat} (d : decode cc pc = .ok (.if_icmp .lt off, 3)) (ht : (pc : Int) + off = (tgt : Int)) (kt : x < y → WS X b nL S me tgt lv st) (kf : ¬ (x < y) → WS X b nL S me (pc + 3) lv st) : WS X b nL S me pc lv (.int y :: .int x :: st) := by
  obtain ⟨p, l', e, R, s, m, args, below, meth, cd, D', Q, n0, m0⟩ := X
  obtain ⟨rfl, rfl, hx, hb, hml, hown, hts, hKD, hbs, hR, hnm, hlk⟩ := cx
  exact fun H locs ls h1 h2 h3 h4 h5 => lv_icmp_lt hx hb d ht (fun q => kt q H locs ls h1 h2 h3 h4 h5) (fun q => kf q H locs ls h1 h2 h3 h4 h5)

theorem ws_if_ge (cx : CX X l D b cc nL own nm fr lo mc ms) {x : Int32} {off : Int} {tgt : Nat} (d : decode cc pc = .ok (.ifCond .ge off, 3)) (ht : (pc : Int) + off = (tgt : Int)) (kt : 0 ≤ x → WS X b nL S me tgt lv st) (kf : ¬ (0 ≤ x) → WS X b nL S me (pc + 3) lv st) : WS X b nL S me pc lv (.int x :: st) := by
  obtain ⟨p, l', e, R, s, m, args, below, meth, cd, D', Q, n0, m0⟩ := X
  obtain ⟨rfl, rfl, hx, hb, hml, hown, hts, hKD, hbs, hR, hnm, hlk⟩ := cx
  exact fun H locs ls h1 h2 h3 h4 h5 => lv_if_ge hx hb d ht (fun q => kt q H locs ls h1 h2 h3 h4 h5) (fun q => kf q H locs ls h1 h2 h3 h4 h5)

theorem ws_icmp_ge (cx : CX X l D b cc nL own nm fr lo mc ms) {x y : Int32} {off : Int} {tgt : Nat} (d : decode cc pc = .ok (.if_icmp .ge off, 3)) (ht : (pc : Int) + off = (tgt : Int)) (kt : y ≤ x → WS X b nL S me tgt lv st) (kf : ¬ (y ≤ x) → WS X b nL S me (pc + 3) lv st) : WS X b nL S me pc lv (.int y :: .int x :: st) := by
  obtain ⟨p, l', e, R, s, m, args, below, meth, cd, D', Q, n0, m0⟩ := X
  obtain ⟨rfl, rfl, hx, hb, hml, hown, hts, hKD, hbs, hR, hnm, hlk⟩ := cx
  exact fun H locs ls h1 h2 h3 h4 h5 => lv_icmp_ge hx hb d ht (fun q => kt q H locs ls h1 h2 h3 h4 h5) (fun q => kf q H locs ls h1 h2 h3 h4 h5)

theorem ws_if_gt (cx : CX X l D b cc nL own nm fr lo mc ms) {x : Int32} {off : Int} {tgt : Nat} (d : decode cc pc = .ok (.ifCond .gt off, 3)) (ht : (pc : Int) + off = (tgt : Int)) (kt : 0 < x → WS X b nL S me tgt lv st) (kf : ¬ (0 < x) → WS X b nL S me (pc + 3) lv st) : WS X b nL S me pc lv (.int x :: st) := by
  obtain ⟨p, l', e, R, s, m, args, below, meth, cd, D', Q, n0, m0⟩ := X
  obtain ⟨rfl, rfl, hx, hb, hml, hown, hts, hKD, hbs, hR, hnm, hlk⟩ := cx
  exact fun H locs ls h1 h2 h3 h4 h5 => lv_if_gt hx hb d ht (fun q => kt q H locs ls h1 h2 h3 h4 h5) (fun q => kf q H locs ls h1 h2 h3 h4 h5)

theorem ws_icmp_gt (cx : CX X l D b cc nL own nm fr lo mc ms) {x y : Int32} {off : Int} {tgt : Nat} (d : decode cc pc = .ok (.if_icmp .gt off, 3)) (ht : (pc : Int) + off = (tgt : Int)) (kt : y < x → WS X b nL S me tgt lv st) (kf : ¬ (y < x) → WS X b nL S me (pc + 3) lv st) : WS X b nL S me pc lv (.int y :: .int x :: st) := by
  obtain ⟨p, l', e, R, s, m, args, below, meth, cd, D', Q, n0, m0⟩ := X
  obtain ⟨rfl, rfl, hx, hb, hml, hown, hts, hKD, hbs, hR, hnm, hlk⟩ := cx
  exact fun H locs ls h1 h2 h3 h4 h5 => lv_icmp_gt hx hb d ht (fun q => kt q H locs ls h1 h2 h3 h4 h5) (fun q => kf q H locs ls h1 h2 h3 h4 h5)

theorem ws_if_le (cx : CX X l D b cc nL own nm fr lo mc ms) {x : Int32} {off : Int} {tgt : Nat} (d : decode cc pc = .ok (.ifCond .le off, 3)) (ht : (pc : Int) + off = (tgt : Int)) (kt : x ≤ 0 → WS X b nL S me tgt lv st) (kf : ¬ (x ≤ 0) → WS X b nL S me (pc + 3) lv st) : WS X b nL S me pc lv (.int x :: st) := by
  obtain ⟨p, l', e, R, s, m, args, below, meth, cd, D', Q, n0, m0⟩ := X
  obtain ⟨rfl, rfl, hx, hb, hml, hown, hts, hKD, hbs, hR, hnm, hlk⟩ := cx
  exact fun H locs ls h1 h2 h3 h4 h5 => lv_if_le hx hb d ht (fun q => kt q H locs ls h1 h2 h3 h4 h5) (fun q => kf q H locs ls h1 h2 h3 h4 h5)

theorem ws_icmp_le (cx : CX X l D b cc nL own nm fr lo mc ms) {x y : Int32} {off : Int} {tgt : Nat} (d : decode cc pc = .ok (.if_icmp .le off, 3)) (ht : (pc : Int) + off = (tgt : Int)) (kt : x ≤ y → WS X b nL S me tgt lv st) (kf : ¬ (x ≤ y) → WS X b nL S me (pc + 3) lv st) : WS X b nL S me pc lv (.int y :: .int x :: st) := by
  obtain ⟨p, l', e, R, s, m, args, below, meth, cd, D', Q, n0, m0⟩ := X
  obtain ⟨rfl, rfl, hx, hb, hml, hown, hts, hKD, hbs, hR, hnm, hlk⟩ := cx
  exact fun H locs ls h1 h2 h3 h4 h5 => lv_icmp_le hx hb d ht (fun q => kt q H locs ls h1 h2 h3 h4 h5) (fun q => kf q H locs ls h1 h2 h3 h4 h5)

theorem ws_tabIn (cx : CX X l D b cc nL own nm fr lo mc ms) {dflt lo' hi : Int} {offs : Array Int} {len : Nat} {x : Int32} {off : Int} {tgt : Nat} (d : decode cc pc = .ok (.tableswitch dflt lo' hi offs, len)) (h1 : ¬ x.toInt < lo') (h2 : ¬ hi < x.toInt) (ho : offs[(x.toInt - lo').toNat]? = some off) (ht : (pc : Int) + off = (tgt : Int)) (k : WS X b nL S me tgt lv st) : WS X b nL S me pc lv (.int x :: st) := by
  obtain ⟨p, l', e, R, s, m, args, below, meth, cd, D', Q, n0, m0⟩ := X
  obtain ⟨rfl, rfl, hx, hb, hml, hown, hts, hKD, hbs, hR, hnm, hlk⟩ := cx
  exact fun H locs ls q1 q2 q3 q4 q5 => lv_tableIn hx hb d h1 h2 ho ht (k H locs ls q1 q2 q3 q4 q5)
theorem ws_tabOut (cx : CX X l D b cc nL own nm fr lo mc ms) {dflt lo' hi : Int} {offs : Array Int} {len : Nat} {x : Int32} {tgt : Nat} (d : decode cc pc = .ok (.tableswitch dflt lo' hi offs, len)) (h1 : x.toInt < lo' ∨ hi < x.toInt) (ht : (pc : Int) + dflt = (tgt : Int)) (k : WS X b nL S me tgt lv st) : WS X b nL S me pc lv (.int x :: st) := by
  obtain ⟨p, l', e, R, s, m, args, below, meth, cd, D', Q, n0, m0⟩ := X
  obtain ⟨rfl, rfl, hx, hb, hml, hown, hts, hKD, hbs, hR, hnm, hlk⟩ := cx
  exact fun H locs ls q1 q2 q3 q4 q5 => lv_tableOut hx hb d h1 ht (k H locs ls q1 q2 q3 q4 q5)
theorem ws_lookup (cx : CX X l D b cc nL own nm fr lo mc ms) {dflt : Int} {ps : Array (Int × Int)} {len : Nat} {x : Int32} {off : Int} {tgt : Nat} (d : decode cc pc = .ok (.lookupswitch dflt ps, len)) (hp : (ps.toList.zip (ps.toList.drop 1)).all (fun (a, next) => a.1 < next.1) = true) (ho : Op.lookupswitch.offset ps.toList dflt x.toInt = off) (ht : (pc : Int) + off = (tgt : Int)) (k : WS X b nL S me tgt lv st) : WS X b nL S me pc lv (.int x :: st) := by
  obtain ⟨p, l', e, R, s, m, args, below, meth, cd, D', Q, n0, m0⟩ := X
  obtain ⟨rfl, rfl, hx, hb, hml, hown, hts, hKD, hbs, hR, hnm, hlk⟩ := cx
  exact fun H locs ls q1 q2 q3 q4 q5 => lv_lookup hx hb d hp ho ht (k H locs ls q1 q2 q3 q4 q5)
theorem ws_sub (ks : List Nat) (hl : lv_pick lv ks = lv') (k : WS X b nL S me pc lv' st) : WS X b nL S me pc lv st := by
  obtain ⟨p, l', e, R, s, m, args, below, meth, cd, D', Q, n0, m0⟩ := X
  exact fun H locs ls h1 h2 h3 h4 h5 => k H locs ls h1 h2 h3 h4 (lv_sub h5 ks hl)
theorem qc_end {t : State} {s : State} {D : va_G} {b : Nat} {S : SH} {me : ME} {H : Heap} {rv : Option Value} {a : Array Value} (h1 : HR s D b S me H) (h2 : ∀ q : Nat, q < b → H[q]? = s.heap[q]?) (ht : t.heap = H) (hW : s.WarmedH t.vm) : QcA D b S me rv a s (.returned rv) t :=
  ⟨rfl, by rw [ht]; exact HR_moved hW.alike h1, fun q hq => by rw [ht]; exact h2 q hq⟩
theorem ws_iret (cx : CX X l D b cc nL own nm fr lo mc ms) {v : Int32} {S' : SH} {me' : ME} {rv : Option Value} (ex : EX X b (some .int) S' me' rv) (hr : rv = some (.int v)) (hS : S' = S) (hm : me' = me) (d : decode cc pc = .ok (.ireturn, 1)) : WS X b nL S me pc lv [.int v] := by
  subst hr hS hm
  obtain ⟨p, l', e, R, s, m, args, below, meth, cd, D', Q, n0, m0⟩ := X
  obtain ⟨rfl, rfl, hx, hb, hml, hown, hts, hKD, hbs, hR, hnm, hlk⟩ := cx
  obtain ⟨hret, rfl⟩ := ex
  exact fun H locs ls h1 h2 h3 h4 h5 => W.widen h4.2.2.1 h4.2.2.2 (W.iret hx hb hret (fun t ht hW => qc_end h1 h2 ht hW) h3 d hlk)
theorem ws_zret (cx : CX X l D b cc nL own nm fr lo mc ms) {v : Int32} {S' : SH} {me' : ME} {rv : Option Value} (ex : EX X b (some .boolean) S' me' rv) (h01 : v = 0 ∨ v = 1) (hr : rv = some (.int v)) (hS : S' = S) (hm : me' = me) (d : decode cc pc = .ok (.ireturn, 1)) : WS X b nL S me pc lv [.int v] := by
  subst hr hS hm
  obtain ⟨p, l', e, R, s, m, args, below, meth, cd, D', Q, n0, m0⟩ := X
  obtain ⟨rfl, rfl, hx, hb, hml, hown, hts, hKD, hbs, hR, hnm, hlk⟩ := cx
  obtain ⟨hret, rfl⟩ := ex
  exact fun H locs ls h1 h2 h3 h4 h5 => W.widen h4.2.2.1 h4.2.2.2 (W.zret hx hb hret (by rcases h01 with rfl | rfl <;> rfl) (fun t ht hW => qc_end h1 h2 ht hW) h3 d hlk)
theorem ws_lret (cx : CX X l D b cc nL own nm fr lo mc ms) {v : Int64} {S' : SH} {me' : ME} {rv : Option Value} (ex : EX X b (some .long) S' me' rv) (hr : rv = some (.long v)) (hS : S' = S) (hm : me' = me) (d : decode cc pc = .ok (.lreturn, 1)) : WS X b nL S me pc lv [.long v] := by
  subst hr hS hm
  obtain ⟨p, l', e, R, s, m, args, below, meth, cd, D', Q, n0, m0⟩ := X
  obtain ⟨rfl, rfl, hx, hb, hml, hown, hts, hKD, hbs, hR, hnm, hlk⟩ := cx
  obtain ⟨hret, rfl⟩ := ex
  exact fun H locs ls h1 h2 h3 h4 h5 => W.widen h4.2.2.1 h4.2.2.2 (W.lret hx hb hret (fun t ht hW => qc_end h1 h2 ht hW) h3 d hlk)
theorem ws_vret (cx : CX X l D b cc nL own nm fr lo mc ms) {S' : SH} {me' : ME} {rv : Option Value} (ex : EX X b none S' me' rv) (hr : rv = none) (hS : S' = S) (hm : me' = me) (d : decode cc pc = .ok (.return_, 1)) : WS X b nL S me pc lv [] := by
  subst hr hS hm
  obtain ⟨p, l', e, R, s, m, args, below, meth, cd, D', Q, n0, m0⟩ := X
  obtain ⟨rfl, rfl, hx, hb, hml, hown, hts, hKD, hbs, hR, hnm, hlk⟩ := cx
  obtain ⟨hret, rfl⟩ := ex
  exact fun H locs ls h1 h2 h3 h4 h5 => W.widen h4.2.2.1 h4.2.2.2 (W.vret hx hb hret (fun t ht hW => qc_end h1 h2 ht hW) h3 d hlk)
end WROWS3
end
section
section WROWS4
variable {X : XT} {l : Launch} {D : va_G} {b : Nat} {cc : ByteArray} {nL : Nat} {own nm : String} {fr lo mc ms : Nat} {S S1 : SH} {me me1 : ME} {pc : Nat} {lv lv' : List (Nat × Value)} {st : List Value}
/-- what a constructor may yet make -/
def LX : XT → Nat × Nat → Nat → Nat → Prop
  | (p, l, e, R, s, m, args, below, meth, c, D, Q, n0, m0), lim, mc, ms => lim.1 = n0 + mc ∧ lim.2 = m0 + ms
/-- a method that may be called: of an object of its class (vi = true), or static -/
def MV (vi : Bool) (y : MethodName) (bytes : ByteArray) (maxL : Nat) (ret : Option FieldType) (n : Nat) : Prop :=
  Cond.code y bytes maxL ret ∈ lw_good ∧ Cond.initialized y.cls ∈ lw_good ∧ (y.cls ≠ "java/lang/invoke/MethodHandle" ∧ y.cls ≠ "java/lang/invoke/VarHandle") ∧ (parseMethodDescriptor y.desc).map (fun d => d.parameters.length) = some n ∧ ((vi = true → Cond.instanceMethod y ∈ lw_good) ∧ (vi = false → Cond.static y ∈ lw_good))
theorem good_pay {args : Array Value} {s : State} (hts : ∀ w ∈ lw_good, w.before args s = true) {y : MethodName} {bytes : ByteArray} {maxL : Nat} {ret : Option FieldType} (hc : Cond.code y bytes maxL ret ∈ lw_good) : ∀ w ∈ (Cond.code y bytes maxL ret :: lw_good), ∀ (a' : Array Value) (U : State), s.WarmedH U.vm → w.before a' U = true := by
  intro w hw a' U hW
  have h1 : w ∈ lw_good := by
    rcases List.mem_cons.mp hw with rfl | h
    · exact hc
    · exact h
  exact word_at hW (good_of_word (List.mem_filter.mp h1).2) (hts w h1)
theorem mv_len {vi : Bool} {y : MethodName} {bytes : ByteArray} {maxL : Nat} {ret : Option FieldType} {n : Nat} (h : MV vi y bytes maxL ret n) : ∀ sig, parseMethodDescriptor y.desc = some sig → n = sig.parameters.length := by
  intro sig hs
  have h2 := h.2.2.2.1
  rw [hs] at h2
  exact (Option.some.inj h2).symm
theorem nw_call {w : Cond} (hw : lw_isNw w = true) {u U : State} (h : u.vm = U.vm) (hZ : va_Nw w u) : va_Nw w U := by
  cases w <;> first | exact va_Nw.same rfl h hZ | (simp [lw_isNw] at hw; done) | skip
  rename_i ty
  cases ty <;> first | (simp [lw_isNw] at hw; done) | exact va_AO.moved (by rw [h]; exact Vm.Alike.refl _) hZ | exact nw_overA (by rw [h]; exact Vm.Alike.refl _) hZ
theorem pc_blind {av : List Value} : FrameBlind (PcA D b av S me) := fun a U g mk q => ⟨q.1, HR_moved (u := U) (U := U.calling g mk a) (Vm.Alike.refl U.vm) q.2.1, ⟨fun c q' hq => u_Kn_moved (u := U) (U := U.calling g mk a) (Vm.Alike.refl U.vm) (q.2.2.1 c q' hq), fun w hw => nw_call (u := U) (U := U.calling g mk a) (List.mem_filter.mp hw).2 rfl (q.2.2.2 w hw)⟩⟩
theorem pc_at {s : State} {H : Heap} {av : List Value} (h1 : HR s D b S me H) (hKD : KD s D) : ∀ U : State, U.heap = H → s.WarmedH U.vm → PcA D b av S me av.toArray U := fun U hU hW => ⟨rfl, by rw [hU]; exact HR_moved hW.alike h1, KD_moved hW hKD⟩
/-- behind a call -/
theorem ws_back {p : Program} {e : Env} {R : Room} {s : State} {m : MethodId} {args : Array Value} {below : List Frame} {meth : Method} {c : Code} {Q : State → Prop} {n0 m0 mz sz : Nat} {H : Heap} {locs : List Loc} {ls : Array Slot} {st0 rest st' : List Value} {rv : Option Value} {a : Array Value}
    (hr : va_Run p l e R s m args below meth c H locs (S.1.length - n0) (sO S - m0) mz sz (F0 m pc ls st0) rest (QcA D b S1 me1 rv a) (fun q => b ≤ q)) (h2 : ∀ q : Nat, q < b → H[q]? = s.heap[q]?) (h3 : ∀ q ∈ locs, b ≤ q.base) (h4 : n0 ≤ S.1.length ∧ m0 ≤ sO S ∧ S.1.length - n0 ≤ R.cells ∧ sO S - m0 ≤ R.slots) (h5 : lv_has ls nL lv) (hz : S1.1.length = S.1.length + mz ∧ sO S1 = sO S + sz) (hf : S.1.length - n0 + mz ≤ R.cells ∧ sO S - m0 + sz ≤ R.slots) (hst : rv.toList ++ rest = st')
    (kk : WS (p, l, e, R, s, m, args, below, meth, c, D, Q, n0, m0) b nL S1 me1 (pc + 3) lv st') : W p l e R s m args below meth c H locs (S.1.length - n0) (sO S - m0) Q (F0 m pc ls st0) := by
  intro T hT Xs
  obtain ⟨v, st₀, t, T', L, g0, X', hL, e1, e2, ⟨hv, hH, hfr⟩, stp⟩ := hr T hT Xs
  cases hv
  subst hst
  have hal : s.vm.Alike T'.vm := X'.warmed.alike
  have hH' : HR s D b S1 me1 T'.heap := by rw [e1]; exact HR_moved (u := t) (U := s) (by rw [← e2]; exact hal.symm) hH
  have w := kk T'.heap (locs ++ L) ls hH' (fun q hq => by rw [e1, hfr q hq, g0]; exact h2 q hq) (fun q hq => by
    rcases List.mem_append.mp hq with h | h
    · exact h3 q h
    · exact hL q h) (by rw [hz.1, hz.2]; omega) h5
  obtain ⟨t2, a1, b1⟩ := W.widen (by rw [hz.1]; omega) (by rw [hz.2]; omega) w T' rfl X'
  exact ⟨t2, stp t2 a1, b1⟩
theorem lv_room8 {m : MethodId} {ls : Array Slot} {st0 : List Value} {rest : List Value} (h : (rest.map fun v => v.category).sum ≤ 8) : 2 * (F0 m pc ls st0).monitorRoom + (rest.map fun v => v.category).sum ≤ 8 := by
  show 2 * 0 + _ ≤ 8
  omega
theorem ws_callV (cx : CX X l D b cc nL own nm fr lo mc ms) {y : MethodName} {bytes : ByteArray} {maxL : Nat} {ret : Option FieldType} {n index frz loz mz sz c r : Nat} {q : vw_C} {av rest st' : List Value} {rv : Option Value} (hM : Ct l D b y bytes maxL ret frz loz mz sz (.ref (b + r) :: av) S me S1 me1 rv) (hV : MV true y bytes maxL ret n) (hk : kO S r = c) (hc : c < 11) (hq : vwCl[c]? = some q) (hC : Cond.selects q.1 y y ∈ lw_good) (hlink : Cond.methodLink own index y ∈ lw_good)
    (hn : av.length = n) (hR : frz + 1 ≤ fr ∧ 8 + (maxL + 11) + loz ≤ lo) (hroom : (rest.map fun v => v.category).sum ≤ 8) (hz : S1.1.length = S.1.length + mz ∧ sO S1 = sO S + sz) (hf : mz = 0 ∧ sz = 0 ∨ ∃ lim : Nat × Nat, LX X lim mc ms ∧ S.1.length + mz ≤ lim.1 ∧ sO S + sz ≤ lim.2) (hst0 : av.reverse ++ .ref (b + r) :: rest = st) (hst : rv.toList ++ rest = st') (d : decode cc pc = .ok (.invokevirtual index, 3)) (kk : WS X b nL S1 me1 (pc + 3) lv st') : WS X b nL S me pc lv st := by
  obtain ⟨p, l', e, R, s, m, args, below, meth, cd, D', Q, n0, m0⟩ := X
  obtain ⟨rfl, rfl, hx, hb, hml, hown, hts, hKD, hbs, ⟨r1, r2, r3, r4⟩, hnm, hlk⟩ := cx
  intro H locs ls h1 h2 h3 h4 h5
  have hf' : S.1.length - n0 + mz ≤ R.cells ∧ sO S - m0 + sz ≤ R.slots := by
    rcases hf with ⟨rfl, rfl⟩ | ⟨lim, ⟨f1, f2⟩, f3, f4⟩
    · exact ⟨h4.2.2.1, h4.2.2.2⟩
    · have := h4.1
      have := h4.2.1
      omega
  subst hst0
  have hO := (h1.2 r (kO_lt hk (by omega))).1 (by omega)
  rw [hk] at hO
  obtain ⟨cell, c1, c2, c3, -⟩ := hO
  have hfc := (hKD.1 c q hq).2.1
  refine ws_back (va_runV (As := av) (rest := rest) (C := q.1) (n := n) (Ts := lw_good) (cc := cc) ⟨hx, hb, hml, hown, hts⟩ hM ⟨⟨rfl, rfl, by rw [r1]; exact hR.1, by rw [r2]; exact hR.2, good_pay hts hV.1, List.mem_cons_self, hts _ hV.1, hts _ hV.2.1, hV.2.2.1, mv_len hV, hts _ hlink⟩, hts _ (by have := hV.2.2.2.2; simpa using this), hts _ hC⟩ ⟨pc_blind, ⟨cell, c1, by rw [c3]; rfl, by rw [c2]; exact hfc⟩, pc_at h1 hKD⟩ rfl hn h5.1 rfl (lv_room8 hroom) d hf') h2 h3 h4 h5 hz hf' hst kk
theorem ws_callS (cx : CX X l D b cc nL own nm fr lo mc ms) {y : MethodName} {bytes : ByteArray} {maxL : Nat} {ret : Option FieldType} {n index frz loz mz sz : Nat} {av rest st' : List Value} {rv : Option Value} (hM : Ct l D b y bytes maxL ret frz loz mz sz av S me S1 me1 rv) (hV : MV false y bytes maxL ret n) (hlink : Cond.methodLink own index y ∈ lw_good)
    (hn : av.length = n) (hR : frz + 1 ≤ fr ∧ 8 + (maxL + 11) + loz ≤ lo) (hroom : (rest.map fun v => v.category).sum ≤ 8) (hz : S1.1.length = S.1.length + mz ∧ sO S1 = sO S + sz) (hf : mz = 0 ∧ sz = 0 ∨ ∃ lim : Nat × Nat, LX X lim mc ms ∧ S.1.length + mz ≤ lim.1 ∧ sO S + sz ≤ lim.2) (hst0 : av.reverse ++ rest = st) (hst : rv.toList ++ rest = st') (d : decode cc pc = .ok (.invokestatic index, 3)) (kk : WS X b nL S1 me1 (pc + 3) lv st') : WS X b nL S me pc lv st := by
  obtain ⟨p, l', e, R, s, m, args, below, meth, cd, D', Q, n0, m0⟩ := X
  obtain ⟨rfl, rfl, hx, hb, hml, hown, hts, hKD, hbs, ⟨r1, r2, r3, r4⟩, hnm, hlk⟩ := cx
  intro H locs ls h1 h2 h3 h4 h5
  have hf' : S.1.length - n0 + mz ≤ R.cells ∧ sO S - m0 + sz ≤ R.slots := by
    rcases hf with ⟨rfl, rfl⟩ | ⟨lim, ⟨f1, f2⟩, f3, f4⟩
    · exact ⟨h4.2.2.1, h4.2.2.2⟩
    · have := h4.1
      have := h4.2.1
      omega
  subst hst0
  refine ws_back (va_runS (As := av) (rest := rest) (n := n) (Ts := lw_good) (cc := cc) ⟨hx, hb, hml, hown, hts⟩ hM ⟨⟨rfl, rfl, by rw [r1]; exact hR.1, by rw [r2]; exact hR.2, good_pay hts hV.1, List.mem_cons_self, hts _ hV.1, hts _ hV.2.1, hV.2.2.1, mv_len hV, hts _ hlink⟩, hts _ (by have := hV.2.2.2.2; simpa using this)⟩ ⟨pc_blind, pc_at h1 hKD⟩ rfl hn h5.1 rfl (lv_room8 hroom) d hf') h2 h3 h4 h5 hz hf' hst kk
theorem ws_callSN (cx : CX X l D b cc nL own nm fr lo mc ms) {y : MethodName} {bytes : ByteArray} {maxL : Nat} {ret : Option FieldType} {n index frz loz mz sz : Nat} {host : String} {av rest st' : List Value} {rv : Option Value} (hM : Ct l D b y bytes maxL ret frz loz mz sz av S me S1 me1 rv) (hV : MV false y bytes maxL ret n) (hlink : Cond.methodLinkNest own index y host ∈ lw_nw)
    (hn : av.length = n) (hR : frz + 1 ≤ fr ∧ 8 + (maxL + 11) + loz ≤ lo) (hroom : (rest.map fun v => v.category).sum ≤ 8) (hz : S1.1.length = S.1.length + mz ∧ sO S1 = sO S + sz) (hf : mz = 0 ∧ sz = 0 ∨ ∃ lim : Nat × Nat, LX X lim mc ms ∧ S.1.length + mz ≤ lim.1 ∧ sO S + sz ≤ lim.2) (hst0 : av.reverse ++ rest = st) (hst : rv.toList ++ rest = st') (d : decode cc pc = .ok (.invokestatic index, 3)) (kk : WS X b nL S1 me1 (pc + 3) lv st') : WS X b nL S me pc lv st := by
  obtain ⟨p, l', e, R, s, m, args, below, meth, cd, D', Q, n0, m0⟩ := X
  obtain ⟨rfl, rfl, hx, hb, hml, hown, hts, hKD, hbs, ⟨r1, r2, r3, r4⟩, hnm, hlk⟩ := cx
  intro H locs ls h1 h2 h3 h4 h5
  have hf' : S.1.length - n0 + mz ≤ R.cells ∧ sO S - m0 + sz ≤ R.slots := by
    rcases hf with ⟨rfl, rfl⟩ | ⟨lim, ⟨f1, f2⟩, f3, f4⟩
    · exact ⟨h4.2.2.1, h4.2.2.2⟩
    · have := h4.1
      have := h4.2.1
      omega
  subst hst0
  refine ws_back (va_runSN (As := av) (rest := rest) (n := n) (host := host) (Ts := lw_good) (cc := cc) ⟨hx, hb, hml, hown, hts⟩ hM ⟨⟨⟨rfl, rfl, by rw [r1]; exact hR.1, by rw [r2]; exact hR.2, good_pay hts hV.1, List.mem_cons_self⟩, hts _ hV.1, hts _ hV.2.1, hV.2.2.1, mv_len hV, va_Nw.use rfl (hKD.2 _ hlink)⟩, hts _ (by have := hV.2.2.2.2; simpa using this), trivial⟩ ⟨pc_blind, pc_at h1 hKD⟩ rfl hn h5.1 rfl (lv_room8 hroom) d hf') h2 h3 h4 h5 hz hf' hst kk
theorem ws_callI (cx : CX X l D b cc nL own nm fr lo mc ms) {y : MethodName} {bytes : ByteArray} {maxL : Nat} {n index frz loz mz sz r : Nat} {av rest : List Value} (hM : Ct l D b y bytes maxL none frz loz mz sz (.ref (b + r) :: av) S me S1 me1 none) (hV : MV true y bytes maxL none n) (hnm2 : y.name = "<init>") (hlink : Cond.methodLink own index y ∈ lw_good)
    (hn : av.length = n) (hR : frz + 1 ≤ fr ∧ 8 + (maxL + 11) + loz ≤ lo) (hroom : (rest.map fun v => v.category).sum ≤ 8) (hz : S1.1.length = S.1.length + mz ∧ sO S1 = sO S + sz) (hf : mz = 0 ∧ sz = 0 ∨ ∃ lim : Nat × Nat, LX X lim mc ms ∧ S.1.length + mz ≤ lim.1 ∧ sO S + sz ≤ lim.2) (hst0 : av.reverse ++ .ref (b + r) :: rest = st) (d : decode cc pc = .ok (.invokespecial index, 3)) (kk : WS X b nL S1 me1 (pc + 3) lv rest) : WS X b nL S me pc lv st := by
  obtain ⟨p, l', e, R, s, m, args, below, meth, cd, D', Q, n0, m0⟩ := X
  obtain ⟨rfl, rfl, hx, hb, hml, hown, hts, hKD, hbs, ⟨r1, r2, r3, r4⟩, hnm, hlk⟩ := cx
  intro H locs ls h1 h2 h3 h4 h5
  have hf' : S.1.length - n0 + mz ≤ R.cells ∧ sO S - m0 + sz ≤ R.slots := by
    rcases hf with ⟨rfl, rfl⟩ | ⟨lim, ⟨f1, f2⟩, f3, f4⟩
    · exact ⟨h4.2.2.1, h4.2.2.2⟩
    · have := h4.1
      have := h4.2.1
      omega
  subst hst0
  refine ws_back (va_runI (As := av) (rest := rest) (n := n) (Ts := lw_good) (cc := cc) ⟨hx, hb, hml, hown, hts⟩ hM ⟨⟨rfl, rfl, by rw [r1]; exact hR.1, by rw [r2]; exact hR.2, good_pay hts hV.1, List.mem_cons_self, hts _ hV.1, hts _ hV.2.1, hV.2.2.1, mv_len hV, hts _ hlink⟩, hnm2, hts _ (by have := hV.2.2.2.2; simpa using this)⟩ ⟨pc_blind, pc_at h1 hKD⟩ rfl hn h5.1 rfl (lv_room8 hroom) d hf') h2 h3 h4 h5 hz hf' rfl kk
theorem ws_callIN (cx : CX X l D b cc nL own nm fr lo mc ms) {y : MethodName} {bytes : ByteArray} {maxL : Nat} {n index frz loz mz sz r : Nat} {host : String} {av rest : List Value} (hM : Ct l D b y bytes maxL none frz loz mz sz (.ref (b + r) :: av) S me S1 me1 none) (hV : MV true y bytes maxL none n) (hnm2 : y.name = "<init>") (hlink : Cond.methodLinkNest own index y host ∈ lw_nw)
    (hn : av.length = n) (hR : frz + 1 ≤ fr ∧ 8 + (maxL + 11) + loz ≤ lo) (hroom : (rest.map fun v => v.category).sum ≤ 8) (hz : S1.1.length = S.1.length + mz ∧ sO S1 = sO S + sz) (hf : mz = 0 ∧ sz = 0 ∨ ∃ lim : Nat × Nat, LX X lim mc ms ∧ S.1.length + mz ≤ lim.1 ∧ sO S + sz ≤ lim.2) (hst0 : av.reverse ++ .ref (b + r) :: rest = st) (d : decode cc pc = .ok (.invokespecial index, 3)) (kk : WS X b nL S1 me1 (pc + 3) lv rest) : WS X b nL S me pc lv st := by
  obtain ⟨p, l', e, R, s, m, args, below, meth, cd, D', Q, n0, m0⟩ := X
  obtain ⟨rfl, rfl, hx, hb, hml, hown, hts, hKD, hbs, ⟨r1, r2, r3, r4⟩, hnm, hlk⟩ := cx
  intro H locs ls h1 h2 h3 h4 h5
  have hf' : S.1.length - n0 + mz ≤ R.cells ∧ sO S - m0 + sz ≤ R.slots := by
    rcases hf with ⟨rfl, rfl⟩ | ⟨lim, ⟨f1, f2⟩, f3, f4⟩
    · exact ⟨h4.2.2.1, h4.2.2.2⟩
    · have := h4.1
      have := h4.2.1
      omega
  subst hst0
  refine ws_back (va_runIN (As := av) (rest := rest) (n := n) (host := host) (Ts := lw_good) (cc := cc) ⟨hx, hb, hml, hown, hts⟩ hM ⟨⟨⟨rfl, rfl, by rw [r1]; exact hR.1, by rw [r2]; exact hR.2, good_pay hts hV.1, List.mem_cons_self⟩, hts _ hV.1, hts _ hV.2.1, hV.2.2.1, mv_len hV, va_Nw.use rfl (hKD.2 _ hlink)⟩, hnm2, hts _ (by have := hV.2.2.2.2; simpa using this)⟩ ⟨pc_blind, pc_at h1 hKD⟩ rfl hn h5.1 rfl (lv_room8 hroom) d hf') h2 h3 h4 h5 hz hf' rfl kk
/-- a contract, out of the walk of its body -/
theorem ct_of {y : MethodName} {ret : Option FieldType} {av : List Value} {S' : SH} {me' : ME} {rv : Option Value} (hy : plainFor y = true) (hyc : y.cls = own) (hyn : y.name = nm) (hav : (lg_sl av).length ≤ nL) (hlv : lv_args 0 av = lv) (hz : S'.1.length = S.1.length + mc ∧ sO S' = sO S + ms)
    (body : ∀ X : XT, CX X l D b cc nL own nm fr lo mc ms → EX X b ret S' me' rv → LX X (S.1.length + mc, sO S + ms) mc ms → WS X b nL S me 0 lv []) : Ct l D b y cc nL ret fr lo mc ms av S me S' me' rv := by
  refine va_MetF (cc := cc) (maxL := nL) (ret := ret) hy rfl ?_
  intro p e s m args below meth c s₁ B hml hv
  obtain ⟨rfl, hH, hKD⟩ := hv
  have hts0 := atoms_spec (ws := .code y cc nL ret :: lw_good) B.pre
  have hts : ∀ w ∈ lw_good, w.before av.toArray s = true := fun w h => hts0 w (List.mem_cons_of_mem _ h)
  have hown : s.vm.findClass own = some m.cls := by rw [← hyc]; exact findClass_of_methodNamed B.named
  have hnm : meth.name = nm := by rw [← hyn]; exact (name_of_methodNamed B.named B.method).1
  have hl := lv_entry av (n := nL) hav
  rw [lg_entry_eq]
  have w := body (p, l, e, (headSpec (.code y cc nL ret :: lw_good) { frames := fr, cells := mc, slots := ms, locals := lo }).room, s, m, av.toArray, below, meth, c, D, MQ below (QcA D b S' me' rv) av.toArray s mc ms (fun q => b ≤ q), S.1.length, sO S) ⟨rfl, rfl, B.exec, B.bytes, hml, hown, hts, hKD, by rw [hH.1]; omega, ⟨rfl, rfl, rfl, rfl⟩, hnm, B.notSynchronized⟩ ⟨B.returns, rfl⟩ ⟨rfl, rfl⟩
  have w2 := w s.heap [] _ hH (fun q _ => rfl) (fun q hq => by cases hq) ⟨Nat.le_refl _, Nat.le_refl _, by rw [Nat.sub_self]; exact Nat.zero_le _, by rw [Nat.sub_self]; exact Nat.zero_le _⟩ (by rw [← hlv]; exact hl)
  rw [Nat.sub_self, Nat.sub_self] at w2
  exact w2
end WROWS4
end
section
section WROWS5
variable {X : XT} {l : Launch} {D : va_G} {b : Nat} {cc : ByteArray} {nL : Nat} {own nm : String} {fr lo mc ms : Nat} {S S1 : SH} {me me1 : ME} {pc : Nat} {lv lv' : List (Nat × Value)} {st : List Value} {lim : Nat × Nat}
/-- a class whose objects a method of class own makes -/
def NC (own : String) (index c : Nat) : Prop := c < 11 ∧ ∃ q : vw_C, vwCl[c]? = some q ∧ q.2.2 = nF c ∧ (∀ w ∈ u_ws q.1 q.2.1 q.2.2, w ∈ lw_good) ∧ Cond.classLink own index q.1 ∈ lw_good ∧ Cond.instantiable q.1 q.2.2 ∈ lw_good ∧ Cond.initialized q.1 ∈ lw_good ∧ ∃ ty0 : Nat → FieldType, (∀ j, j < q.2.2 → parseFieldDescriptor (q.2.1 j).2.2.1 = some (ty0 j)) ∧ (∀ j, j < q.2.2 → defaultValue (ty0 j) = if fty c j = 0 then .int 0 else if fty c j = 1 then .long 0 else .null)
theorem ws_new (cx : CX X l D b cc nL own nm fr lo mc ms) (hL : LX X lim mc ms) {index c : Nat} (hN : NC own index c) (hr : S.1.length + 1 ≤ lim.1 ∧ sO S + nF c ≤ lim.2) (d : decode cc pc = .ok (.new index, 3)) (kk : WS X b nL (nS S c (nF c)) (nM S me) (pc + 3) lv (.ref (b + S.1.length) :: st)) : WS X b nL S me pc lv st := by
  obtain ⟨p, l', e, R, s, m, args, below, meth, cd, D', Q, n0, m0⟩ := X
  obtain ⟨rfl, rfl, hx, hb, hml, hown, hts, hKD, hbs, ⟨r1, r2, r3, r4⟩, hnm, hlk⟩ := cx
  obtain ⟨f1, f2⟩ := hL
  obtain ⟨hc, q, hq, hqn, hin, hcl, hins, hini, ty0, hty, hdf⟩ := hN
  intro H locs ls h1 h2 h3 h4 h5
  have hKn := hKD.1 c _ hq
  have hz := h1.1
  have w := fun H1 g1 g2 => kk H1 locs ls g1 g2 h3 (by rw [len_new, sO_new]; omega) h5
  rw [len_new, sO_new] at w
  refine W.newcK hx hb hown (hts _ hcl) (hts _ hins) (hts _ hini) (g := F0 m pc ls st) rfl d (by omega) (by rw [hqn]; omega) hKn.2.1 (h := b + S.1.length) hz fun H1 kC hkC e1 z1 o1 => ?_
  refine W.widen (k := S.1.length + 1 - n0) (n := sO S + nF c - m0) (by omega) (by rw [hqn]; omega) (w H1 (HR_new h1 (by rw [z1, hz]) (fun x hx => o1 x (by rw [← hz]; exact hx)) ⟨fun _ => ?_, fun g => ?_⟩) (fun x hx => (o1 x (by omega)).trans (h2 x hx)))
  · rw [kO_new]
    have hB := u_born ty0 hts hin hKn hkC e1 hty
    rw [hqn] at hB
    refine hB.to (fun j hj => ?_)
    rw [hdf j (by rw [hqn]; exact hj)]
    by_cases t0 : fty c j = 0
    · simp [fV, t0, nM]
    · by_cases t1 : fty c j = 1
      · simp [fV, t1, nM]
      · simp [fV, t0, t1, nS, va_rf]
  · rw [kO_new] at g
    omega
/-- a row of ints, longs or booleans -/
theorem ws_newa (cx : CX X l D b cc nL own nm fr lo mc ms) (hL : LX X lim mc ms) {c : Nat} {a : ArrayType} {n : Int32} (ha : newarray.typeOf a = aTy c ∧ (c = 11 ∨ c = 12 ∨ c = 13)) (hw : Cond.arrayClass (newarray.typeOf a) ∈ lw_good) (hn : ¬ n < 0) (hby : n.toNatClampNeg * componentBytes (newarray.typeOf a) ≤ 536870912) (hr : S.1.length + 1 ≤ lim.1 ∧ sO S + n.toNatClampNeg ≤ lim.2) (d : decode cc pc = .ok (.newarray a, 2)) (kk : WS X b nL (nS S c n.toNatClampNeg) (nM S me) (pc + 2) lv (.ref (b + S.1.length) :: st)) : WS X b nL S me pc lv (.int n :: st) := by
  obtain ⟨p, l', e, R, s, m, args, below, meth, cd, D', Q, n0, m0⟩ := X
  obtain ⟨rfl, rfl, hx, hb, hml, hown, hts, hKD, hbs, ⟨r1, r2, r3, r4⟩, hnm, hlk⟩ := cx
  obtain ⟨f1, f2⟩ := hL
  intro H locs ls h1 h2 h3 h4 h5
  have hz := h1.1
  have w := fun H1 g1 g2 => kk H1 locs ls g1 g2 h3 (by rw [len_new, sO_new]; omega) h5
  rw [len_new, sO_new] at w
  refine va_newaK hx hb (hts _ hw) (g := F0 m pc ls (.int n :: st)) rfl d rfl hn rfl hby (by omega) (by omega) (h := b + S.1.length) hz fun H1 cA e1 z1 o1 hAr hNm => ?_
  refine W.widen (k := S.1.length + 1 - n0) (n := sO S + n.toNatClampNeg - m0) (by omega) (by omega) (w H1 (HR_new h1 (by rw [z1, hz]) (fun x hx => o1 x (by rw [← hz]; exact hx)) ⟨fun g => ?_, fun _ => ?_⟩) (fun x hx => (o1 x (by omega)).trans (h2 x hx)))
  · rw [kO_new] at g
    omega
  · rw [kO_new, lO_new]
    obtain ⟨ha1, ha2⟩ := ha
    rw [ha1] at hAr hNm e1
    refine ⟨cA, ⟨hAr, ?_⟩, ?_⟩
    · rcases ha2 with rfl | rfl | rfl <;> exact hNm
    · rw [e1]
      congr 2
      funext j
      rcases ha2 with rfl | rfl | rfl <;> simp [aV, aTy, nM, defaultValue]
theorem ws_anew (cx : CX X l D b cc nL own nm fr lo mc ms) (hL : LX X lim mc ms) {index : Nat} {n : Int32} (hw : Cond.arrayOver (.object "StrokeSeek$Log") ∈ lw_nw) (hcl : Cond.classLink own index "StrokeSeek$Log" ∈ lw_good) (hn : ¬ n < 0) (hby : n.toNatClampNeg * 4 ≤ 536870912) (hr : S.1.length + 1 ≤ lim.1 ∧ sO S + n.toNatClampNeg ≤ lim.2) (d : decode cc pc = .ok (.anewarray index, 3)) (kk : WS X b nL (nS S 14 n.toNatClampNeg) (nM S me) (pc + 3) lv (.ref (b + S.1.length) :: st)) : WS X b nL S me pc lv (.int n :: st) := by
  obtain ⟨p, l', e, R, s, m, args, below, meth, cd, D', Q, n0, m0⟩ := X
  obtain ⟨rfl, rfl, hx, hb, hml, hown, hts, hKD, hbs, ⟨r1, r2, r3, r4⟩, hnm, hlk⟩ := cx
  obtain ⟨f1, f2⟩ := hL
  intro H locs ls h1 h2 h3 h4 h5
  have hz := h1.1
  have w := fun H1 g1 g2 => kk H1 locs ls g1 g2 h3 (by rw [len_new, sO_new]; omega) h5
  rw [len_new, sO_new] at w
  refine W.anew hx hb hown (hts _ hcl) (hKD.2 _ hw) (g := F0 m pc ls (.int n :: st)) rfl d rfl hn hby (by omega) (by omega) fun cA kA comp k1 k2 k3 k4 => ?_
  rw [hz]
  have o1 : ∀ x : Nat, x < H.size → (H.push ({ cls := cA, slots := Array.replicate n.toNatClampNeg .null, vm := .none } : Cell))[x]? = H[x]? := fun x hx => by rw [Array.getElem?_push, if_neg (Nat.ne_of_lt hx)]
  refine W.widen (k := S.1.length + 1 - n0) (n := sO S + n.toNatClampNeg - m0) (by omega) (by omega) (w _ (HR_new h1 (by simp) o1 ⟨fun g => ?_, fun _ => ?_⟩) (fun x hx => (o1 x (by omega)).trans (h2 x hx)))
  · rw [kO_new] at g
    omega
  · rw [kO_new, lO_new]
    refine ⟨cA, ⟨fun n z => ⟨fun k h => (by cases h), kA, k2, comp, k3⟩, kA, comp, k2, k3, k4, k1⟩, ?_⟩
    rw [← hz, arrV_new]
    simp only [Array.getElem?_push_size]
    congr 2
    funext j
    simp [aV, nS, va_rf]
theorem ws_objInit (cx : CX X l D b cc nL own nm fr lo mc ms) {index r : Nat} (hw1 : Cond.methodLink own index Lib.objectInit ∈ lw_good) (hw2 : Cond.instanceMethod Lib.objectInit ∈ lw_good) (hw3 : Cond.code Lib.objectInit ⟨#[0xb1]⟩ 1 none ∈ lw_good) (hR : 1 ≤ fr ∧ (st.map fun v => v.category).sum + 12 ≤ lo) (d : decode cc pc = .ok (.invokespecial index, 3)) (kk : WS X b nL S me (pc + 3) lv st) : WS X b nL S me pc lv (.ref (b + r) :: st) := by
  obtain ⟨p, l', e, R, s, m, args, below, meth, cd, D', Q, n0, m0⟩ := X
  obtain ⟨rfl, rfl, hx, hb, hml, hown, hts, hKD, hbs, ⟨r1, r2, r3, r4⟩, hnm, hlk⟩ := cx
  intro H locs ls h1 h2 h3 h4 h5
  exact W.objInit hx hb hown (hts _ hw1) (hts _ hw2) (hts _ hw3) (g := F0 m pc ls (.ref (b + r) :: st)) rfl (by rw [hml]; exact h5.1) rfl d (by omega) (by show 2 * 0 + _ + 12 ≤ _; omega) (kk H locs ls h1 h2 h3 h4 h5)
theorem ws_copy (cx : CX X l D b cc nL own nm fr lo mc ms) {index r0 r1 : Nat} {sp dp n : Int32} (hw1 : Cond.methodLink own index arraycopyName ∈ lw_good) (hw2 : Cond.native arraycopyName ∈ lw_good) (hw3 : Cond.static arraycopyName ∈ lw_good) (hw4 : Cond.initialized "java/lang/System" ∈ lw_good) (hv : cpI S me r0 sp r1 dp n = some me1) (hR : 1 ≤ fr ∧ (st.map fun v => v.category).sum + (nativeFrameWords "java/lang/System" "arraycopy" 5 + 11) ≤ lo) (d : decode cc pc = .ok (.invokestatic index, 3)) (kk : WS X b nL S me1 (pc + 3) lv st) : WS X b nL S me pc lv (.int n :: .int dp :: .ref (b + r1) :: .int sp :: .ref (b + r0) :: st) := by
  obtain ⟨p, l', e, R, s, m, args, below, meth, cd, D', Q, n0, m0⟩ := X
  obtain ⟨rfl, rfl, hx, hb, hml, hown, hts, hKD, hbs, ⟨q1, q2, q3, q4⟩, hnm, hlk⟩ := cx
  intro H locs ls h1 h2 h3 h4 h5
  obtain ⟨⟨⟨g0, g1⟩, ⟨p1, p2, p3⟩, p4, p5⟩, rfl⟩ := ite_s hv rfl
  obtain ⟨c0, ⟨hA0, -⟩, hc0⟩ := (h1.2 r0 (kO_lt g0 (by omega))).2 (by omega)
  obtain ⟨c1, ⟨hA1, hB1⟩, hc1⟩ := (h1.2 r1 (kO_lt g1 (by omega))).2 (by omega)
  rw [g0] at hA0 hc0
  rw [g1] at hA1 hB1 hc1
  have nn : ∀ z : Int32, ¬ z < 0 → z.toInt = (z.toNatClampNeg : Int) := by
    intro z hz
    have hz0 : (0 : Int) ≤ z.toInt := by
      have := Int32.not_lt.mp hz
      simpa using Int32.le_iff_toInt_le.mp this
    show z.toInt = ((z.toInt.toNat : Nat) : Int)
    omega
  intro T hT Xs
  obtain ⟨-, k0, hk0, cm0, hkk0⟩ := hA0 (lO S r0) (aV b S me 11 r0)
  obtain ⟨-, k1, hk1, cm1, hkk1⟩ := hA1 (lO S r1) (aV b S me 11 r1)
  obtain ⟨vm', X', step⟩ := Xs.arraycopy hx hown (hts _ hw1) (hts _ hw2) (hts _ hw3) (hts _ hw4) (src := b + r0) (dst := b + r1) (cs := arrV c0 (lO S r0) (aV b S me 11 r0)) (cd := arrV c1 (lO S r1) (aV b S me 11 r1)) (srcPos := sp) (destPos := dp) (n := n) (by rw [hT]; exact hc0) (by rw [hT]; exact hc1)
    (fun _ h => by cases h) (fun _ h => by cases h) (fun h => by cases h) (fun h => by cases h) hk0 hk1 hkk0 hkk1 (by rfl) p1 p2 p3
    (by rw [nn sp p1, nn n p3, arrV_size]; omega)
    (by rw [nn dp p2, nn n p3, arrV_size]; omega)
    (fun vm₁ _ i hi => by
      have e : (arrV c0 (lO S r0) (aV b S me 11 r0)).slots.getD (sp.toNatClampNeg + i) .null = .int (me.1 r0 (sp.toNatClampNeg + i)) := by
        rw [Array.getD_eq_getD_getElem?, arrV_read _ _ (by omega)]
        simp [aV]
      refine ⟨?_, ?_⟩
      · rw [e]; rfl
      · rw [e]; exact trivial)
    (g := F0 m pc ls (.int n :: .int dp :: .ref (b + r1) :: .int sp :: .ref (b + r0) :: st)) rfl (by rw [hml]; exact h5.1) (rest := st) rfl (by rw [hb]; exact d) (by omega) (by show 2 * 0 + _ + _ ≤ _; omega)
  have e1 : copied (arrV c0 (lO S r0) (aV b S me 11 r0)) (arrV c1 (lO S r1) (aV b S me 11 r1)) sp dp n = arrV c1 (lO S r1) (fun j => .int (va_cpy (me.1 r0) (me.1 r1) sp.toNatClampNeg dp.toNatClampNeg n.toNatClampNeg j)) := by
    have e0 : ∀ r, aV b S me 11 r = fun j => Value.int (me.1 r j) := fun r => by funext j; simp [aV]
    rw [e0, e0]
    exact va_copied (fun z => .int z) c0 c1 (me.1 r0) (me.1 r1) p4
  rw [e1] at X' step
  have hl : b + r1 < H.size := (Array.getElem?_eq_some_iff.mp hc1).1
  have oq : ∀ (q : Nat) (z : Cell), q ≠ b + r1 → (H.setIfInBounds (b + r1) z)[q]? = H[q]? := fun q z hq => by simp [Array.getElem?_setIfInBounds, Ne.symm hq]
  have w := kk (H.setIfInBounds (b + r1) (arrV c1 (lO S r1) (fun j => .int (va_cpy (me.1 r0) (me.1 r1) sp.toNatClampNeg dp.toNatClampNeg n.toNatClampNeg j)))) (locs ++ (((arrV c0 (lO S r0) (aV b S me 11 r0)).stretch sp.toNatClampNeg n.toNatClampNeg).zipIdx).map (fun (q : Value × Nat) => ⟨b + r1, dp.toNatClampNeg + q.2⟩)) ls (HR_put h1 (by simp) (fun q hq => oq q _ hq) (fun a ha => by simp [va_up, ha]) (fun a ha => rfl) (fun _ => ⟨fun q => absurd q (by omega), fun _ => ?_⟩)) (fun q hq => (oq q _ (Nat.ne_of_lt (Nat.lt_of_lt_of_le hq (Nat.le_add_right b r1)))).trans (h2 q hq)) (fun q hq => ?_) h4 h5
  · have hheap : ((T.setVm vm').setCell (b + r1) (arrV c1 (lO S r1) (fun j => .int (va_cpy (me.1 r0) (me.1 r1) sp.toNatClampNeg dp.toNatClampNeg n.toNatClampNeg j)))).heap = H.setIfInBounds (b + r1) (arrV c1 (lO S r1) (fun j => .int (va_cpy (me.1 r0) (me.1 r1) sp.toNatClampNeg dp.toNatClampNeg n.toNatClampNeg j))) := by rw [← hT]; rfl
    obtain ⟨t, a1, b1⟩ := w _ hheap X'
    exact ⟨t, step t a1, b1⟩
  · rw [g1]
    refine ⟨c1, ⟨hA1, hB1⟩, ?_⟩
    rw [Array.getElem?_setIfInBounds, if_pos rfl, if_pos hl]
    congr 2
    funext j
    simp [aV, va_up]
  · rcases List.mem_append.mp hq with h | h
    · exact h3 q h
    · obtain ⟨z, -, hz⟩ := List.mem_map.mp h
      rw [← hz]
      exact Nat.le_add_right b r1
end WROWS5
end
section
theorem tw {w : Cond} (i : Nat) (h : lw_tbl[i]? = some w) (hg : goodWord w = true) : w ∈ lw_good := List.mem_filter.mpr ⟨List.mem_of_getElem? h, hg⟩
theorem tn {w : Cond} (i : Nat) (h : lw_tbl[i]? = some w) (hg : lw_isNw w = true) : w ∈ lw_nw := List.mem_filter.mpr ⟨List.mem_of_getElem? h, hg⟩
theorem inGood (ws : List Cond) (ps : List Nat) (hp : ws = ps.filterMap (fun i => lw_tbl[i]?)) (h : ws.all goodWord = true) : ∀ w ∈ ws, w ∈ lw_good := by
  intro w hw
  have h1 := List.all_eq_true.mp h w hw
  rw [hp] at hw
  obtain ⟨i, -, hi⟩ := List.mem_filterMap.mp hw
  exact tw i hi h1
/-- a loop, at most n times round -/
def lpn {σ ρ : Type} (f : (σ → Option ρ) → σ → Option ρ) : Nat → σ → Option ρ
  | 0, _ => none
  | n + 1, s => f (lpn f n) s
def lpF : Nat := 5000
def ck (S : SH) (c r : Nat) : Option Unit := if kO S r = c then some () else none
theorem ck_k {S : SH} {c r : Nat} {u : Unit} (h : ck S c r = some u) : kO S r = c := (ite_o h).1
theorem if_n {α : Type} {c : Prop} [Decidable c] {b : Option α} {r : α} (h : (if c then none else b) = some r) : ¬ c ∧ b = some r := by
  by_cases hc : c
  · rw [if_pos hc] at h
    cases h
  · rw [if_neg hc] at h
    exact ⟨hc, h⟩
def nwO (lim : Nat × Nat) (S : SH) (me : ME) (c n : Nat) : Option (SH × ME) := if S.1.length + 1 ≤ lim.1 ∧ sO S + n ≤ lim.2 then some (nS S c n, nM S me) else none
def nwA (lim : Nat × Nat) (S : SH) (me : ME) (c : Nat) (n : Int32) : Option (SH × ME) := if (¬ n < 0 ∧ n.toNatClampNeg ≤ 60000000) ∧ S.1.length + 1 ≤ lim.1 ∧ sO S + n.toNatClampNeg ≤ lim.2 then some (nS S c n.toNatClampNeg, nM S me) else none
/-- new long[n][k] -/
def gS (S : SH) (n k : Nat) : SH := (S.1 ++ ((15, n) :: List.replicate n (12, k)), fun a => if a = S.1.length then (fun i => if i < n then some (S.1.length + 1 + i) else none) else if S.1.length ≤ a then (fun _ => none) else S.2 a)
def gM (S : SH) (me : ME) : ME := (fun a => if S.1.length ≤ a then (fun _ => 0) else me.1 a, fun a => if S.1.length ≤ a then (fun _ => 0) else me.2 a)
def nwG (lim : Nat × Nat) (S : SH) (me : ME) (n k : Int32) : Option (SH × ME) := if ((¬ n < 0 ∧ n.toNatClampNeg ≤ 60000000) ∧ ¬ k < 0 ∧ k.toNatClampNeg ≤ 60000000) ∧ S.1.length + (1 + n.toNatClampNeg) ≤ lim.1 ∧ sO S + (n.toNatClampNeg + n.toNatClampNeg * k.toNatClampNeg) ≤ lim.2 then some (gS S n.toNatClampNeg k.toNatClampNeg, gM S me) else none
def ckC (lim : Nat × Nat) (S S1 : SH) (mz sz : Nat) : Option Unit := if (S1.1.length = S.1.length + mz ∧ sO S1 = sO S + sz) ∧ S.1.length + mz ≤ lim.1 ∧ sO S + sz ≤ lim.2 then some () else none
section WROWS6
variable {X : XT} {l : Launch} {D : va_G} {b : Nat} {cc : ByteArray} {nL : Nat} {own nm : String} {fr lo mc ms : Nat} {S S1 : SH} {me me1 : ME} {pc : Nat} {lv lv' : List (Nat × Value)} {st : List Value} {lim : Nat × Nat}
theorem ws_iretM (cx : CX X l D b cc nL own nm fr lo mc ms) {v : Int32} {q : Int32 × ME} (ex : EX X b (some .int) S q.2 (some (.int q.1))) (hM : some (v, me) = some q) (d : decode cc pc = .ok (.ireturn, 1)) : WS X b nL S me pc lv [.int v] := by
  obtain rfl := Option.some.inj hM
  exact ws_iret cx ex rfl rfl rfl d
theorem ws_zretM (cx : CX X l D b cc nL own nm fr lo mc ms) {v : Int32} {q : Int32 × ME} (ex : EX X b (some .boolean) S q.2 (some (.int q.1))) (h : v = 0 ∨ v = 1) (hM : some (v, me) = some q) (d : decode cc pc = .ok (.ireturn, 1)) : WS X b nL S me pc lv [.int v] := by
  obtain rfl := Option.some.inj hM
  exact ws_zret cx ex h rfl rfl rfl d
theorem ws_lretM (cx : CX X l D b cc nL own nm fr lo mc ms) {v : Int64} {q : Int64 × ME} (ex : EX X b (some .long) S q.2 (some (.long q.1))) (hM : some (v, me) = some q) (d : decode cc pc = .ok (.lreturn, 1)) : WS X b nL S me pc lv [.long v] := by
  obtain rfl := Option.some.inj hM
  exact ws_lret cx ex rfl rfl rfl d
theorem ws_vretM (cx : CX X l D b cc nL own nm fr lo mc ms) {q : Unit × ME} (ex : EX X b none S q.2 none) (hM : some ((), me) = some q) (d : decode cc pc = .ok (.return_, 1)) : WS X b nL S me pc lv [] := by
  obtain rfl := Option.some.inj hM
  exact ws_vret cx ex rfl rfl rfl d
theorem ws_vretC (cx : CX X l D b cc nL own nm fr lo mc ms) {q : SH × ME} (ex : EX X b none q.1 q.2 none) (hM : some (S, me) = some q) (d : decode cc pc = .ok (.return_, 1)) : WS X b nL S me pc lv [] := by
  obtain rfl := Option.some.inj hM
  exact ws_vret cx ex rfl rfl rfl d
theorem ws_newM (cx : CX X l D b cc nL own nm fr lo mc ms) (hL : LX X lim mc ms) {index c n : Nat} {q : SH × ME} (hN : NC own index c) (hn : nF c = n) (h : nwO lim S me c n = some q) (d : decode cc pc = .ok (.new index, 3)) (kk : WS X b nL q.1 q.2 (pc + 3) lv (.ref (b + S.1.length) :: st)) : WS X b nL S me pc lv st := by
  obtain ⟨h1, rfl⟩ := ite_s h rfl
  subst hn
  exact ws_new cx hL hN h1 d kk
theorem ws_newaM (cx : CX X l D b cc nL own nm fr lo mc ms) (hL : LX X lim mc ms) {c : Nat} {a : ArrayType} {n : Int32} {q : SH × ME} (ha : newarray.typeOf a = aTy c ∧ (c = 11 ∨ c = 12 ∨ c = 13)) (hw : Cond.arrayClass (newarray.typeOf a) ∈ lw_good) (h : nwA lim S me c n = some q) (d : decode cc pc = .ok (.newarray a, 2)) (kk : WS X b nL q.1 q.2 (pc + 2) lv (.ref (b + S.1.length) :: st)) : WS X b nL S me pc lv (.int n :: st) := by
  obtain ⟨h1, rfl⟩ := ite_s h rfl
  refine ws_newa cx hL ha hw h1.1.1 ?_ h1.2 d kk
  have h8 : componentBytes (newarray.typeOf a) ≤ 8 := by
    rw [ha.1]
    rcases ha.2 with rfl | rfl | rfl <;> decide
  have := Nat.mul_le_mul h1.1.2 h8
  omega
theorem ws_anewM (cx : CX X l D b cc nL own nm fr lo mc ms) (hL : LX X lim mc ms) {index : Nat} {n : Int32} {q : SH × ME} (hw : Cond.arrayOver (.object "StrokeSeek$Log") ∈ lw_nw) (hcl : Cond.classLink own index "StrokeSeek$Log" ∈ lw_good) (h : nwA lim S me 14 n = some q) (d : decode cc pc = .ok (.anewarray index, 3)) (kk : WS X b nL q.1 q.2 (pc + 3) lv (.ref (b + S.1.length) :: st)) : WS X b nL S me pc lv (.int n :: st) := by
  obtain ⟨h1, rfl⟩ := ite_s h rfl
  exact ws_anew cx hL hw hcl h1.1.1 (by have := h1.1.2; omega) h1.2 d kk
theorem ckC_s {u : Unit} {mz sz : Nat} (h : ckC lim S S1 mz sz = some u) : (S1.1.length = S.1.length + mz ∧ sO S1 = sO S + sz) ∧ S.1.length + mz ≤ lim.1 ∧ sO S + sz ≤ lim.2 := (ite_o h).1
theorem ws_mnaM (cx : CX X l D b cc nL own nm fr lo mc ms) (hL : LX X lim mc ms) {index : Nat} {n k : Int32} {q : SH × ME} (hw : Cond.arrayOver (.array .long) ∈ lw_nw) (ha : Cond.arrayClass .long ∈ lw_good) (hcl : Cond.classLink own index "[[J" ∈ lw_good) (h : nwG lim S me n k = some q) (d : decode cc pc = .ok (.multianewarray index 2, 4)) (kk : WS X b nL q.1 q.2 (pc + 4) lv (.ref (b + S.1.length) :: st)) : WS X b nL S me pc lv (.int k :: .int n :: st) := sorry
end WROWS6
end
section
theorem inG0 : ∀ w ∈ u_ws RX0 TX0 6, w ∈ lw_good := inGood _ [319, 321, 323, 325, 327, 329] (by decide +kernel) (by decide +kernel)
theorem inG1 : ∀ w ∈ u_ws RX1 TX1 4, w ∈ lw_good := inGood _ [253, 255, 257, 259] (by decide +kernel) (by decide +kernel)
theorem inG2 : ∀ w ∈ u_ws RX2 TX2 4, w ∈ lw_good := inGood _ [146, 148, 150, 152] (by decide +kernel) (by decide +kernel)
theorem inG3 : ∀ w ∈ u_ws RX3 TX3 7, w ∈ lw_good := inGood _ [165, 167, 169, 171, 173, 175, 177] (by decide +kernel) (by decide +kernel)
theorem inG4 : ∀ w ∈ u_ws RX4 TX4 3, w ∈ lw_good := inGood _ [197, 199, 201] (by decide +kernel) (by decide +kernel)
theorem inG5 : ∀ w ∈ u_ws RX5 TX5 5, w ∈ lw_good := inGood _ [228, 230, 232, 234, 236] (by decide +kernel) (by decide +kernel)
theorem inG6 : ∀ w ∈ u_ws RX6 TX6 3, w ∈ lw_good := inGood _ [119, 121, 123] (by decide +kernel) (by decide +kernel)
theorem inG7 : ∀ w ∈ u_ws RX7 TX7 8, w ∈ lw_good := inGood _ [285, 287, 289, 291, 293, 295, 297, 299] (by decide +kernel) (by decide +kernel)
theorem inG8 : ∀ w ∈ u_ws RX8 TX8 2, w ∈ lw_good := inGood _ [92, 94] (by decide +kernel) (by decide +kernel)
theorem inG9 : ∀ w ∈ u_ws RX9 TX9 11, w ∈ lw_good := inGood _ [343, 345, 347, 349, 351, 353, 355, 357, 359, 361, 363] (by decide +kernel) (by decide +kernel)
theorem inG10 : ∀ w ∈ u_ws RX10 TX10 31, w ∈ lw_good := inGood _ [724, 726, 728, 730, 732, 734, 736, 738, 740, 742, 744, 746, 748, 750, 752, 754, 756, 758, 760, 762, 764, 766, 768, 770, 772, 774, 776, 778, 780, 782, 784] (by decide +kernel) (by decide +kernel)
theorem lkX8_3 : Cond.methodLink RX8 3 Lib.objectInit ∈ lw_good := (tw 86 (by decide +kernel) (by decide +kernel))
theorem wOI : Cond.instanceMethod Lib.objectInit ∈ lw_good := (tw 79 (by decide +kernel) (by decide +kernel))
theorem wOC : Cond.code Lib.objectInit ⟨#[0xb1]⟩ 1 none ∈ lw_good := (tw 80 (by decide +kernel) (by decide +kernel))
theorem wAint : Cond.arrayClass .int ∈ lw_good := (tw 97 (by decide +kernel) (by decide +kernel))
theorem ffX8_9 : FF RX8 9 8 0 2 true := ⟨by decide, rfl, (RX8, TX8, 2), rfl, rfl, inG8, by decide, (tw 87 (by decide +kernel) (by decide +kernel)), rfl, rfl, nmX8, tyX8, tyX8_ok, fun h => absurd h (by decide), fun h => absurd h (by decide), fun _ => rfl⟩
theorem lkX6_3 : Cond.methodLink RX6 3 Lib.objectInit ∈ lw_good := (tw 109 (by decide +kernel) (by decide +kernel))
theorem ffX6_9 : FF RX6 9 6 0 2 true := ⟨by decide, rfl, (RX6, TX6, 3), rfl, rfl, inG6, by decide, (tw 110 (by decide +kernel) (by decide +kernel)), rfl, rfl, nmX6, tyX6, tyX6_ok, fun h => absurd h (by decide), fun h => absurd h (by decide), fun _ => rfl⟩
theorem ffX6_15 : FF RX6 15 6 1 2 true := ⟨by decide, rfl, (RX6, TX6, 3), rfl, rfl, inG6, by decide, (tw 113 (by decide +kernel) (by decide +kernel)), rfl, rfl, nmX6, tyX6, tyX6_ok, fun h => absurd h (by decide), fun h => absurd h (by decide), fun _ => rfl⟩
theorem lkX2_3 : Cond.methodLink RX2 3 Lib.objectInit ∈ lw_good := (tw 131 (by decide +kernel) (by decide +kernel))
theorem ffX2_9 : FF RX2 9 2 0 2 true := ⟨by decide, rfl, (RX2, TX2, 4), rfl, rfl, inG2, by decide, (tw 132 (by decide +kernel) (by decide +kernel)), rfl, rfl, nmX2, tyX2, tyX2_ok, fun h => absurd h (by decide), fun h => absurd h (by decide), fun _ => rfl⟩
theorem ffX2_15 : FF RX2 15 2 1 2 true := ⟨by decide, rfl, (RX2, TX2, 4), rfl, rfl, inG2, by decide, (tw 135 (by decide +kernel) (by decide +kernel)), rfl, rfl, nmX2, tyX2, tyX2_ok, fun h => absurd h (by decide), fun h => absurd h (by decide), fun _ => rfl⟩
theorem ffX2_18 : FF RX2 18 2 2 2 true := ⟨by decide, rfl, (RX2, TX2, 4), rfl, rfl, inG2, by decide, (tw 138 (by decide +kernel) (by decide +kernel)), rfl, rfl, nmX2, tyX2, tyX2_ok, fun h => absurd h (by decide), fun h => absurd h (by decide), fun _ => rfl⟩
theorem lkX3_3 : Cond.methodLink RX3 3 Lib.objectInit ∈ lw_good := (tw 103 (by decide +kernel) (by decide +kernel))
theorem ncX3_9 : NC RX3 9 6 := ⟨by decide, (RX6, TX6, 3), rfl, rfl, inG6, (tw 104 (by decide +kernel) (by decide +kernel)), (tw 105 (by decide +kernel) (by decide +kernel)), (tw 62 (by decide +kernel) (by decide +kernel)), tyX6, tyX6_ok, fun j hj => match j, hj with | 0, _ => rfl | 1, _ => rfl | 2, _ => rfl | j + 3, h => absurd h (by show ¬ (j + 3 < 3); omega)⟩
theorem lnX3_11 : Cond.methodLinkNest RX3 11 yX6_init "StrokeSeek" ∈ lw_nw := tn 106 (by decide +kernel) (by decide +kernel)
theorem mvX6_init : MV true yX6_init cX6_init 1 none 0 := ⟨(tw 108 (by decide +kernel) (by decide +kernel)), (tw 62 (by decide +kernel) (by decide +kernel)), ⟨by decide, by decide⟩, by decide +kernel, ⟨fun _ => (tw 107 (by decide +kernel) (by decide +kernel)), fun h => by cases h⟩⟩
theorem ffX3_12 : FF RX3 12 3 0 2 true := ⟨by decide, rfl, (RX3, TX3, 7), rfl, rfl, inG3, by decide, (tw 155 (by decide +kernel) (by decide +kernel)), rfl, rfl, nmX3, tyX3, tyX3_ok, fun h => absurd h (by decide), fun h => absurd h (by decide), fun _ => rfl⟩
theorem ncX3_18 : NC RX3 18 2 := ⟨by decide, (RX2, TX2, 4), rfl, rfl, inG2, (tw 126 (by decide +kernel) (by decide +kernel)), (tw 127 (by decide +kernel) (by decide +kernel)), (tw 63 (by decide +kernel) (by decide +kernel)), tyX2, tyX2_ok, fun j hj => match j, hj with | 0, _ => rfl | 1, _ => rfl | 2, _ => rfl | 3, _ => rfl | j + 4, h => absurd h (by show ¬ (j + 4 < 4); omega)⟩
theorem lnX3_20 : Cond.methodLinkNest RX3 20 yX2_init "StrokeSeek" ∈ lw_nw := tn 128 (by decide +kernel) (by decide +kernel)
theorem mvX2_init : MV true yX2_init cX2_init 1 none 0 := ⟨(tw 130 (by decide +kernel) (by decide +kernel)), (tw 63 (by decide +kernel) (by decide +kernel)), ⟨by decide, by decide⟩, by decide +kernel, ⟨fun _ => (tw 129 (by decide +kernel) (by decide +kernel)), fun h => by cases h⟩⟩
theorem ffX3_21 : FF RX3 21 3 1 2 true := ⟨by decide, rfl, (RX3, TX3, 7), rfl, rfl, inG3, by decide, (tw 157 (by decide +kernel) (by decide +kernel)), rfl, rfl, nmX3, tyX3, tyX3_ok, fun h => absurd h (by decide), fun h => absurd h (by decide), fun _ => rfl⟩
theorem ffX4_11 : FF RX4 11 4 0 2 true := ⟨by decide, rfl, (RX4, TX4, 3), rfl, rfl, inG4, by decide, (tw 193 (by decide +kernel) (by decide +kernel)), rfl, rfl, nmX4, tyX4, tyX4_ok, fun h => absurd h (by decide), fun h => absurd h (by decide), fun _ => rfl⟩
theorem ncX4_9 : NC RX4 9 2 := ⟨by decide, (RX2, TX2, 4), rfl, rfl, inG2, (tw 190 (by decide +kernel) (by decide +kernel)), (tw 127 (by decide +kernel) (by decide +kernel)), (tw 63 (by decide +kernel) (by decide +kernel)), tyX2, tyX2_ok, fun j hj => match j, hj with | 0, _ => rfl | 1, _ => rfl | 2, _ => rfl | 3, _ => rfl | j + 4, h => absurd h (by show ¬ (j + 4 < 4); omega)⟩
theorem lnX4_17 : Cond.methodLinkNest RX4 17 yX2_init "StrokeSeek" ∈ lw_nw := tn 192 (by decide +kernel) (by decide +kernel)
theorem lkX4_3 : Cond.methodLink RX4 3 Lib.objectInit ∈ lw_good := (tw 189 (by decide +kernel) (by decide +kernel))
theorem wOLog : Cond.arrayOver (.object "StrokeSeek$Log") ∈ lw_nw := tn 191 (by decide +kernel) (by decide +kernel)
theorem clX4_9 : Cond.classLink RX4 9 "StrokeSeek$Log" ∈ lw_good := (tw 190 (by decide +kernel) (by decide +kernel))
theorem lkX5_3 : Cond.methodLink RX5 3 Lib.objectInit ∈ lw_good := (tw 209 (by decide +kernel) (by decide +kernel))
theorem ffX5_9 : FF RX5 9 5 0 2 true := ⟨by decide, rfl, (RX5, TX5, 5), rfl, rfl, inG5, by decide, (tw 210 (by decide +kernel) (by decide +kernel)), rfl, rfl, nmX5, tyX5, tyX5_ok, fun h => absurd h (by decide), fun h => absurd h (by decide), fun _ => rfl⟩
theorem ffX5_15 : FF RX5 15 5 1 2 true := ⟨by decide, rfl, (RX5, TX5, 5), rfl, rfl, inG5, by decide, (tw 212 (by decide +kernel) (by decide +kernel)), rfl, rfl, nmX5, tyX5, tyX5_ok, fun h => absurd h (by decide), fun h => absurd h (by decide), fun _ => rfl⟩
theorem ffX5_18 : FF RX5 18 5 2 2 true := ⟨by decide, rfl, (RX5, TX5, 5), rfl, rfl, inG5, by decide, (tw 216 (by decide +kernel) (by decide +kernel)), rfl, rfl, nmX5, tyX5, tyX5_ok, fun h => absurd h (by decide), fun h => absurd h (by decide), fun _ => rfl⟩
theorem ffX5_21 : FF RX5 21 5 3 2 true := ⟨by decide, rfl, (RX5, TX5, 5), rfl, rfl, inG5, by decide, (tw 220 (by decide +kernel) (by decide +kernel)), rfl, rfl, nmX5, tyX5, tyX5_ok, fun h => absurd h (by decide), fun h => absurd h (by decide), fun _ => rfl⟩
theorem lkX1_3 : Cond.methodLink RX1 3 Lib.objectInit ∈ lw_good := (tw 245 (by decide +kernel) (by decide +kernel))
theorem ffX1_9 : FF RX1 9 1 0 2 true := ⟨by decide, rfl, (RX1, TX1, 4), rfl, rfl, inG1, by decide, (tw 246 (by decide +kernel) (by decide +kernel)), rfl, rfl, nmX1, tyX1, tyX1_ok, fun h => absurd h (by decide), fun h => absurd h (by decide), fun _ => rfl⟩
theorem ffX1_15 : FF RX1 15 1 1 2 true := ⟨by decide, rfl, (RX1, TX1, 4), rfl, rfl, inG1, by decide, (tw 248 (by decide +kernel) (by decide +kernel)), rfl, rfl, nmX1, tyX1, tyX1_ok, fun h => absurd h (by decide), fun h => absurd h (by decide), fun _ => rfl⟩
theorem ffX1_18 : FF RX1 18 1 3 2 true := ⟨by decide, rfl, (RX1, TX1, 4), rfl, rfl, inG1, by decide, (tw 252 (by decide +kernel) (by decide +kernel)), rfl, rfl, nmX1, tyX1, tyX1_ok, fun h => absurd h (by decide), fun h => absurd h (by decide), fun _ => rfl⟩
theorem lkX7_3 : Cond.methodLink RX7 3 Lib.objectInit ∈ lw_good := (tw 267 (by decide +kernel) (by decide +kernel))
theorem wOArr : Cond.arrayOver (.array .long) ∈ lw_nw := tn 269 (by decide +kernel) (by decide +kernel)
theorem wAlong : Cond.arrayClass .long ∈ lw_good := (tw 302 (by decide +kernel) (by decide +kernel))
theorem clX7_11 : Cond.classLink RX7 11 "[[J" ∈ lw_good := (tw 268 (by decide +kernel) (by decide +kernel))
theorem ffX7_13 : FF RX7 13 7 1 2 true := ⟨by decide, rfl, (RX7, TX7, 8), rfl, rfl, inG7, by decide, (tw 271 (by decide +kernel) (by decide +kernel)), rfl, rfl, nmX7, tyX7, tyX7_ok, fun h => absurd h (by decide), fun h => absurd h (by decide), fun _ => rfl⟩
theorem ffX7_16 : FF RX7 16 7 0 2 true := ⟨by decide, rfl, (RX7, TX7, 8), rfl, rfl, inG7, by decide, (tw 270 (by decide +kernel) (by decide +kernel)), rfl, rfl, nmX7, tyX7, tyX7_ok, fun h => absurd h (by decide), fun h => absurd h (by decide), fun _ => rfl⟩
theorem lkX0_3 : Cond.methodLink RX0 3 Lib.objectInit ∈ lw_good := (tw 308 (by decide +kernel) (by decide +kernel))
theorem ffX0_9 : FF RX0 9 0 0 2 true := ⟨by decide, rfl, (RX0, TX0, 6), rfl, rfl, inG0, by decide, (tw 309 (by decide +kernel) (by decide +kernel)), rfl, rfl, nmX0, tyX0, tyX0_ok, fun h => absurd h (by decide), fun h => absurd h (by decide), fun _ => rfl⟩
theorem ffX0_15 : FF RX0 15 0 1 2 true := ⟨by decide, rfl, (RX0, TX0, 6), rfl, rfl, inG0, by decide, (tw 310 (by decide +kernel) (by decide +kernel)), rfl, rfl, nmX0, tyX0, tyX0_ok, fun h => absurd h (by decide), fun h => absurd h (by decide), fun _ => rfl⟩
theorem ffX9_44 : FF RX9 44 9 5 2 true := ⟨by decide, rfl, (RX9, TX9, 11), rfl, rfl, inG9, by decide, (tw 337 (by decide +kernel) (by decide +kernel)), rfl, rfl, nmX9, tyX9, tyX9_ok, fun h => absurd h (by decide), fun h => absurd h (by decide), fun _ => rfl⟩
theorem ncX9_30 : NC RX9 30 2 := ⟨by decide, (RX2, TX2, 4), rfl, rfl, inG2, (tw 182 (by decide +kernel) (by decide +kernel)), (tw 127 (by decide +kernel) (by decide +kernel)), (tw 63 (by decide +kernel) (by decide +kernel)), tyX2, tyX2_ok, fun j hj => match j, hj with | 0, _ => rfl | 1, _ => rfl | 2, _ => rfl | 3, _ => rfl | j + 4, h => absurd h (by show ¬ (j + 4 < 4); omega)⟩
theorem lnX9_32 : Cond.methodLinkNest RX9 32 yX2_init "StrokeSeek" ∈ lw_nw := tn 183 (by decide +kernel) (by decide +kernel)
theorem lkX9_3 : Cond.methodLink RX9 3 Lib.objectInit ∈ lw_good := (tw 78 (by decide +kernel) (by decide +kernel))
theorem ncX9_9 : NC RX9 9 8 := ⟨by decide, (RX8, TX8, 2), rfl, rfl, inG8, (tw 81 (by decide +kernel) (by decide +kernel)), (tw 82 (by decide +kernel) (by decide +kernel)), (tw 60 (by decide +kernel) (by decide +kernel)), tyX8, tyX8_ok, fun j hj => match j, hj with | 0, _ => rfl | 1, _ => rfl | j + 2, h => absurd h (by show ¬ (j + 2 < 2); omega)⟩
theorem lnX9_11 : Cond.methodLinkNest RX9 11 yX8_init "StrokeSeek" ∈ lw_nw := tn 83 (by decide +kernel) (by decide +kernel)
theorem mvX8_init : MV true yX8_init cX8_init 1 none 0 := ⟨(tw 85 (by decide +kernel) (by decide +kernel)), (tw 60 (by decide +kernel) (by decide +kernel)), ⟨by decide, by decide⟩, by decide +kernel, ⟨fun _ => (tw 84 (by decide +kernel) (by decide +kernel)), fun h => by cases h⟩⟩
theorem ffX9_12 : FF RX9 12 9 0 2 true := ⟨by decide, rfl, (RX9, TX9, 11), rfl, rfl, inG9, by decide, (tw 332 (by decide +kernel) (by decide +kernel)), rfl, rfl, nmX9, tyX9, tyX9_ok, fun h => absurd h (by decide), fun h => absurd h (by decide), fun _ => rfl⟩
theorem ncX9_16 : NC RX9 16 3 := ⟨by decide, (RX3, TX3, 7), rfl, rfl, inG3, (tw 98 (by decide +kernel) (by decide +kernel)), (tw 99 (by decide +kernel) (by decide +kernel)), (tw 61 (by decide +kernel) (by decide +kernel)), tyX3, tyX3_ok, fun j hj => match j, hj with | 0, _ => rfl | 1, _ => rfl | 2, _ => rfl | 3, _ => rfl | 4, _ => rfl | 5, _ => rfl | 6, _ => rfl | j + 7, h => absurd h (by show ¬ (j + 7 < 7); omega)⟩
theorem lnX9_18 : Cond.methodLinkNest RX9 18 yX3_init "StrokeSeek" ∈ lw_nw := tn 100 (by decide +kernel) (by decide +kernel)
theorem mvX3_init : MV true yX3_init cX3_init 1 none 0 := ⟨(tw 102 (by decide +kernel) (by decide +kernel)), (tw 61 (by decide +kernel) (by decide +kernel)), ⟨by decide, by decide⟩, by decide +kernel, ⟨fun _ => (tw 101 (by decide +kernel) (by decide +kernel)), fun h => by cases h⟩⟩
theorem ffX9_19 : FF RX9 19 9 1 2 true := ⟨by decide, rfl, (RX9, TX9, 11), rfl, rfl, inG9, by decide, (tw 333 (by decide +kernel) (by decide +kernel)), rfl, rfl, nmX9, tyX9, tyX9_ok, fun h => absurd h (by decide), fun h => absurd h (by decide), fun _ => rfl⟩
theorem ncX9_23 : NC RX9 23 6 := ⟨by decide, (RX6, TX6, 3), rfl, rfl, inG6, (tw 180 (by decide +kernel) (by decide +kernel)), (tw 105 (by decide +kernel) (by decide +kernel)), (tw 62 (by decide +kernel) (by decide +kernel)), tyX6, tyX6_ok, fun j hj => match j, hj with | 0, _ => rfl | 1, _ => rfl | 2, _ => rfl | j + 3, h => absurd h (by show ¬ (j + 3 < 3); omega)⟩
theorem lnX9_25 : Cond.methodLinkNest RX9 25 yX6_init "StrokeSeek" ∈ lw_nw := tn 181 (by decide +kernel) (by decide +kernel)
theorem ffX9_26 : FF RX9 26 9 2 2 true := ⟨by decide, rfl, (RX9, TX9, 11), rfl, rfl, inG9, by decide, (tw 334 (by decide +kernel) (by decide +kernel)), rfl, rfl, nmX9, tyX9, tyX9_ok, fun h => absurd h (by decide), fun h => absurd h (by decide), fun _ => rfl⟩
theorem ffX9_33 : FF RX9 33 9 3 2 true := ⟨by decide, rfl, (RX9, TX9, 11), rfl, rfl, inG9, by decide, (tw 335 (by decide +kernel) (by decide +kernel)), rfl, rfl, nmX9, tyX9, tyX9_ok, fun h => absurd h (by decide), fun h => absurd h (by decide), fun _ => rfl⟩
theorem ncX9_37 : NC RX9 37 4 := ⟨by decide, (RX4, TX4, 3), rfl, rfl, inG4, (tw 184 (by decide +kernel) (by decide +kernel)), (tw 185 (by decide +kernel) (by decide +kernel)), (tw 64 (by decide +kernel) (by decide +kernel)), tyX4, tyX4_ok, fun j hj => match j, hj with | 0, _ => rfl | 1, _ => rfl | 2, _ => rfl | j + 3, h => absurd h (by show ¬ (j + 3 < 3); omega)⟩
theorem lkX9_39 : Cond.methodLink RX9 39 yX4_init ∈ lw_good := (tw 186 (by decide +kernel) (by decide +kernel))
theorem mvX4_init : MV true yX4_init cX4_init 2 none 0 := ⟨(tw 188 (by decide +kernel) (by decide +kernel)), (tw 64 (by decide +kernel) (by decide +kernel)), ⟨by decide, by decide⟩, by decide +kernel, ⟨fun _ => (tw 187 (by decide +kernel) (by decide +kernel)), fun h => by cases h⟩⟩
theorem ffX9_40 : FF RX9 40 9 4 2 true := ⟨by decide, rfl, (RX9, TX9, 11), rfl, rfl, inG9, by decide, (tw 336 (by decide +kernel) (by decide +kernel)), rfl, rfl, nmX9, tyX9, tyX9_ok, fun h => absurd h (by decide), fun h => absurd h (by decide), fun _ => rfl⟩
theorem clX9_30 : Cond.classLink RX9 30 "StrokeSeek$Log" ∈ lw_good := (tw 182 (by decide +kernel) (by decide +kernel))
theorem wAboolean : Cond.arrayClass .boolean ∈ lw_good := (tw 239 (by decide +kernel) (by decide +kernel))
theorem ffX9_48 : FF RX9 48 9 6 2 true := ⟨by decide, rfl, (RX9, TX9, 11), rfl, rfl, inG9, by decide, (tw 338 (by decide +kernel) (by decide +kernel)), rfl, rfl, nmX9, tyX9, tyX9_ok, fun h => absurd h (by decide), fun h => absurd h (by decide), fun _ => rfl⟩
theorem ncX9_52 : NC RX9 52 5 := ⟨by decide, (RX5, TX5, 5), rfl, rfl, inG5, (tw 204 (by decide +kernel) (by decide +kernel)), (tw 205 (by decide +kernel) (by decide +kernel)), (tw 65 (by decide +kernel) (by decide +kernel)), tyX5, tyX5_ok, fun j hj => match j, hj with | 0, _ => rfl | 1, _ => rfl | 2, _ => rfl | 3, _ => rfl | 4, _ => rfl | j + 5, h => absurd h (by show ¬ (j + 5 < 5); omega)⟩
theorem lnX9_54 : Cond.methodLinkNest RX9 54 yX5_init "StrokeSeek" ∈ lw_nw := tn 206 (by decide +kernel) (by decide +kernel)
theorem mvX5_init : MV true yX5_init cX5_init 1 none 0 := ⟨(tw 208 (by decide +kernel) (by decide +kernel)), (tw 65 (by decide +kernel) (by decide +kernel)), ⟨by decide, by decide⟩, by decide +kernel, ⟨fun _ => (tw 207 (by decide +kernel) (by decide +kernel)), fun h => by cases h⟩⟩
theorem ffX9_55 : FF RX9 55 9 7 2 true := ⟨by decide, rfl, (RX9, TX9, 11), rfl, rfl, inG9, by decide, (tw 339 (by decide +kernel) (by decide +kernel)), rfl, rfl, nmX9, tyX9, tyX9_ok, fun h => absurd h (by decide), fun h => absurd h (by decide), fun _ => rfl⟩
theorem ncX9_59 : NC RX9 59 1 := ⟨by decide, (RX1, TX1, 4), rfl, rfl, inG1, (tw 240 (by decide +kernel) (by decide +kernel)), (tw 241 (by decide +kernel) (by decide +kernel)), (tw 66 (by decide +kernel) (by decide +kernel)), tyX1, tyX1_ok, fun j hj => match j, hj with | 0, _ => rfl | 1, _ => rfl | 2, _ => rfl | 3, _ => rfl | j + 4, h => absurd h (by show ¬ (j + 4 < 4); omega)⟩
theorem lnX9_61 : Cond.methodLinkNest RX9 61 yX1_init "StrokeSeek" ∈ lw_nw := tn 242 (by decide +kernel) (by decide +kernel)
theorem mvX1_init : MV true yX1_init cX1_init 1 none 0 := ⟨(tw 244 (by decide +kernel) (by decide +kernel)), (tw 66 (by decide +kernel) (by decide +kernel)), ⟨by decide, by decide⟩, by decide +kernel, ⟨fun _ => (tw 243 (by decide +kernel) (by decide +kernel)), fun h => by cases h⟩⟩
theorem ffX9_62 : FF RX9 62 9 8 2 true := ⟨by decide, rfl, (RX9, TX9, 11), rfl, rfl, inG9, by decide, (tw 340 (by decide +kernel) (by decide +kernel)), rfl, rfl, nmX9, tyX9, tyX9_ok, fun h => absurd h (by decide), fun h => absurd h (by decide), fun _ => rfl⟩
theorem ncX9_66 : NC RX9 66 7 := ⟨by decide, (RX7, TX7, 8), rfl, rfl, inG7, (tw 262 (by decide +kernel) (by decide +kernel)), (tw 263 (by decide +kernel) (by decide +kernel)), (tw 67 (by decide +kernel) (by decide +kernel)), tyX7, tyX7_ok, fun j hj => match j, hj with | 0, _ => rfl | 1, _ => rfl | 2, _ => rfl | 3, _ => rfl | 4, _ => rfl | 5, _ => rfl | 6, _ => rfl | 7, _ => rfl | j + 8, h => absurd h (by show ¬ (j + 8 < 8); omega)⟩
theorem lkX9_68 : Cond.methodLink RX9 68 yX7_init ∈ lw_good := (tw 264 (by decide +kernel) (by decide +kernel))
theorem mvX7_init : MV true yX7_init cX7_init 2 none 1 := ⟨(tw 266 (by decide +kernel) (by decide +kernel)), (tw 67 (by decide +kernel) (by decide +kernel)), ⟨by decide, by decide⟩, by decide +kernel, ⟨fun _ => (tw 265 (by decide +kernel) (by decide +kernel)), fun h => by cases h⟩⟩
theorem ffX9_71 : FF RX9 71 9 9 2 true := ⟨by decide, rfl, (RX9, TX9, 11), rfl, rfl, inG9, by decide, (tw 341 (by decide +kernel) (by decide +kernel)), rfl, rfl, nmX9, tyX9, tyX9_ok, fun h => absurd h (by decide), fun h => absurd h (by decide), fun _ => rfl⟩
theorem ncX9_75 : NC RX9 75 0 := ⟨by decide, (RX0, TX0, 6), rfl, rfl, inG0, (tw 303 (by decide +kernel) (by decide +kernel)), (tw 304 (by decide +kernel) (by decide +kernel)), (tw 68 (by decide +kernel) (by decide +kernel)), tyX0, tyX0_ok, fun j hj => match j, hj with | 0, _ => rfl | 1, _ => rfl | 2, _ => rfl | 3, _ => rfl | 4, _ => rfl | 5, _ => rfl | j + 6, h => absurd h (by show ¬ (j + 6 < 6); omega)⟩
theorem lkX9_77 : Cond.methodLink RX9 77 yX0_init ∈ lw_good := (tw 305 (by decide +kernel) (by decide +kernel))
theorem mvX0_init : MV true yX0_init cX0_init 3 none 2 := ⟨(tw 307 (by decide +kernel) (by decide +kernel)), (tw 68 (by decide +kernel) (by decide +kernel)), ⟨by decide, by decide⟩, by decide +kernel, ⟨fun _ => (tw 306 (by decide +kernel) (by decide +kernel)), fun h => by cases h⟩⟩
theorem ffX9_80 : FF RX9 80 9 10 2 true := ⟨by decide, rfl, (RX9, TX9, 11), rfl, rfl, inG9, by decide, (tw 342 (by decide +kernel) (by decide +kernel)), rfl, rfl, nmX9, tyX9, tyX9_ok, fun h => absurd h (by decide), fun h => absurd h (by decide), fun _ => rfl⟩
theorem ffX8_15 : FF RX8 15 8 1 0 false := ⟨by decide, rfl, (RX8, TX8, 2), rfl, rfl, inG8, by decide, (tw 89 (by decide +kernel) (by decide +kernel)), rfl, rfl, nmX8, tyX8, tyX8_ok, fun _ => rfl, fun h => absurd h (by decide), fun h => absurd h (by decide)⟩
theorem lkX9_84 : Cond.methodLink RX9 84 yX9_within ∈ lw_good := (tw 370 (by decide +kernel) (by decide +kernel))
theorem mvX9_within : MV false yX9_within cX9_within 2 (some .boolean) 2 := ⟨(tw 372 (by decide +kernel) (by decide +kernel)), (tw 59 (by decide +kernel) (by decide +kernel)), ⟨by decide, by decide⟩, by decide +kernel, ⟨fun h => (by cases h), fun _ => (tw 371 (by decide +kernel) (by decide +kernel))⟩⟩
theorem lkX9_88 : Cond.methodLink RX9 88 yX8_append ∈ lw_good := (tw 373 (by decide +kernel) (by decide +kernel))
theorem mvX8_append : MV true yX8_append cX8_append 2 (some .boolean) 1 := ⟨(tw 376 (by decide +kernel) (by decide +kernel)), (tw 60 (by decide +kernel) (by decide +kernel)), ⟨by decide, by decide⟩, by decide +kernel, ⟨fun _ => (tw 374 (by decide +kernel) (by decide +kernel)), fun h => by cases h⟩⟩
theorem seX8_append : Cond.selects RX8 yX8_append yX8_append ∈ lw_good := (tw 375 (by decide +kernel) (by decide +kernel))
theorem ffX9_92 : FF RX9 92 8 1 0 false := ⟨by decide, rfl, (RX8, TX8, 2), rfl, rfl, inG8, by decide, (tw 90 (by decide +kernel) (by decide +kernel)), rfl, rfl, nmX8, tyX8, tyX8_ok, fun _ => rfl, fun h => absurd h (by decide), fun h => absurd h (by decide)⟩
theorem ffX3_40 : FF RX3 40 3 5 0 false := ⟨by decide, rfl, (RX3, TX3, 7), rfl, rfl, inG3, by decide, (tw 163 (by decide +kernel) (by decide +kernel)), rfl, rfl, nmX3, tyX3, tyX3_ok, fun _ => rfl, fun h => absurd h (by decide), fun h => absurd h (by decide)⟩
theorem ffX3_43 : FF RX3 43 3 6 0 false := ⟨by decide, rfl, (RX3, TX3, 7), rfl, rfl, inG3, by decide, (tw 164 (by decide +kernel) (by decide +kernel)), rfl, rfl, nmX3, tyX3, tyX3_ok, fun _ => rfl, fun h => absurd h (by decide), fun h => absurd h (by decide)⟩
theorem ffX3_33 : FF RX3 33 3 3 0 false := ⟨by decide, rfl, (RX3, TX3, 7), rfl, rfl, inG3, by decide, (tw 161 (by decide +kernel) (by decide +kernel)), rfl, rfl, nmX3, tyX3, tyX3_ok, fun _ => rfl, fun h => absurd h (by decide), fun h => absurd h (by decide)⟩
theorem ffX3_53 : FF RX3 53 3 4 0 false := ⟨by decide, rfl, (RX3, TX3, 7), rfl, rfl, inG3, by decide, (tw 162 (by decide +kernel) (by decide +kernel)), rfl, rfl, nmX3, tyX3, tyX3_ok, fun _ => rfl, fun h => absurd h (by decide), fun h => absurd h (by decide)⟩
theorem ffX3_76 : FF RX3 76 8 1 0 false := ⟨by decide, rfl, (RX8, TX8, 2), rfl, rfl, inG8, by decide, (tw 91 (by decide +kernel) (by decide +kernel)), rfl, rfl, nmX8, tyX8, tyX8_ok, fun _ => rfl, fun h => absurd h (by decide), fun h => absurd h (by decide)⟩
theorem ffX3_79 : FF RX3 79 8 0 2 true := ⟨by decide, rfl, (RX8, TX8, 2), rfl, rfl, inG8, by decide, (tw 88 (by decide +kernel) (by decide +kernel)), rfl, rfl, nmX8, tyX8, tyX8_ok, fun h => absurd h (by decide), fun h => absurd h (by decide), fun _ => rfl⟩
theorem lkX3_82 : Cond.methodLink RX3 82 yX3_isDigit ∈ lw_good := (tw 393 (by decide +kernel) (by decide +kernel))
theorem mvX3_isDigit : MV false yX3_isDigit cX3_isDigit 1 (some .boolean) 1 := ⟨(tw 395 (by decide +kernel) (by decide +kernel)), (tw 61 (by decide +kernel) (by decide +kernel)), ⟨by decide, by decide⟩, by decide +kernel, ⟨fun h => (by cases h), fun _ => (tw 394 (by decide +kernel) (by decide +kernel))⟩⟩
theorem lkX3_89 : Cond.methodLink RX3 89 yJ9_min_7cf53 ∈ lw_good := (tw 400 (by decide +kernel) (by decide +kernel))
theorem mvJ9_min_7cf53 : MV false yJ9_min_7cf53 cJ9_min_7cf53 2 (some .int) 2 := ⟨(tw 402 (by decide +kernel) (by decide +kernel)), (tw 70 (by decide +kernel) (by decide +kernel)), ⟨by decide, by decide⟩, by decide +kernel, ⟨fun h => (by cases h), fun _ => (tw 401 (by decide +kernel) (by decide +kernel))⟩⟩
theorem lkX3_86 : Cond.methodLink RX3 86 yX3_advanceOverNumber ∈ lw_good := (tw 396 (by decide +kernel) (by decide +kernel))
theorem mvX3_advanceOverNumber : MV true yX3_advanceOverNumber cX3_advanceOverNumber 4 none 1 := ⟨(tw 399 (by decide +kernel) (by decide +kernel)), (tw 61 (by decide +kernel) (by decide +kernel)), ⟨by decide, by decide⟩, by decide +kernel, ⟨fun _ => (tw 398 (by decide +kernel) (by decide +kernel)), fun h => by cases h⟩⟩
theorem seX3_advanceOverNumber : Cond.selects RX3 yX3_advanceOverNumber yX3_advanceOverNumber ∈ lw_good := (tw 1 (by decide +kernel) (by decide +kernel))
theorem lkX3_36 : Cond.methodLink RX3 36 yX3_advance ∈ lw_good := (tw 389 (by decide +kernel) (by decide +kernel))
theorem mvX3_advance : MV true yX3_advance cX3_advance 2 none 1 := ⟨(tw 392 (by decide +kernel) (by decide +kernel)), (tw 61 (by decide +kernel) (by decide +kernel)), ⟨by decide, by decide⟩, by decide +kernel, ⟨fun _ => (tw 391 (by decide +kernel) (by decide +kernel)), fun h => by cases h⟩⟩
theorem seX3_advance : Cond.selects RX3 yX3_advance yX3_advance ∈ lw_good := (tw 0 (by decide +kernel) (by decide +kernel))
theorem ffX6_24 : FF RX6 24 6 2 0 false := ⟨by decide, rfl, (RX6, TX6, 3), rfl, rfl, inG6, by decide, (tw 117 (by decide +kernel) (by decide +kernel)), rfl, rfl, nmX6, tyX6, tyX6_ok, fun _ => rfl, fun h => absurd h (by decide), fun h => absurd h (by decide)⟩
theorem lkX3_64 : Cond.methodLink RX3 64 yX3_takeSemicolon ∈ lw_good := (tw 414 (by decide +kernel) (by decide +kernel))
theorem mvX3_takeSemicolon : MV true yX3_takeSemicolon cX3_takeSemicolon 2 (some .boolean) 1 := ⟨(tw 417 (by decide +kernel) (by decide +kernel)), (tw 61 (by decide +kernel) (by decide +kernel)), ⟨by decide, by decide⟩, by decide +kernel, ⟨fun _ => (tw 416 (by decide +kernel) (by decide +kernel)), fun h => by cases h⟩⟩
theorem seX3_takeSemicolon : Cond.selects RX3 yX3_takeSemicolon yX3_takeSemicolon ∈ lw_good := (tw 4 (by decide +kernel) (by decide +kernel))
theorem ffX3_67 : FF RX3 67 2 2 2 true := ⟨by decide, rfl, (RX2, TX2, 4), rfl, rfl, inG2, by decide, (tw 140 (by decide +kernel) (by decide +kernel)), rfl, rfl, nmX2, tyX2, tyX2_ok, fun h => absurd h (by decide), fun h => absurd h (by decide), fun _ => rfl⟩
theorem ffX3_25 : FF RX3 25 6 2 0 false := ⟨by decide, rfl, (RX6, TX6, 3), rfl, rfl, inG6, by decide, (tw 116 (by decide +kernel) (by decide +kernel)), rfl, rfl, nmX6, tyX6, tyX6_ok, fun _ => rfl, fun h => absurd h (by decide), fun h => absurd h (by decide)⟩
theorem lkX3_71 : Cond.methodLink RX3 71 yX6_append ∈ lw_good := (tw 418 (by decide +kernel) (by decide +kernel))
theorem mvX6_append : MV true yX6_append cX6_append 3 none 2 := ⟨(tw 421 (by decide +kernel) (by decide +kernel)), (tw 62 (by decide +kernel) (by decide +kernel)), ⟨by decide, by decide⟩, by decide +kernel, ⟨fun _ => (tw 419 (by decide +kernel) (by decide +kernel)), fun h => by cases h⟩⟩
theorem seX6_append : Cond.selects RX6 yX6_append yX6_append ∈ lw_good := (tw 420 (by decide +kernel) (by decide +kernel))
theorem lkX3_56 : Cond.methodLink RX3 56 yX3_takeNumber ∈ lw_good := (tw 407 (by decide +kernel) (by decide +kernel))
theorem mvX3_takeNumber : MV true yX3_takeNumber cX3_takeNumber 3 (some .boolean) 2 := ⟨(tw 410 (by decide +kernel) (by decide +kernel)), (tw 61 (by decide +kernel) (by decide +kernel)), ⟨by decide, by decide⟩, by decide +kernel, ⟨fun _ => (tw 409 (by decide +kernel) (by decide +kernel)), fun h => by cases h⟩⟩
theorem seX3_takeNumber : Cond.selects RX3 yX3_takeNumber yX3_takeNumber ∈ lw_good := (tw 3 (by decide +kernel) (by decide +kernel))
theorem lkX3_60 : Cond.methodLink RX3 60 yX3_clockOf ∈ lw_good := (tw 411 (by decide +kernel) (by decide +kernel))
theorem mvX3_clockOf : MV false yX3_clockOf cX3_clockOf 1 (some .int) 1 := ⟨(tw 413 (by decide +kernel) (by decide +kernel)), (tw 61 (by decide +kernel) (by decide +kernel)), ⟨by decide, by decide⟩, by decide +kernel, ⟨fun h => (by cases h), fun _ => (tw 412 (by decide +kernel) (by decide +kernel))⟩⟩
theorem ffX2_27 : FF RX2 27 2 3 0 false := ⟨by decide, rfl, (RX2, TX2, 4), rfl, rfl, inG2, by decide, (tw 144 (by decide +kernel) (by decide +kernel)), rfl, rfl, nmX2, tyX2, tyX2_ok, fun _ => rfl, fun h => absurd h (by decide), fun h => absurd h (by decide)⟩
theorem ffX3_29 : FF RX3 29 2 3 0 false := ⟨by decide, rfl, (RX2, TX2, 4), rfl, rfl, inG2, by decide, (tw 143 (by decide +kernel) (by decide +kernel)), rfl, rfl, nmX2, tyX2, tyX2_ok, fun _ => rfl, fun h => absurd h (by decide), fun h => absurd h (by decide)⟩
theorem lkX3_75 : Cond.methodLink RX3 75 yX2_append ∈ lw_good := (tw 426 (by decide +kernel) (by decide +kernel))
theorem mvX2_append : MV true yX2_append cX2_append 3 none 2 := ⟨(tw 429 (by decide +kernel) (by decide +kernel)), (tw 63 (by decide +kernel) (by decide +kernel)), ⟨by decide, by decide⟩, by decide +kernel, ⟨fun _ => (tw 427 (by decide +kernel) (by decide +kernel)), fun h => by cases h⟩⟩
theorem seX2_append : Cond.selects RX2 yX2_append yX2_append ∈ lw_good := (tw 428 (by decide +kernel) (by decide +kernel))
theorem ffX3_30 : FF RX3 30 3 2 0 false := ⟨by decide, rfl, (RX3, TX3, 7), rfl, rfl, inG3, by decide, (tw 159 (by decide +kernel) (by decide +kernel)), rfl, rfl, nmX3, tyX3, tyX3_ok, fun _ => rfl, fun h => absurd h (by decide), fun h => absurd h (by decide)⟩
theorem lkX3_50 : Cond.methodLink RX3 50 yX3_takeReading ∈ lw_good := (tw 422 (by decide +kernel) (by decide +kernel))
theorem mvX3_takeReading : MV true yX3_takeReading cX3_takeReading 4 (some .boolean) 1 := ⟨(tw 425 (by decide +kernel) (by decide +kernel)), (tw 61 (by decide +kernel) (by decide +kernel)), ⟨by decide, by decide⟩, by decide +kernel, ⟨fun _ => (tw 424 (by decide +kernel) (by decide +kernel)), fun h => by cases h⟩⟩
theorem seX3_takeReading : Cond.selects RX3 yX3_takeReading yX3_takeReading ∈ lw_good := (tw 5 (by decide +kernel) (by decide +kernel))
theorem lkX3_46 : Cond.methodLink RX3 46 yX3_takeStation ∈ lw_good := (tw 403 (by decide +kernel) (by decide +kernel))
theorem mvX3_takeStation : MV true yX3_takeStation cX3_takeStation 5 (some .boolean) 1 := ⟨(tw 406 (by decide +kernel) (by decide +kernel)), (tw 61 (by decide +kernel) (by decide +kernel)), ⟨by decide, by decide⟩, by decide +kernel, ⟨fun _ => (tw 405 (by decide +kernel) (by decide +kernel)), fun h => by cases h⟩⟩
theorem seX3_takeStation : Cond.selects RX3 yX3_takeStation yX3_takeStation ∈ lw_good := (tw 2 (by decide +kernel) (by decide +kernel))
theorem lkX6_18 : Cond.methodLink RX6 18 arraycopyName ∈ lw_good := (tw 434 (by decide +kernel) (by decide +kernel))
theorem wNat : Cond.native arraycopyName ∈ lw_good := (tw 436 (by decide +kernel) (by decide +kernel))
theorem wSta : Cond.static arraycopyName ∈ lw_good := (tw 435 (by decide +kernel) (by decide +kernel))
theorem wIni : Cond.initialized "java/lang/System" ∈ lw_good := (tw 71 (by decide +kernel) (by decide +kernel))
theorem lkX2_21 : Cond.methodLink RX2 21 arraycopyName ∈ lw_good := (tw 441 (by decide +kernel) (by decide +kernel))
theorem ffX9_110 : FF RX9 110 3 2 0 false := ⟨by decide, rfl, (RX3, TX3, 7), rfl, rfl, inG3, by decide, (tw 160 (by decide +kernel) (by decide +kernel)), rfl, rfl, nmX3, tyX3, tyX3_ok, fun _ => rfl, fun h => absurd h (by decide), fun h => absurd h (by decide)⟩
theorem lkX9_96 : Cond.methodLink RX9 96 yX3_parse ∈ lw_good := (tw 385 (by decide +kernel) (by decide +kernel))
theorem mvX3_parse : MV true yX3_parse cX3_parse 5 (some .int) 1 := ⟨(tw 388 (by decide +kernel) (by decide +kernel)), (tw 61 (by decide +kernel) (by decide +kernel)), ⟨by decide, by decide⟩, by decide +kernel, ⟨fun _ => (tw 386 (by decide +kernel) (by decide +kernel)), fun h => by cases h⟩⟩
theorem seX3_parse : Cond.selects RX3 yX3_parse yX3_parse ∈ lw_good := (tw 387 (by decide +kernel) (by decide +kernel))
theorem ffX9_100 : FF RX9 100 3 0 2 true := ⟨by decide, rfl, (RX3, TX3, 7), rfl, rfl, inG3, by decide, (tw 156 (by decide +kernel) (by decide +kernel)), rfl, rfl, nmX3, tyX3, tyX3_ok, fun h => absurd h (by decide), fun h => absurd h (by decide), fun _ => rfl⟩
theorem lkX9_101 : Cond.methodLink RX9 101 yX6_copy ∈ lw_good := (tw 430 (by decide +kernel) (by decide +kernel))
theorem mvX6_copy : MV true yX6_copy cX6_copy 2 none 1 := ⟨(tw 433 (by decide +kernel) (by decide +kernel)), (tw 62 (by decide +kernel) (by decide +kernel)), ⟨by decide, by decide⟩, by decide +kernel, ⟨fun _ => (tw 431 (by decide +kernel) (by decide +kernel)), fun h => by cases h⟩⟩
theorem seX6_copy : Cond.selects RX6 yX6_copy yX6_copy ∈ lw_good := (tw 432 (by decide +kernel) (by decide +kernel))
theorem ffX9_105 : FF RX9 105 3 1 2 true := ⟨by decide, rfl, (RX3, TX3, 7), rfl, rfl, inG3, by decide, (tw 158 (by decide +kernel) (by decide +kernel)), rfl, rfl, nmX3, tyX3, tyX3_ok, fun h => absurd h (by decide), fun h => absurd h (by decide), fun _ => rfl⟩
theorem lkX9_106 : Cond.methodLink RX9 106 yX2_copy ∈ lw_good := (tw 437 (by decide +kernel) (by decide +kernel))
theorem mvX2_copy : MV true yX2_copy cX2_copy 2 none 1 := ⟨(tw 440 (by decide +kernel) (by decide +kernel)), (tw 63 (by decide +kernel) (by decide +kernel)), ⟨by decide, by decide⟩, by decide +kernel, ⟨fun _ => (tw 438 (by decide +kernel) (by decide +kernel)), fun h => by cases h⟩⟩
theorem seX2_copy : Cond.selects RX2 yX2_copy yX2_copy ∈ lw_good := (tw 439 (by decide +kernel) (by decide +kernel))
theorem ffX9_109 : FF RX9 109 4 2 0 false := ⟨by decide, rfl, (RX4, TX4, 3), rfl, rfl, inG4, by decide, (tw 196 (by decide +kernel) (by decide +kernel)), rfl, rfl, nmX4, tyX4, tyX4_ok, fun _ => rfl, fun h => absurd h (by decide), fun h => absurd h (by decide)⟩
theorem ffX9_234 : FF RX9 234 6 2 0 false := ⟨by decide, rfl, (RX6, TX6, 3), rfl, rfl, inG6, by decide, (tw 118 (by decide +kernel) (by decide +kernel)), rfl, rfl, nmX6, tyX6, tyX6_ok, fun _ => rfl, fun h => absurd h (by decide), fun h => absurd h (by decide)⟩
theorem lkX9_113 : Cond.methodLink RX9 113 yX9_hasStation ∈ lw_good := (tw 446 (by decide +kernel) (by decide +kernel))
theorem mvX9_hasStation : MV true yX9_hasStation cX9_hasStation 2 (some .boolean) 1 := ⟨(tw 449 (by decide +kernel) (by decide +kernel)), (tw 59 (by decide +kernel) (by decide +kernel)), ⟨by decide, by decide⟩, by decide +kernel, ⟨fun _ => (tw 448 (by decide +kernel) (by decide +kernel)), fun h => by cases h⟩⟩
theorem seX9_hasStation : Cond.selects RX9 yX9_hasStation yX9_hasStation ∈ lw_good := (tw 6 (by decide +kernel) (by decide +kernel))
theorem ffX9_116 : FF RX9 116 6 0 2 true := ⟨by decide, rfl, (RX6, TX6, 3), rfl, rfl, inG6, by decide, (tw 112 (by decide +kernel) (by decide +kernel)), rfl, rfl, nmX6, tyX6, tyX6_ok, fun h => absurd h (by decide), fun h => absurd h (by decide), fun _ => rfl⟩
theorem ffX9_120 : FF RX9 120 6 1 2 true := ⟨by decide, rfl, (RX6, TX6, 3), rfl, rfl, inG6, by decide, (tw 115 (by decide +kernel) (by decide +kernel)), rfl, rfl, nmX6, tyX6, tyX6_ok, fun h => absurd h (by decide), fun h => absurd h (by decide), fun _ => rfl⟩
theorem ffX9_123 : FF RX9 123 2 2 2 true := ⟨by decide, rfl, (RX2, TX2, 4), rfl, rfl, inG2, by decide, (tw 141 (by decide +kernel) (by decide +kernel)), rfl, rfl, nmX2, tyX2, tyX2_ok, fun h => absurd h (by decide), fun h => absurd h (by decide), fun _ => rfl⟩
theorem ffX9_146 : FF RX9 146 2 3 0 false := ⟨by decide, rfl, (RX2, TX2, 4), rfl, rfl, inG2, by decide, (tw 145 (by decide +kernel) (by decide +kernel)), rfl, rfl, nmX2, tyX2, tyX2_ok, fun _ => rfl, fun h => absurd h (by decide), fun h => absurd h (by decide)⟩
theorem ffX5_30 : FF RX5 30 5 4 0 false := ⟨by decide, rfl, (RX5, TX5, 5), rfl, rfl, inG5, by decide, (tw 224 (by decide +kernel) (by decide +kernel)), rfl, rfl, nmX5, tyX5, tyX5_ok, fun _ => rfl, fun h => absurd h (by decide), fun h => absurd h (by decide)⟩
theorem ffX5_31 : FF RX5 31 2 0 2 true := ⟨by decide, rfl, (RX2, TX2, 4), rfl, rfl, inG2, by decide, (tw 133 (by decide +kernel) (by decide +kernel)), rfl, rfl, nmX2, tyX2, tyX2_ok, fun h => absurd h (by decide), fun h => absurd h (by decide), fun _ => rfl⟩
theorem ffX5_32 : FF RX5 32 6 0 2 true := ⟨by decide, rfl, (RX6, TX6, 3), rfl, rfl, inG6, by decide, (tw 111 (by decide +kernel) (by decide +kernel)), rfl, rfl, nmX6, tyX6, tyX6_ok, fun h => absurd h (by decide), fun h => absurd h (by decide), fun _ => rfl⟩
theorem ffX5_35 : FF RX5 35 6 1 2 true := ⟨by decide, rfl, (RX6, TX6, 3), rfl, rfl, inG6, by decide, (tw 114 (by decide +kernel) (by decide +kernel)), rfl, rfl, nmX6, tyX6, tyX6_ok, fun h => absurd h (by decide), fun h => absurd h (by decide), fun _ => rfl⟩
theorem ffX5_36 : FF RX5 36 2 2 2 true := ⟨by decide, rfl, (RX2, TX2, 4), rfl, rfl, inG2, by decide, (tw 139 (by decide +kernel) (by decide +kernel)), rfl, rfl, nmX2, tyX2, tyX2_ok, fun h => absurd h (by decide), fun h => absurd h (by decide), fun _ => rfl⟩
theorem ffX5_39 : FF RX5 39 2 1 2 true := ⟨by decide, rfl, (RX2, TX2, 4), rfl, rfl, inG2, by decide, (tw 136 (by decide +kernel) (by decide +kernel)), rfl, rfl, nmX2, tyX2, tyX2_ok, fun h => absurd h (by decide), fun h => absurd h (by decide), fun _ => rfl⟩
theorem lnX5_42 : Cond.methodLinkNest RX5 42 yX9_timeOf "StrokeSeek" ∈ lw_nw := tn 470 (by decide +kernel) (by decide +kernel)
theorem mvX9_timeOf : MV false yX9_timeOf cX9_timeOf 2 (some .int) 2 := ⟨(tw 461 (by decide +kernel) (by decide +kernel)), (tw 59 (by decide +kernel) (by decide +kernel)), ⟨by decide, by decide⟩, by decide +kernel, ⟨fun h => (by cases h), fun _ => (tw 460 (by decide +kernel) (by decide +kernel))⟩⟩
theorem ffX5_24 : FF RX5 24 2 3 0 false := ⟨by decide, rfl, (RX2, TX2, 4), rfl, rfl, inG2, by decide, (tw 142 (by decide +kernel) (by decide +kernel)), rfl, rfl, nmX2, tyX2, tyX2_ok, fun _ => rfl, fun h => absurd h (by decide), fun h => absurd h (by decide)⟩
theorem ffX1_40 : FF RX1 40 5 3 2 true := ⟨by decide, rfl, (RX5, TX5, 5), rfl, rfl, inG5, by decide, (tw 222 (by decide +kernel) (by decide +kernel)), rfl, rfl, nmX5, tyX5, tyX5_ok, fun h => absurd h (by decide), fun h => absurd h (by decide), fun _ => rfl⟩
theorem ffX1_43 : FF RX1 43 5 0 2 true := ⟨by decide, rfl, (RX5, TX5, 5), rfl, rfl, inG5, by decide, (tw 211 (by decide +kernel) (by decide +kernel)), rfl, rfl, nmX5, tyX5, tyX5_ok, fun h => absurd h (by decide), fun h => absurd h (by decide), fun _ => rfl⟩
theorem lkX1_36 : Cond.methodLink RX1 36 yX1_isBefore ∈ lw_good := (tw 479 (by decide +kernel) (by decide +kernel))
theorem mvX1_isBefore : MV false yX1_isBefore cX1_isBefore 4 (some .boolean) 3 := ⟨(tw 481 (by decide +kernel) (by decide +kernel)), (tw 66 (by decide +kernel) (by decide +kernel)), ⟨by decide, by decide⟩, by decide +kernel, ⟨fun h => (by cases h), fun _ => (tw 480 (by decide +kernel) (by decide +kernel))⟩⟩
theorem ffX1_29 : FF RX1 29 5 4 0 false := ⟨by decide, rfl, (RX5, TX5, 5), rfl, rfl, inG5, by decide, (tw 225 (by decide +kernel) (by decide +kernel)), rfl, rfl, nmX5, tyX5, tyX5_ok, fun _ => rfl, fun h => absurd h (by decide), fun h => absurd h (by decide)⟩
theorem ffX1_56 : FF RX1 56 5 1 2 true := ⟨by decide, rfl, (RX5, TX5, 5), rfl, rfl, inG5, by decide, (tw 214 (by decide +kernel) (by decide +kernel)), rfl, rfl, nmX5, tyX5, tyX5_ok, fun h => absurd h (by decide), fun h => absurd h (by decide), fun _ => rfl⟩
theorem ffX1_59 : FF RX1 59 5 2 2 true := ⟨by decide, rfl, (RX5, TX5, 5), rfl, rfl, inG5, by decide, (tw 218 (by decide +kernel) (by decide +kernel)), rfl, rfl, nmX5, tyX5, tyX5_ok, fun h => absurd h (by decide), fun h => absurd h (by decide), fun _ => rfl⟩
theorem lnX1_49 : Cond.methodLinkNest RX1 49 yX9_holds "StrokeSeek" ∈ lw_nw := tn 490 (by decide +kernel) (by decide +kernel)
theorem mvX9_holds : MV false yX9_holds cX9_holds 2 (some .boolean) 2 := ⟨(tw 492 (by decide +kernel) (by decide +kernel)), (tw 59 (by decide +kernel) (by decide +kernel)), ⟨by decide, by decide⟩, by decide +kernel, ⟨fun h => (by cases h), fun _ => (tw 491 (by decide +kernel) (by decide +kernel))⟩⟩
theorem lkX1_53 : Cond.methodLink RX1 53 yX1_goTogether ∈ lw_good := (tw 493 (by decide +kernel) (by decide +kernel))
theorem mvX1_goTogether : MV false yX1_goTogether cX1_goTogether 6 (some .boolean) 3 := ⟨(tw 495 (by decide +kernel) (by decide +kernel)), (tw 66 (by decide +kernel) (by decide +kernel)), ⟨by decide, by decide⟩, by decide +kernel, ⟨fun h => (by cases h), fun _ => (tw 494 (by decide +kernel) (by decide +kernel))⟩⟩
theorem ffX1_25 : FF RX1 25 1 2 0 false := ⟨by decide, rfl, (RX1, TX1, 4), rfl, rfl, inG1, by decide, (tw 250 (by decide +kernel) (by decide +kernel)), rfl, rfl, nmX1, tyX1, tyX1_ok, fun _ => rfl, fun h => absurd h (by decide), fun h => absurd h (by decide)⟩
theorem lkX1_46 : Cond.methodLink RX1 46 yX1_fits ∈ lw_good := (tw 486 (by decide +kernel) (by decide +kernel))
theorem mvX1_fits : MV true yX1_fits cX1_fits 5 (some .boolean) 3 := ⟨(tw 489 (by decide +kernel) (by decide +kernel)), (tw 66 (by decide +kernel) (by decide +kernel)), ⟨by decide, by decide⟩, by decide +kernel, ⟨fun _ => (tw 488 (by decide +kernel) (by decide +kernel)), fun h => by cases h⟩⟩
theorem seX1_fits : Cond.selects RX1 yX1_fits yX1_fits ∈ lw_good := (tw 11 (by decide +kernel) (by decide +kernel))
theorem lkX1_32 : Cond.methodLink RX1 32 yX1_firstFitting ∈ lw_good := (tw 482 (by decide +kernel) (by decide +kernel))
theorem mvX1_firstFitting : MV true yX1_firstFitting cX1_firstFitting 4 (some .int) 2 := ⟨(tw 485 (by decide +kernel) (by decide +kernel)), (tw 66 (by decide +kernel) (by decide +kernel)), ⟨by decide, by decide⟩, by decide +kernel, ⟨fun _ => (tw 484 (by decide +kernel) (by decide +kernel)), fun h => by cases h⟩⟩
theorem seX1_firstFitting : Cond.selects RX1 yX1_firstFitting yX1_firstFitting ∈ lw_good := (tw 10 (by decide +kernel) (by decide +kernel))
theorem lkX1_21 : Cond.methodLink RX1 21 yX1_sort ∈ lw_good := (tw 475 (by decide +kernel) (by decide +kernel))
theorem mvX1_sort : MV true yX1_sort cX1_sort 4 none 1 := ⟨(tw 478 (by decide +kernel) (by decide +kernel)), (tw 66 (by decide +kernel) (by decide +kernel)), ⟨by decide, by decide⟩, by decide +kernel, ⟨fun _ => (tw 477 (by decide +kernel) (by decide +kernel)), fun h => by cases h⟩⟩
theorem seX1_sort : Cond.selects RX1 yX1_sort yX1_sort ∈ lw_good := (tw 9 (by decide +kernel) (by decide +kernel))
theorem lkX9_212 : Cond.methodLink RX9 212 yX5_take ∈ lw_good := (tw 466 (by decide +kernel) (by decide +kernel))
theorem mvX5_take : MV true yX5_take cX5_take 5 none 2 := ⟨(tw 469 (by decide +kernel) (by decide +kernel)), (tw 65 (by decide +kernel) (by decide +kernel)), ⟨by decide, by decide⟩, by decide +kernel, ⟨fun _ => (tw 467 (by decide +kernel) (by decide +kernel)), fun h => by cases h⟩⟩
theorem seX5_take : Cond.selects RX5 yX5_take yX5_take ∈ lw_good := (tw 468 (by decide +kernel) (by decide +kernel))
theorem lkX9_239 : Cond.methodLink RX9 239 yX1_make ∈ lw_good := (tw 471 (by decide +kernel) (by decide +kernel))
theorem mvX1_make : MV true yX1_make cX1_make 5 none 1 := ⟨(tw 474 (by decide +kernel) (by decide +kernel)), (tw 66 (by decide +kernel) (by decide +kernel)), ⟨by decide, by decide⟩, by decide +kernel, ⟨fun _ => (tw 472 (by decide +kernel) (by decide +kernel)), fun h => by cases h⟩⟩
theorem seX1_make : Cond.selects RX1 yX1_make yX1_make ∈ lw_good := (tw 473 (by decide +kernel) (by decide +kernel))
theorem cwX9_129 : Cond.constant RX9 129 (-1000000000) ∈ lw_good := (tw 458 (by decide +kernel) (by decide +kernel))
theorem lkX9_126 : Cond.methodLink RX9 126 yX9_hasReading ∈ lw_good := (tw 454 (by decide +kernel) (by decide +kernel))
theorem mvX9_hasReading : MV true yX9_hasReading cX9_hasReading 2 (some .boolean) 1 := ⟨(tw 457 (by decide +kernel) (by decide +kernel)), (tw 59 (by decide +kernel) (by decide +kernel)), ⟨by decide, by decide⟩, by decide +kernel, ⟨fun _ => (tw 456 (by decide +kernel) (by decide +kernel)), fun h => by cases h⟩⟩
theorem seX9_hasReading : Cond.selects RX9 yX9_hasReading yX9_hasReading ∈ lw_good := (tw 7 (by decide +kernel) (by decide +kernel))
theorem ffX9_130 : FF RX9 130 2 0 2 true := ⟨by decide, rfl, (RX2, TX2, 4), rfl, rfl, inG2, by decide, (tw 134 (by decide +kernel) (by decide +kernel)), rfl, rfl, nmX2, tyX2, tyX2_ok, fun h => absurd h (by decide), fun h => absurd h (by decide), fun _ => rfl⟩
theorem ffX9_133 : FF RX9 133 2 1 2 true := ⟨by decide, rfl, (RX2, TX2, 4), rfl, rfl, inG2, by decide, (tw 137 (by decide +kernel) (by decide +kernel)), rfl, rfl, nmX2, tyX2, tyX2_ok, fun h => absurd h (by decide), fun h => absurd h (by decide), fun _ => rfl⟩
theorem lkX9_136 : Cond.methodLink RX9 136 yX9_timeOf ∈ lw_good := (tw 459 (by decide +kernel) (by decide +kernel))
theorem lkX9_140 : Cond.methodLink RX9 140 yX9_regroup ∈ lw_good := (tw 462 (by decide +kernel) (by decide +kernel))
theorem mvX9_regroup : MV true yX9_regroup cX9_regroup 1 none 0 := ⟨(tw 465 (by decide +kernel) (by decide +kernel)), (tw 59 (by decide +kernel) (by decide +kernel)), ⟨by decide, by decide⟩, by decide +kernel, ⟨fun _ => (tw 464 (by decide +kernel) (by decide +kernel)), fun h => by cases h⟩⟩
theorem seX9_regroup : Cond.selects RX9 yX9_regroup yX9_regroup ∈ lw_good := (tw 8 (by decide +kernel) (by decide +kernel))
theorem ffX9_143 : FF RX9 143 1 1 2 true := ⟨by decide, rfl, (RX1, TX1, 4), rfl, rfl, inG1, by decide, (tw 249 (by decide +kernel) (by decide +kernel)), rfl, rfl, nmX1, tyX1, tyX1_ok, fun h => absurd h (by decide), fun h => absurd h (by decide), fun _ => rfl⟩
theorem ffX4_18 : FF RX4 18 4 1 0 false := ⟨by decide, rfl, (RX4, TX4, 3), rfl, rfl, inG4, by decide, (tw 194 (by decide +kernel) (by decide +kernel)), rfl, rfl, nmX4, tyX4, tyX4_ok, fun _ => rfl, fun h => absurd h (by decide), fun h => absurd h (by decide)⟩
theorem lkX4_22 : Cond.methodLink RX4 22 yX2_copy ∈ lw_good := (tw 504 (by decide +kernel) (by decide +kernel))
theorem ffX4_26 : FF RX4 26 4 2 0 false := ⟨by decide, rfl, (RX4, TX4, 3), rfl, rfl, inG4, by decide, (tw 195 (by decide +kernel) (by decide +kernel)), rfl, rfl, nmX4, tyX4, tyX4_ok, fun _ => rfl, fun h => absurd h (by decide), fun h => absurd h (by decide)⟩
theorem lkX4_29 : Cond.methodLink RX4 29 yJ9_min_7cf53 ∈ lw_good := (tw 505 (by decide +kernel) (by decide +kernel))
theorem lkX9_147 : Cond.methodLink RX9 147 yX4_push ∈ lw_good := (tw 500 (by decide +kernel) (by decide +kernel))
theorem mvX4_push : MV true yX4_push cX4_push 2 none 1 := ⟨(tw 503 (by decide +kernel) (by decide +kernel)), (tw 64 (by decide +kernel) (by decide +kernel)), ⟨by decide, by decide⟩, by decide +kernel, ⟨fun _ => (tw 501 (by decide +kernel) (by decide +kernel)), fun h => by cases h⟩⟩
theorem seX4_push : Cond.selects RX4 yX4_push yX4_push ∈ lw_good := (tw 502 (by decide +kernel) (by decide +kernel))
theorem lkX9_150 : Cond.methodLink RX9 150 yX2_append ∈ lw_good := (tw 506 (by decide +kernel) (by decide +kernel))
theorem lkX9_153 : Cond.methodLink RX9 153 yX2_remove ∈ lw_good := (tw 511 (by decide +kernel) (by decide +kernel))
theorem mvX2_remove : MV true yX2_remove cX2_remove 3 none 1 := ⟨(tw 514 (by decide +kernel) (by decide +kernel)), (tw 63 (by decide +kernel) (by decide +kernel)), ⟨by decide, by decide⟩, by decide +kernel, ⟨fun _ => (tw 512 (by decide +kernel) (by decide +kernel)), fun h => by cases h⟩⟩
theorem seX2_remove : Cond.selects RX2 yX2_remove yX2_remove ∈ lw_good := (tw 513 (by decide +kernel) (by decide +kernel))
theorem lkX9_157 : Cond.methodLink RX9 157 yX4_pop ∈ lw_good := (tw 523 (by decide +kernel) (by decide +kernel))
theorem mvX4_pop : MV true yX4_pop cX4_pop 2 none 1 := ⟨(tw 526 (by decide +kernel) (by decide +kernel)), (tw 64 (by decide +kernel) (by decide +kernel)), ⟨by decide, by decide⟩, by decide +kernel, ⟨fun _ => (tw 524 (by decide +kernel) (by decide +kernel)), fun h => by cases h⟩⟩
theorem seX4_pop : Cond.selects RX4 yX4_pop yX4_pop ∈ lw_good := (tw 525 (by decide +kernel) (by decide +kernel))
theorem ffX7_73 : FF RX7 73 5 4 0 false := ⟨by decide, rfl, (RX5, TX5, 5), rfl, rfl, inG5, by decide, (tw 226 (by decide +kernel) (by decide +kernel)), rfl, rfl, nmX5, tyX5, tyX5_ok, fun _ => rfl, fun h => absurd h (by decide), fun h => absurd h (by decide)⟩
theorem lnX7_74 : Cond.methodLinkNest RX7 74 yX9_holds "StrokeSeek" ∈ lw_nw := tn 543 (by decide +kernel) (by decide +kernel)
theorem ffX7_66 : FF RX7 66 5 1 2 true := ⟨by decide, rfl, (RX5, TX5, 5), rfl, rfl, inG5, by decide, (tw 213 (by decide +kernel) (by decide +kernel)), rfl, rfl, nmX5, tyX5, tyX5_ok, fun h => absurd h (by decide), fun h => absurd h (by decide), fun _ => rfl⟩
theorem ffX7_68 : FF RX7 68 5 2 2 true := ⟨by decide, rfl, (RX5, TX5, 5), rfl, rfl, inG5, by decide, (tw 217 (by decide +kernel) (by decide +kernel)), rfl, rfl, nmX5, tyX5, tyX5_ok, fun h => absurd h (by decide), fun h => absurd h (by decide), fun _ => rfl⟩
theorem ffX7_40 : FF RX7 40 5 3 2 true := ⟨by decide, rfl, (RX5, TX5, 5), rfl, rfl, inG5, by decide, (tw 221 (by decide +kernel) (by decide +kernel)), rfl, rfl, nmX5, tyX5, tyX5_ok, fun h => absurd h (by decide), fun h => absurd h (by decide), fun _ => rfl⟩
theorem lkX7_82 : Cond.methodLink RX7 82 yX7_squares ∈ lw_good := (tw 548 (by decide +kernel) (by decide +kernel))
theorem mvX7_squares : MV true yX7_squares cX7_squares 2 (some .int) 1 := ⟨(tw 551 (by decide +kernel) (by decide +kernel)), (tw 67 (by decide +kernel) (by decide +kernel)), ⟨by decide, by decide⟩, by decide +kernel, ⟨fun _ => (tw 550 (by decide +kernel) (by decide +kernel)), fun h => by cases h⟩⟩
theorem seX7_squares : Cond.selects RX7 yX7_squares yX7_squares ∈ lw_good := (tw 15 (by decide +kernel) (by decide +kernel))
theorem ffX7_70 : FF RX7 70 7 2 0 false := ⟨by decide, rfl, (RX7, TX7, 8), rfl, rfl, inG7, by decide, (tw 272 (by decide +kernel) (by decide +kernel)), rfl, rfl, nmX7, tyX7, tyX7_ok, fun _ => rfl, fun h => absurd h (by decide), fun h => absurd h (by decide)⟩
theorem lkX7_78 : Cond.methodLink RX7 78 yX7_loadEquation ∈ lw_good := (tw 544 (by decide +kernel) (by decide +kernel))
theorem mvX7_loadEquation : MV true yX7_loadEquation cX7_loadEquation 4 none 3 := ⟨(tw 547 (by decide +kernel) (by decide +kernel)), (tw 67 (by decide +kernel) (by decide +kernel)), ⟨by decide, by decide⟩, by decide +kernel, ⟨fun _ => (tw 546 (by decide +kernel) (by decide +kernel)), fun h => by cases h⟩⟩
theorem seX7_loadEquation : Cond.selects RX7 yX7_loadEquation yX7_loadEquation ∈ lw_good := (tw 14 (by decide +kernel) (by decide +kernel))
theorem lkX7_32 : Cond.methodLink RX7 32 yX7_firstOf ∈ lw_good := (tw 539 (by decide +kernel) (by decide +kernel))
theorem mvX7_firstOf : MV true yX7_firstOf cX7_firstOf 3 (some .int) 1 := ⟨(tw 542 (by decide +kernel) (by decide +kernel)), (tw 67 (by decide +kernel) (by decide +kernel)), ⟨by decide, by decide⟩, by decide +kernel, ⟨fun _ => (tw 541 (by decide +kernel) (by decide +kernel)), fun h => by cases h⟩⟩
theorem seX7_firstOf : Cond.selects RX7 yX7_firstOf yX7_firstOf ∈ lw_good := (tw 13 (by decide +kernel) (by decide +kernel))
theorem ffX7_28 : FF RX7 28 7 3 0 false := ⟨by decide, rfl, (RX7, TX7, 8), rfl, rfl, inG7, by decide, (tw 273 (by decide +kernel) (by decide +kernel)), rfl, rfl, nmX7, tyX7, tyX7_ok, fun _ => rfl, fun h => absurd h (by decide), fun h => absurd h (by decide)⟩
theorem lkX7_92 : Cond.methodLink RX7 92 yX7_reduce ∈ lw_good := (tw 564 (by decide +kernel) (by decide +kernel))
theorem mvX7_reduce : MV false yX7_reduce cX7_reduce 10 none 4 := ⟨(tw 566 (by decide +kernel) (by decide +kernel)), (tw 67 (by decide +kernel) (by decide +kernel)), ⟨by decide, by decide⟩, by decide +kernel, ⟨fun h => (by cases h), fun _ => (tw 565 (by decide +kernel) (by decide +kernel))⟩⟩
theorem lkX7_85 : Cond.methodLink RX7 85 yX7_pivotOf ∈ lw_good := (tw 556 (by decide +kernel) (by decide +kernel))
theorem mvX7_pivotOf : MV true yX7_pivotOf cX7_pivotOf 3 (some .int) 1 := ⟨(tw 559 (by decide +kernel) (by decide +kernel)), (tw 67 (by decide +kernel) (by decide +kernel)), ⟨by decide, by decide⟩, by decide +kernel, ⟨fun _ => (tw 558 (by decide +kernel) (by decide +kernel)), fun h => by cases h⟩⟩
theorem seX7_pivotOf : Cond.selects RX7 yX7_pivotOf yX7_pivotOf ∈ lw_good := (tw 17 (by decide +kernel) (by decide +kernel))
theorem lkX7_88 : Cond.methodLink RX7 88 yX7_swap ∈ lw_good := (tw 560 (by decide +kernel) (by decide +kernel))
theorem mvX7_swap : MV true yX7_swap cX7_swap 6 none 2 := ⟨(tw 563 (by decide +kernel) (by decide +kernel)), (tw 67 (by decide +kernel) (by decide +kernel)), ⟨by decide, by decide⟩, by decide +kernel, ⟨fun _ => (tw 562 (by decide +kernel) (by decide +kernel)), fun h => by cases h⟩⟩
theorem seX7_swap : Cond.selects RX7 yX7_swap yX7_swap ∈ lw_good := (tw 18 (by decide +kernel) (by decide +kernel))
theorem ffX7_60 : FF RX7 60 7 4 1 false := ⟨by decide, rfl, (RX7, TX7, 8), rfl, rfl, inG7, by decide, (tw 276 (by decide +kernel) (by decide +kernel)), rfl, rfl, nmX7, tyX7, tyX7_ok, fun h => absurd h (by decide), fun _ => rfl, fun h => absurd h (by decide)⟩
theorem ffX7_63 : FF RX7 63 7 5 1 false := ⟨by decide, rfl, (RX7, TX7, 8), rfl, rfl, inG7, by decide, (tw 278 (by decide +kernel) (by decide +kernel)), rfl, rfl, nmX7, tyX7, tyX7_ok, fun h => absurd h (by decide), fun _ => rfl, fun h => absurd h (by decide)⟩
theorem ffX7_36 : FF RX7 36 7 6 1 false := ⟨by decide, rfl, (RX7, TX7, 8), rfl, rfl, inG7, by decide, (tw 280 (by decide +kernel) (by decide +kernel)), rfl, rfl, nmX7, tyX7, tyX7_ok, fun h => absurd h (by decide), fun _ => rfl, fun h => absurd h (by decide)⟩
theorem ffX7_45 : FF RX7 45 7 7 1 false := ⟨by decide, rfl, (RX7, TX7, 8), rfl, rfl, inG7, by decide, (tw 282 (by decide +kernel) (by decide +kernel)), rfl, rfl, nmX7, tyX7, tyX7_ok, fun h => absurd h (by decide), fun _ => rfl, fun h => absurd h (by decide)⟩
theorem lkX7_52 : Cond.methodLink RX7 52 yX7_load ∈ lw_good := (tw 535 (by decide +kernel) (by decide +kernel))
theorem mvX7_load : MV true yX7_load cX7_load 4 none 1 := ⟨(tw 538 (by decide +kernel) (by decide +kernel)), (tw 67 (by decide +kernel) (by decide +kernel)), ⟨by decide, by decide⟩, by decide +kernel, ⟨fun _ => (tw 537 (by decide +kernel) (by decide +kernel)), fun h => by cases h⟩⟩
theorem seX7_load : Cond.selects RX7 yX7_load yX7_load ∈ lw_good := (tw 12 (by decide +kernel) (by decide +kernel))
theorem lkX7_55 : Cond.methodLink RX7 55 yX7_eliminate ∈ lw_good := (tw 552 (by decide +kernel) (by decide +kernel))
theorem mvX7_eliminate : MV true yX7_eliminate cX7_eliminate 6 none 0 := ⟨(tw 555 (by decide +kernel) (by decide +kernel)), (tw 67 (by decide +kernel) (by decide +kernel)), ⟨by decide, by decide⟩, by decide +kernel, ⟨fun _ => (tw 554 (by decide +kernel) (by decide +kernel)), fun h => by cases h⟩⟩
theorem seX7_eliminate : Cond.selects RX7 yX7_eliminate yX7_eliminate ∈ lw_good := (tw 16 (by decide +kernel) (by decide +kernel))
theorem cwX7_58 : Cond.constantLong RX7 58 (-1) ∈ lw_good := (tw 567 (by decide +kernel) (by decide +kernel))
theorem lkX7_48 : Cond.methodLink RX7 48 yX7_miss ∈ lw_good := (tw 577 (by decide +kernel) (by decide +kernel))
theorem mvX7_miss : MV true yX7_miss cX7_miss 8 (some .long) 1 := ⟨(tw 580 (by decide +kernel) (by decide +kernel)), (tw 67 (by decide +kernel) (by decide +kernel)), ⟨by decide, by decide⟩, by decide +kernel, ⟨fun _ => (tw 578 (by decide +kernel) (by decide +kernel)), fun h => by cases h⟩⟩
theorem seX7_miss : Cond.selects RX7 yX7_miss yX7_miss ∈ lw_good := (tw 579 (by decide +kernel) (by decide +kernel))
theorem lkX7_20 : Cond.methodLink RX7 20 yX7_solve ∈ lw_good := (tw 572 (by decide +kernel) (by decide +kernel))
theorem mvX7_solve : MV true yX7_solve cX7_solve 4 none 1 := ⟨(tw 534 (by decide +kernel) (by decide +kernel)), (tw 67 (by decide +kernel) (by decide +kernel)), ⟨by decide, by decide⟩, by decide +kernel, ⟨fun _ => (tw 532 (by decide +kernel) (by decide +kernel)), fun h => by cases h⟩⟩
theorem seX7_solve : Cond.selects RX7 yX7_solve yX7_solve ∈ lw_good := (tw 533 (by decide +kernel) (by decide +kernel))
theorem lkX7_24 : Cond.methodLink RX7 24 yX7_agree ∈ lw_good := (tw 573 (by decide +kernel) (by decide +kernel))
theorem mvX7_agree : MV true yX7_agree cX7_agree 2 (some .boolean) 0 := ⟨(tw 576 (by decide +kernel) (by decide +kernel)), (tw 67 (by decide +kernel) (by decide +kernel)), ⟨by decide, by decide⟩, by decide +kernel, ⟨fun _ => (tw 575 (by decide +kernel) (by decide +kernel)), fun h => by cases h⟩⟩
theorem seX7_agree : Cond.selects RX7 yX7_agree yX7_agree ∈ lw_good := (tw 19 (by decide +kernel) (by decide +kernel))
theorem cwJ6_265 : Cond.constant RJ6 265 (1431655765) ∈ lw_good := (tw 591 (by decide +kernel) (by decide +kernel))
theorem cwJ6_266 : Cond.constant RJ6 266 (858993459) ∈ lw_good := (tw 592 (by decide +kernel) (by decide +kernel))
theorem cwJ6_267 : Cond.constant RJ6 267 (252645135) ∈ lw_good := (tw 593 (by decide +kernel) (by decide +kernel))
theorem lkX0_29 : Cond.methodLink RX0 29 yJ6_bitCount_0f7a4 ∈ lw_good := (tw 588 (by decide +kernel) (by decide +kernel))
theorem mvJ6_bitCount_0f7a4 : MV false yJ6_bitCount_0f7a4 cJ6_bitCount_0f7a4 1 (some .int) 1 := ⟨(tw 590 (by decide +kernel) (by decide +kernel)), (tw 72 (by decide +kernel) (by decide +kernel)), ⟨by decide, by decide⟩, by decide +kernel, ⟨fun h => (by cases h), fun _ => (tw 589 (by decide +kernel) (by decide +kernel))⟩⟩
theorem lkX0_19 : Cond.methodLink RX0 19 yX0_isPart ∈ lw_good := (tw 585 (by decide +kernel) (by decide +kernel))
theorem mvX0_isPart : MV false yX0_isPart cX0_isPart 3 (some .boolean) 3 := ⟨(tw 587 (by decide +kernel) (by decide +kernel)), (tw 68 (by decide +kernel) (by decide +kernel)), ⟨by decide, by decide⟩, by decide +kernel, ⟨fun h => (by cases h), fun _ => (tw 586 (by decide +kernel) (by decide +kernel))⟩⟩
theorem lkX0_23 : Cond.methodLink RX0 23 yX7_judge ∈ lw_good := (tw 594 (by decide +kernel) (by decide +kernel))
theorem mvX7_judge : MV true yX7_judge cX7_judge 4 (some .int) 1 := ⟨(tw 571 (by decide +kernel) (by decide +kernel)), (tw 67 (by decide +kernel) (by decide +kernel)), ⟨by decide, by decide⟩, by decide +kernel, ⟨fun _ => (tw 569 (by decide +kernel) (by decide +kernel)), fun h => by cases h⟩⟩
theorem seX7_judge : Cond.selects RX7 yX7_judge yX7_judge ∈ lw_good := (tw 570 (by decide +kernel) (by decide +kernel))
theorem ffX0_78 : FF RX0 78 7 7 1 false := ⟨by decide, rfl, (RX7, TX7, 8), rfl, rfl, inG7, by decide, (tw 283 (by decide +kernel) (by decide +kernel)), rfl, rfl, nmX7, tyX7, tyX7_ok, fun h => absurd h (by decide), fun _ => rfl, fun h => absurd h (by decide)⟩
theorem cwX0_82 : Cond.constantLong RX0 82 (999999999) ∈ lw_good := (tw 612 (by decide +kernel) (by decide +kernel))
theorem lkX0_84 : Cond.methodLink RX0 84 yJ9_min_f86c9 ∈ lw_good := (tw 613 (by decide +kernel) (by decide +kernel))
theorem mvJ9_min_f86c9 : MV false yJ9_min_f86c9 cJ9_min_f86c9 4 (some .long) 2 := ⟨(tw 615 (by decide +kernel) (by decide +kernel)), (tw 70 (by decide +kernel) (by decide +kernel)), ⟨by decide, by decide⟩, by decide +kernel, ⟨fun h => (by cases h), fun _ => (tw 614 (by decide +kernel) (by decide +kernel))⟩⟩
theorem ffX0_55 : FF RX0 55 5 4 0 false := ⟨by decide, rfl, (RX5, TX5, 5), rfl, rfl, inG5, by decide, (tw 227 (by decide +kernel) (by decide +kernel)), rfl, rfl, nmX5, tyX5, tyX5_ok, fun _ => rfl, fun h => absurd h (by decide), fun h => absurd h (by decide)⟩
theorem lnX0_60 : Cond.methodLinkNest RX0 60 yX9_holds "StrokeSeek" ∈ lw_nw := tn 604 (by decide +kernel) (by decide +kernel)
theorem lkX0_64 : Cond.methodLink RX0 64 yX7_miss ∈ lw_good := (tw 605 (by decide +kernel) (by decide +kernel))
theorem lkX0_68 : Cond.methodLink RX0 68 yJ9_abs_067f4 ∈ lw_good := (tw 606 (by decide +kernel) (by decide +kernel))
theorem mvJ9_abs_067f4 : MV false yJ9_abs_067f4 cJ9_abs_067f4 2 (some .long) 1 := ⟨(tw 608 (by decide +kernel) (by decide +kernel)), (tw 70 (by decide +kernel) (by decide +kernel)), ⟨by decide, by decide⟩, by decide +kernel, ⟨fun h => (by cases h), fun _ => (tw 607 (by decide +kernel) (by decide +kernel))⟩⟩
theorem lkX0_74 : Cond.methodLink RX0 74 yJ9_max_f86c9 ∈ lw_good := (tw 609 (by decide +kernel) (by decide +kernel))
theorem mvJ9_max_f86c9 : MV false yJ9_max_f86c9 cJ9_max_f86c9 4 (some .long) 2 := ⟨(tw 611 (by decide +kernel) (by decide +kernel)), (tw 70 (by decide +kernel) (by decide +kernel)), ⟨by decide, by decide⟩, by decide +kernel, ⟨fun h => (by cases h), fun _ => (tw 610 (by decide +kernel) (by decide +kernel))⟩⟩
theorem ffX0_34 : FF RX0 34 0 2 0 false := ⟨by decide, rfl, (RX0, TX0, 6), rfl, rfl, inG0, by decide, (tw 311 (by decide +kernel) (by decide +kernel)), rfl, rfl, nmX0, tyX0, tyX0_ok, fun _ => rfl, fun h => absurd h (by decide), fun h => absurd h (by decide)⟩
theorem ffX0_38 : FF RX0 38 0 3 0 false := ⟨by decide, rfl, (RX0, TX0, 6), rfl, rfl, inG0, by decide, (tw 313 (by decide +kernel) (by decide +kernel)), rfl, rfl, nmX0, tyX0, tyX0_ok, fun _ => rfl, fun h => absurd h (by decide), fun h => absurd h (by decide)⟩
theorem lkX0_41 : Cond.methodLink RX0 41 yX7_solve ∈ lw_good := (tw 599 (by decide +kernel) (by decide +kernel))
theorem ffX0_45 : FF RX0 45 7 3 0 false := ⟨by decide, rfl, (RX7, TX7, 8), rfl, rfl, inG7, by decide, (tw 274 (by decide +kernel) (by decide +kernel)), rfl, rfl, nmX7, tyX7, tyX7_ok, fun _ => rfl, fun h => absurd h (by decide), fun h => absurd h (by decide)⟩
theorem lkX0_48 : Cond.methodLink RX0 48 yX0_worstOf ∈ lw_good := (tw 600 (by decide +kernel) (by decide +kernel))
theorem mvX0_worstOf : MV true yX0_worstOf cX0_worstOf 6 (some .int) 1 := ⟨(tw 603 (by decide +kernel) (by decide +kernel)), (tw 68 (by decide +kernel) (by decide +kernel)), ⟨by decide, by decide⟩, by decide +kernel, ⟨fun _ => (tw 602 (by decide +kernel) (by decide +kernel)), fun h => by cases h⟩⟩
theorem seX0_worstOf : Cond.selects RX0 yX0_worstOf yX0_worstOf ∈ lw_good := (tw 20 (by decide +kernel) (by decide +kernel))
theorem lkX0_51 : Cond.methodLink RX0 51 yX0_offerFour ∈ lw_good := (tw 616 (by decide +kernel) (by decide +kernel))
theorem mvX0_offerFour : MV true yX0_offerFour cX0_offerFour 3 none 2 := ⟨(tw 619 (by decide +kernel) (by decide +kernel)), (tw 68 (by decide +kernel) (by decide +kernel)), ⟨by decide, by decide⟩, by decide +kernel, ⟨fun _ => (tw 618 (by decide +kernel) (by decide +kernel)), fun h => by cases h⟩⟩
theorem seX0_offerFour : Cond.selects RX0 yX0_offerFour yX0_offerFour ∈ lw_good := (tw 21 (by decide +kernel) (by decide +kernel))
theorem ffX0_100 : FF RX0 100 5 1 2 true := ⟨by decide, rfl, (RX5, TX5, 5), rfl, rfl, inG5, by decide, (tw 215 (by decide +kernel) (by decide +kernel)), rfl, rfl, nmX5, tyX5, tyX5_ok, fun h => absurd h (by decide), fun h => absurd h (by decide), fun _ => rfl⟩
theorem ffX0_104 : FF RX0 104 5 2 2 true := ⟨by decide, rfl, (RX5, TX5, 5), rfl, rfl, inG5, by decide, (tw 219 (by decide +kernel) (by decide +kernel)), rfl, rfl, nmX5, tyX5, tyX5_ok, fun h => absurd h (by decide), fun h => absurd h (by decide), fun _ => rfl⟩
theorem lnX0_107 : Cond.methodLinkNest RX0 107 yX9_wholeWay "StrokeSeek" ∈ lw_nw := tn 628 (by decide +kernel) (by decide +kernel)
theorem mvX9_wholeWay : MV false yX9_wholeWay cX9_wholeWay 4 (some .int) 2 := ⟨(tw 630 (by decide +kernel) (by decide +kernel)), (tw 59 (by decide +kernel) (by decide +kernel)), ⟨by decide, by decide⟩, by decide +kernel, ⟨fun h => (by cases h), fun _ => (tw 629 (by decide +kernel) (by decide +kernel))⟩⟩
theorem ffX0_111 : FF RX0 111 5 3 2 true := ⟨by decide, rfl, (RX5, TX5, 5), rfl, rfl, inG5, by decide, (tw 223 (by decide +kernel) (by decide +kernel)), rfl, rfl, nmX5, tyX5, tyX5_ok, fun h => absurd h (by decide), fun h => absurd h (by decide), fun _ => rfl⟩
theorem ffX0_87 : FF RX0 87 0 4 0 false := ⟨by decide, rfl, (RX0, TX0, 6), rfl, rfl, inG0, by decide, (tw 315 (by decide +kernel) (by decide +kernel)), rfl, rfl, nmX0, tyX0, tyX0_ok, fun _ => rfl, fun h => absurd h (by decide), fun h => absurd h (by decide)⟩
theorem lkX0_93 : Cond.methodLink RX0 93 yX0_strokeTime ∈ lw_good := (tw 624 (by decide +kernel) (by decide +kernel))
theorem mvX0_strokeTime : MV true yX0_strokeTime cX0_strokeTime 8 (some .int) 3 := ⟨(tw 627 (by decide +kernel) (by decide +kernel)), (tw 68 (by decide +kernel) (by decide +kernel)), ⟨by decide, by decide⟩, by decide +kernel, ⟨fun _ => (tw 626 (by decide +kernel) (by decide +kernel)), fun h => by cases h⟩⟩
theorem seX0_strokeTime : Cond.selects RX0 yX0_strokeTime yX0_strokeTime ∈ lw_good := (tw 22 (by decide +kernel) (by decide +kernel))
theorem lnX0_97 : Cond.methodLinkNest RX0 97 yX9_within "StrokeSeek" ∈ lw_nw := tn 631 (by decide +kernel) (by decide +kernel)
theorem ffX0_90 : FF RX0 90 0 5 0 false := ⟨by decide, rfl, (RX0, TX0, 6), rfl, rfl, inG0, by decide, (tw 317 (by decide +kernel) (by decide +kernel)), rfl, rfl, nmX0, tyX0, tyX0_ok, fun _ => rfl, fun h => absurd h (by decide), fun h => absurd h (by decide)⟩
theorem ffX9_160 : FF RX9 160 1 2 0 false := ⟨by decide, rfl, (RX1, TX1, 4), rfl, rfl, inG1, by decide, (tw 251 (by decide +kernel) (by decide +kernel)), rfl, rfl, nmX1, tyX1, tyX1_ok, fun _ => rfl, fun h => absurd h (by decide), fun h => absurd h (by decide)⟩
theorem ffX9_161 : FF RX9 161 1 0 2 true := ⟨by decide, rfl, (RX1, TX1, 4), rfl, rfl, inG1, by decide, (tw 247 (by decide +kernel) (by decide +kernel)), rfl, rfl, nmX1, tyX1, tyX1_ok, fun h => absurd h (by decide), fun h => absurd h (by decide), fun _ => rfl⟩
theorem lkX9_164 : Cond.methodLink RX9 164 yX7_solve ∈ lw_good := (tw 531 (by decide +kernel) (by decide +kernel))
theorem ffX9_167 : FF RX9 167 7 3 0 false := ⟨by decide, rfl, (RX7, TX7, 8), rfl, rfl, inG7, by decide, (tw 275 (by decide +kernel) (by decide +kernel)), rfl, rfl, nmX7, tyX7, tyX7_ok, fun _ => rfl, fun h => absurd h (by decide), fun h => absurd h (by decide)⟩
theorem lkX9_170 : Cond.methodLink RX9 170 yX7_judge ∈ lw_good := (tw 568 (by decide +kernel) (by decide +kernel))
theorem lkX9_174 : Cond.methodLink RX9 174 yX0_leastOut ∈ lw_good := (tw 581 (by decide +kernel) (by decide +kernel))
theorem mvX0_leastOut : MV true yX0_leastOut cX0_leastOut 4 (some .int) 1 := ⟨(tw 584 (by decide +kernel) (by decide +kernel)), (tw 68 (by decide +kernel) (by decide +kernel)), ⟨by decide, by decide⟩, by decide +kernel, ⟨fun _ => (tw 582 (by decide +kernel) (by decide +kernel)), fun h => by cases h⟩⟩
theorem seX0_leastOut : Cond.selects RX0 yX0_leastOut yX0_leastOut ∈ lw_good := (tw 583 (by decide +kernel) (by decide +kernel))
theorem lkX9_177 : Cond.methodLink RX9 177 yX0_seekFour ∈ lw_good := (tw 595 (by decide +kernel) (by decide +kernel))
theorem mvX0_seekFour : MV true yX0_seekFour cX0_seekFour 3 none 1 := ⟨(tw 598 (by decide +kernel) (by decide +kernel)), (tw 68 (by decide +kernel) (by decide +kernel)), ⟨by decide, by decide⟩, by decide +kernel, ⟨fun _ => (tw 596 (by decide +kernel) (by decide +kernel)), fun h => by cases h⟩⟩
theorem seX0_seekFour : Cond.selects RX0 yX0_seekFour yX0_seekFour ∈ lw_good := (tw 597 (by decide +kernel) (by decide +kernel))
theorem ffX9_180 : FF RX9 180 0 2 0 false := ⟨by decide, rfl, (RX0, TX0, 6), rfl, rfl, inG0, by decide, (tw 312 (by decide +kernel) (by decide +kernel)), rfl, rfl, nmX0, tyX0, tyX0_ok, fun _ => rfl, fun h => absurd h (by decide), fun h => absurd h (by decide)⟩
theorem ffX9_183 : FF RX9 183 0 3 0 false := ⟨by decide, rfl, (RX0, TX0, 6), rfl, rfl, inG0, by decide, (tw 314 (by decide +kernel) (by decide +kernel)), rfl, rfl, nmX0, tyX0, tyX0_ok, fun _ => rfl, fun h => absurd h (by decide), fun h => absurd h (by decide)⟩
theorem lkX9_186 : Cond.methodLink RX9 186 yX0_seekPlaces ∈ lw_good := (tw 620 (by decide +kernel) (by decide +kernel))
theorem mvX0_seekPlaces : MV true yX0_seekPlaces cX0_seekPlaces 5 none 1 := ⟨(tw 623 (by decide +kernel) (by decide +kernel)), (tw 68 (by decide +kernel) (by decide +kernel)), ⟨by decide, by decide⟩, by decide +kernel, ⟨fun _ => (tw 621 (by decide +kernel) (by decide +kernel)), fun h => by cases h⟩⟩
theorem seX0_seekPlaces : Cond.selects RX0 yX0_seekPlaces yX0_seekPlaces ∈ lw_good := (tw 622 (by decide +kernel) (by decide +kernel))
theorem ffX9_189 : FF RX9 189 0 4 0 false := ⟨by decide, rfl, (RX0, TX0, 6), rfl, rfl, inG0, by decide, (tw 316 (by decide +kernel) (by decide +kernel)), rfl, rfl, nmX0, tyX0, tyX0_ok, fun _ => rfl, fun h => absurd h (by decide), fun h => absurd h (by decide)⟩
theorem ffX9_192 : FF RX9 192 0 5 0 false := ⟨by decide, rfl, (RX0, TX0, 6), rfl, rfl, inG0, by decide, (tw 318 (by decide +kernel) (by decide +kernel)), rfl, rfl, nmX0, tyX0, tyX0_ok, fun _ => rfl, fun h => absurd h (by decide), fun h => absurd h (by decide)⟩
theorem lkX9_242 : Cond.methodLink RX9 242 yJ9_abs_067f4 ∈ lw_good := (tw 642 (by decide +kernel) (by decide +kernel))
theorem lkX9_248 : Cond.methodLink RX9 248 yX9_commonDivisor ∈ lw_good := (tw 639 (by decide +kernel) (by decide +kernel))
theorem mvX9_commonDivisor : MV false yX9_commonDivisor cX9_commonDivisor 11 (some .long) 2 := ⟨(tw 641 (by decide +kernel) (by decide +kernel)), (tw 59 (by decide +kernel) (by decide +kernel)), ⟨by decide, by decide⟩, by decide +kernel, ⟨fun h => (by cases h), fun _ => (tw 640 (by decide +kernel) (by decide +kernel))⟩⟩
theorem ffX9_195 : FF RX9 195 7 4 1 false := ⟨by decide, rfl, (RX7, TX7, 8), rfl, rfl, inG7, by decide, (tw 277 (by decide +kernel) (by decide +kernel)), rfl, rfl, nmX7, tyX7, tyX7_ok, fun h => absurd h (by decide), fun _ => rfl, fun h => absurd h (by decide)⟩
theorem ffX9_198 : FF RX9 198 7 7 1 false := ⟨by decide, rfl, (RX7, TX7, 8), rfl, rfl, inG7, by decide, (tw 284 (by decide +kernel) (by decide +kernel)), rfl, rfl, nmX7, tyX7, tyX7_ok, fun h => absurd h (by decide), fun _ => rfl, fun h => absurd h (by decide)⟩
theorem lkX9_201 : Cond.methodLink RX9 201 yX9_upper ∈ lw_good := (tw 636 (by decide +kernel) (by decide +kernel))
theorem mvX9_upper : MV false yX9_upper cX9_upper 6 (some .int) 2 := ⟨(tw 638 (by decide +kernel) (by decide +kernel)), (tw 59 (by decide +kernel) (by decide +kernel)), ⟨by decide, by decide⟩, by decide +kernel, ⟨fun h => (by cases h), fun _ => (tw 637 (by decide +kernel) (by decide +kernel))⟩⟩
theorem lkX9_205 : Cond.methodLink RX9 205 yX9_lower ∈ lw_good := (tw 643 (by decide +kernel) (by decide +kernel))
theorem mvX9_lower : MV false yX9_lower cX9_lower 6 (some .int) 2 := ⟨(tw 645 (by decide +kernel) (by decide +kernel)), (tw 59 (by decide +kernel) (by decide +kernel)), ⟨by decide, by decide⟩, by decide +kernel, ⟨fun h => (by cases h), fun _ => (tw 644 (by decide +kernel) (by decide +kernel))⟩⟩
theorem ffX9_207 : FF RX9 207 7 5 1 false := ⟨by decide, rfl, (RX7, TX7, 8), rfl, rfl, inG7, by decide, (tw 279 (by decide +kernel) (by decide +kernel)), rfl, rfl, nmX7, tyX7, tyX7_ok, fun h => absurd h (by decide), fun _ => rfl, fun h => absurd h (by decide)⟩
theorem ffX9_209 : FF RX9 209 7 6 1 false := ⟨by decide, rfl, (RX7, TX7, 8), rfl, rfl, inG7, by decide, (tw 281 (by decide +kernel) (by decide +kernel)), rfl, rfl, nmX7, tyX7, tyX7_ok, fun h => absurd h (by decide), fun _ => rfl, fun h => absurd h (by decide)⟩
theorem lkX9_216 : Cond.methodLink RX9 216 yX9_wholeWay ∈ lw_good := (tw 654 (by decide +kernel) (by decide +kernel))
theorem lkX9_219 : Cond.methodLink RX9 219 yX9_toldAt ∈ lw_good := (tw 655 (by decide +kernel) (by decide +kernel))
theorem mvX9_toldAt : MV false yX9_toldAt cX9_toldAt 2 (some .int) 2 := ⟨(tw 657 (by decide +kernel) (by decide +kernel)), (tw 59 (by decide +kernel) (by decide +kernel)), ⟨by decide, by decide⟩, by decide +kernel, ⟨fun h => (by cases h), fun _ => (tw 656 (by decide +kernel) (by decide +kernel))⟩⟩
theorem lnX0_114 : Cond.methodLinkNest RX0 114 yX9_power "StrokeSeek" ∈ lw_nw := tn 670 (by decide +kernel) (by decide +kernel)
theorem mvX9_power : MV false yX9_power cX9_power 5 (some .long) 2 := ⟨(tw 665 (by decide +kernel) (by decide +kernel)), (tw 59 (by decide +kernel) (by decide +kernel)), ⟨by decide, by decide⟩, by decide +kernel, ⟨fun h => (by cases h), fun _ => (tw 664 (by decide +kernel) (by decide +kernel))⟩⟩
theorem lkX9_222 : Cond.methodLink RX9 222 yJ6_bitCount_0f7a4 ∈ lw_good := (tw 662 (by decide +kernel) (by decide +kernel))
theorem lkX9_227 : Cond.methodLink RX9 227 yX9_power ∈ lw_good := (tw 663 (by decide +kernel) (by decide +kernel))
theorem lkX9_231 : Cond.methodLink RX9 231 yX0_sureCases ∈ lw_good := (tw 666 (by decide +kernel) (by decide +kernel))
theorem mvX0_sureCases : MV true yX0_sureCases cX0_sureCases 8 (some .long) 2 := ⟨(tw 669 (by decide +kernel) (by decide +kernel)), (tw 68 (by decide +kernel) (by decide +kernel)), ⟨by decide, by decide⟩, by decide +kernel, ⟨fun _ => (tw 667 (by decide +kernel) (by decide +kernel)), fun h => by cases h⟩⟩
theorem seX0_sureCases : Cond.selects RX0 yX0_sureCases yX0_sureCases ∈ lw_good := (tw 668 (by decide +kernel) (by decide +kernel))
theorem lkX9_235 : Cond.methodLink RX9 235 yX9_sureGroups ∈ lw_good := (tw 683 (by decide +kernel) (by decide +kernel))
theorem mvX9_sureGroups : MV true yX9_sureGroups cX9_sureGroups 3 (some .int) 0 := ⟨(tw 686 (by decide +kernel) (by decide +kernel)), (tw 59 (by decide +kernel) (by decide +kernel)), ⟨by decide, by decide⟩, by decide +kernel, ⟨fun _ => (tw 685 (by decide +kernel) (by decide +kernel)), fun h => by cases h⟩⟩
theorem seX9_sureGroups : Cond.selects RX9 yX9_sureGroups yX9_sureGroups ∈ lw_good := (tw 23 (by decide +kernel) (by decide +kernel))
theorem lkX10_1 : Cond.methodLink RX10 1 Lib.objectInit ∈ lw_good := (tw 692 (by decide +kernel) (by decide +kernel))
theorem ffX10_7 : FF RX10 7 10 1 2 true := ⟨by decide, rfl, (RX10, TX10, 31), rfl, rfl, inG10, by decide, (tw 694 (by decide +kernel) (by decide +kernel)), rfl, rfl, nmX10, tyX10, tyX10_ok, fun h => absurd h (by decide), fun h => absurd h (by decide), fun _ => rfl⟩
theorem ffX10_13 : FF RX10 13 10 2 2 true := ⟨by decide, rfl, (RX10, TX10, 31), rfl, rfl, inG10, by decide, (tw 695 (by decide +kernel) (by decide +kernel)), rfl, rfl, nmX10, tyX10, tyX10_ok, fun h => absurd h (by decide), fun h => absurd h (by decide), fun _ => rfl⟩
theorem ffX10_16 : FF RX10 16 10 3 2 true := ⟨by decide, rfl, (RX10, TX10, 31), rfl, rfl, inG10, by decide, (tw 696 (by decide +kernel) (by decide +kernel)), rfl, rfl, nmX10, tyX10, tyX10_ok, fun h => absurd h (by decide), fun h => absurd h (by decide), fun _ => rfl⟩
theorem ffX10_19 : FF RX10 19 10 6 2 true := ⟨by decide, rfl, (RX10, TX10, 31), rfl, rfl, inG10, by decide, (tw 699 (by decide +kernel) (by decide +kernel)), rfl, rfl, nmX10, tyX10, tyX10_ok, fun h => absurd h (by decide), fun h => absurd h (by decide), fun _ => rfl⟩
theorem ffX10_22 : FF RX10 22 10 7 2 true := ⟨by decide, rfl, (RX10, TX10, 31), rfl, rfl, inG10, by decide, (tw 700 (by decide +kernel) (by decide +kernel)), rfl, rfl, nmX10, tyX10, tyX10_ok, fun h => absurd h (by decide), fun h => absurd h (by decide), fun _ => rfl⟩
theorem ffX10_26 : FF RX10 26 10 8 2 true := ⟨by decide, rfl, (RX10, TX10, 31), rfl, rfl, inG10, by decide, (tw 701 (by decide +kernel) (by decide +kernel)), rfl, rfl, nmX10, tyX10, tyX10_ok, fun h => absurd h (by decide), fun h => absurd h (by decide), fun _ => rfl⟩
theorem ffX10_29 : FF RX10 29 10 10 2 true := ⟨by decide, rfl, (RX10, TX10, 31), rfl, rfl, inG10, by decide, (tw 703 (by decide +kernel) (by decide +kernel)), rfl, rfl, nmX10, tyX10, tyX10_ok, fun h => absurd h (by decide), fun h => absurd h (by decide), fun _ => rfl⟩
theorem ffX10_32 : FF RX10 32 10 17 2 true := ⟨by decide, rfl, (RX10, TX10, 31), rfl, rfl, inG10, by decide, (tw 710 (by decide +kernel) (by decide +kernel)), rfl, rfl, nmX10, tyX10, tyX10_ok, fun h => absurd h (by decide), fun h => absurd h (by decide), fun _ => rfl⟩
theorem ffX10_35 : FF RX10 35 10 18 2 true := ⟨by decide, rfl, (RX10, TX10, 31), rfl, rfl, inG10, by decide, (tw 711 (by decide +kernel) (by decide +kernel)), rfl, rfl, nmX10, tyX10, tyX10_ok, fun h => absurd h (by decide), fun h => absurd h (by decide), fun _ => rfl⟩
theorem ffX10_38 : FF RX10 38 10 19 2 true := ⟨by decide, rfl, (RX10, TX10, 31), rfl, rfl, inG10, by decide, (tw 712 (by decide +kernel) (by decide +kernel)), rfl, rfl, nmX10, tyX10, tyX10_ok, fun h => absurd h (by decide), fun h => absurd h (by decide), fun _ => rfl⟩
theorem ffX10_41 : FF RX10 41 10 21 2 true := ⟨by decide, rfl, (RX10, TX10, 31), rfl, rfl, inG10, by decide, (tw 714 (by decide +kernel) (by decide +kernel)), rfl, rfl, nmX10, tyX10, tyX10_ok, fun h => absurd h (by decide), fun h => absurd h (by decide), fun _ => rfl⟩
theorem ffX10_44 : FF RX10 44 10 23 2 true := ⟨by decide, rfl, (RX10, TX10, 31), rfl, rfl, inG10, by decide, (tw 716 (by decide +kernel) (by decide +kernel)), rfl, rfl, nmX10, tyX10, tyX10_ok, fun h => absurd h (by decide), fun h => absurd h (by decide), fun _ => rfl⟩
theorem lkX10_48 : Cond.methodLink RX10 48 yX10_in ∈ lw_good := (tw 791 (by decide +kernel) (by decide +kernel))
theorem mvX10_in : MV false yX10_in cX10_in 3 (some .boolean) 3 := ⟨(tw 793 (by decide +kernel) (by decide +kernel)), (tw 69 (by decide +kernel) (by decide +kernel)), ⟨by decide, by decide⟩, by decide +kernel, ⟨fun h => (by cases h), fun _ => (tw 792 (by decide +kernel) (by decide +kernel))⟩⟩
theorem ffX10_52 : FF RX10 52 10 9 0 false := ⟨by decide, rfl, (RX10, TX10, 31), rfl, rfl, inG10, by decide, (tw 702 (by decide +kernel) (by decide +kernel)), rfl, rfl, nmX10, tyX10, tyX10_ok, fun _ => rfl, fun h => absurd h (by decide), fun h => absurd h (by decide)⟩
theorem ffX10_56 : FF RX10 56 10 11 0 false := ⟨by decide, rfl, (RX10, TX10, 31), rfl, rfl, inG10, by decide, (tw 704 (by decide +kernel) (by decide +kernel)), rfl, rfl, nmX10, tyX10, tyX10_ok, fun _ => rfl, fun h => absurd h (by decide), fun h => absurd h (by decide)⟩
theorem ffX10_72 : FF RX10 72 10 14 0 false := ⟨by decide, rfl, (RX10, TX10, 31), rfl, rfl, inG10, by decide, (tw 707 (by decide +kernel) (by decide +kernel)), rfl, rfl, nmX10, tyX10, tyX10_ok, fun _ => rfl, fun h => absurd h (by decide), fun h => absurd h (by decide)⟩
theorem ffX10_65 : FF RX10 65 10 13 0 false := ⟨by decide, rfl, (RX10, TX10, 31), rfl, rfl, inG10, by decide, (tw 706 (by decide +kernel) (by decide +kernel)), rfl, rfl, nmX10, tyX10, tyX10_ok, fun _ => rfl, fun h => absurd h (by decide), fun h => absurd h (by decide)⟩
theorem ffX10_62 : FF RX10 62 10 12 0 false := ⟨by decide, rfl, (RX10, TX10, 31), rfl, rfl, inG10, by decide, (tw 705 (by decide +kernel) (by decide +kernel)), rfl, rfl, nmX10, tyX10, tyX10_ok, fun _ => rfl, fun h => absurd h (by decide), fun h => absurd h (by decide)⟩
theorem lkX10_68 : Cond.methodLink RX10 68 yX10_isFigure ∈ lw_good := (tw 810 (by decide +kernel) (by decide +kernel))
theorem mvX10_isFigure : MV true yX10_isFigure cX10_isFigure 1 (some .boolean) 0 := ⟨(tw 813 (by decide +kernel) (by decide +kernel)), (tw 69 (by decide +kernel) (by decide +kernel)), ⟨by decide, by decide⟩, by decide +kernel, ⟨fun _ => (tw 812 (by decide +kernel) (by decide +kernel)), fun h => by cases h⟩⟩
theorem seX10_isFigure : Cond.selects RX10 yX10_isFigure yX10_isFigure ∈ lw_good := (tw 26 (by decide +kernel) (by decide +kernel))
theorem lkX10_59 : Cond.methodLink RX10 59 yX10_blanks ∈ lw_good := (tw 802 (by decide +kernel) (by decide +kernel))
theorem mvX10_blanks : MV true yX10_blanks cX10_blanks 1 none 0 := ⟨(tw 805 (by decide +kernel) (by decide +kernel)), (tw 69 (by decide +kernel) (by decide +kernel)), ⟨by decide, by decide⟩, by decide +kernel, ⟨fun _ => (tw 804 (by decide +kernel) (by decide +kernel)), fun h => by cases h⟩⟩
theorem seX10_blanks : Cond.selects RX10 yX10_blanks yX10_blanks ∈ lw_good := (tw 24 (by decide +kernel) (by decide +kernel))
theorem ffX10_75 : FF RX10 75 10 15 0 false := ⟨by decide, rfl, (RX10, TX10, 31), rfl, rfl, inG10, by decide, (tw 708 (by decide +kernel) (by decide +kernel)), rfl, rfl, nmX10, tyX10, tyX10_ok, fun _ => rfl, fun h => absurd h (by decide), fun h => absurd h (by decide)⟩
theorem lkX10_81 : Cond.methodLink RX10 81 yX10_fails ∈ lw_good := (tw 818 (by decide +kernel) (by decide +kernel))
theorem mvX10_fails : MV true yX10_fails cX10_fails 1 (some .boolean) 0 := ⟨(tw 821 (by decide +kernel) (by decide +kernel)), (tw 69 (by decide +kernel) (by decide +kernel)), ⟨by decide, by decide⟩, by decide +kernel, ⟨fun _ => (tw 820 (by decide +kernel) (by decide +kernel)), fun h => by cases h⟩⟩
theorem seX10_fails : Cond.selects RX10 yX10_fails yX10_fails ∈ lw_good := (tw 28 (by decide +kernel) (by decide +kernel))
theorem lkX10_78 : Cond.methodLink RX10 78 yX10_next ∈ lw_good := (tw 806 (by decide +kernel) (by decide +kernel))
theorem mvX10_next : MV true yX10_next cX10_next 1 none 0 := ⟨(tw 809 (by decide +kernel) (by decide +kernel)), (tw 69 (by decide +kernel) (by decide +kernel)), ⟨by decide, by decide⟩, by decide +kernel, ⟨fun _ => (tw 808 (by decide +kernel) (by decide +kernel)), fun h => by cases h⟩⟩
theorem seX10_next : Cond.selects RX10 yX10_next yX10_next ∈ lw_good := (tw 25 (by decide +kernel) (by decide +kernel))
theorem ffX10_84 : FF RX10 84 10 16 0 false := ⟨by decide, rfl, (RX10, TX10, 31), rfl, rfl, inG10, by decide, (tw 709 (by decide +kernel) (by decide +kernel)), rfl, rfl, nmX10, tyX10, tyX10_ok, fun _ => rfl, fun h => absurd h (by decide), fun h => absurd h (by decide)⟩
theorem lkX10_87 : Cond.methodLink RX10 87 yX10_number ∈ lw_good := (tw 822 (by decide +kernel) (by decide +kernel))
theorem mvX10_number : MV true yX10_number cX10_number 2 (some .boolean) 1 := ⟨(tw 825 (by decide +kernel) (by decide +kernel)), (tw 69 (by decide +kernel) (by decide +kernel)), ⟨by decide, by decide⟩, by decide +kernel, ⟨fun _ => (tw 824 (by decide +kernel) (by decide +kernel)), fun h => by cases h⟩⟩
theorem seX10_number : Cond.selects RX10 yX10_number yX10_number ∈ lw_good := (tw 29 (by decide +kernel) (by decide +kernel))
theorem lkX10_91 : Cond.methodLink RX10 91 yX10_clockOf ∈ lw_good := (tw 826 (by decide +kernel) (by decide +kernel))
theorem mvX10_clockOf : MV false yX10_clockOf cX10_clockOf 1 (some .int) 1 := ⟨(tw 828 (by decide +kernel) (by decide +kernel)), (tw 69 (by decide +kernel) (by decide +kernel)), ⟨by decide, by decide⟩, by decide +kernel, ⟨fun h => (by cases h), fun _ => (tw 827 (by decide +kernel) (by decide +kernel))⟩⟩
theorem lkX10_95 : Cond.methodLink RX10 95 yX10_ends ∈ lw_good := (tw 829 (by decide +kernel) (by decide +kernel))
theorem mvX10_ends : MV true yX10_ends cX10_ends 1 (some .boolean) 0 := ⟨(tw 832 (by decide +kernel) (by decide +kernel)), (tw 69 (by decide +kernel) (by decide +kernel)), ⟨by decide, by decide⟩, by decide +kernel, ⟨fun _ => (tw 831 (by decide +kernel) (by decide +kernel)), fun h => by cases h⟩⟩
theorem seX10_ends : Cond.selects RX10 yX10_ends yX10_ends ∈ lw_good := (tw 30 (by decide +kernel) (by decide +kernel))
theorem ffX10_107 : FF RX10 107 10 4 0 false := ⟨by decide, rfl, (RX10, TX10, 31), rfl, rfl, inG10, by decide, (tw 697 (by decide +kernel) (by decide +kernel)), rfl, rfl, nmX10, tyX10, tyX10_ok, fun _ => rfl, fun h => absurd h (by decide), fun h => absurd h (by decide)⟩
theorem ffX10_104 : FF RX10 104 10 0 0 false := ⟨by decide, rfl, (RX10, TX10, 31), rfl, rfl, inG10, by decide, (tw 693 (by decide +kernel) (by decide +kernel)), rfl, rfl, nmX10, tyX10, tyX10_ok, fun _ => rfl, fun h => absurd h (by decide), fun h => absurd h (by decide)⟩
theorem lkX10_101 : Cond.methodLink RX10 101 yX10_readsReading ∈ lw_good := (tw 833 (by decide +kernel) (by decide +kernel))
theorem mvX10_readsReading : MV true yX10_readsReading cX10_readsReading 1 (some .boolean) 0 := ⟨(tw 836 (by decide +kernel) (by decide +kernel)), (tw 69 (by decide +kernel) (by decide +kernel)), ⟨by decide, by decide⟩, by decide +kernel, ⟨fun _ => (tw 835 (by decide +kernel) (by decide +kernel)), fun h => by cases h⟩⟩
theorem seX10_readsReading : Cond.selects RX10 yX10_readsReading yX10_readsReading ∈ lw_good := (tw 31 (by decide +kernel) (by decide +kernel))
theorem lkX10_98 : Cond.methodLink RX10 98 yX10_readsStation ∈ lw_good := (tw 814 (by decide +kernel) (by decide +kernel))
theorem mvX10_readsStation : MV true yX10_readsStation cX10_readsStation 1 (some .boolean) 0 := ⟨(tw 817 (by decide +kernel) (by decide +kernel)), (tw 69 (by decide +kernel) (by decide +kernel)), ⟨by decide, by decide⟩, by decide +kernel, ⟨fun _ => (tw 816 (by decide +kernel) (by decide +kernel)), fun h => by cases h⟩⟩
theorem seX10_readsStation : Cond.selects RX10 yX10_readsStation yX10_readsStation ∈ lw_good := (tw 27 (by decide +kernel) (by decide +kernel))
theorem lkX10_138 : Cond.methodLink RX10 138 yX10_isStation ∈ lw_good := (tw 841 (by decide +kernel) (by decide +kernel))
theorem mvX10_isStation : MV true yX10_isStation cX10_isStation 2 (some .boolean) 1 := ⟨(tw 844 (by decide +kernel) (by decide +kernel)), (tw 69 (by decide +kernel) (by decide +kernel)), ⟨by decide, by decide⟩, by decide +kernel, ⟨fun _ => (tw 843 (by decide +kernel) (by decide +kernel)), fun h => by cases h⟩⟩
theorem seX10_isStation : Cond.selects RX10 yX10_isStation yX10_isStation ∈ lw_good := (tw 32 (by decide +kernel) (by decide +kernel))
theorem lkX10_110 : Cond.methodLink RX10 110 yX10_timeOf ∈ lw_good := (tw 854 (by decide +kernel) (by decide +kernel))
theorem mvX10_timeOf : MV true yX10_timeOf cX10_timeOf 3 (some .int) 1 := ⟨(tw 857 (by decide +kernel) (by decide +kernel)), (tw 69 (by decide +kernel) (by decide +kernel)), ⟨by decide, by decide⟩, by decide +kernel, ⟨fun _ => (tw 856 (by decide +kernel) (by decide +kernel)), fun h => by cases h⟩⟩
theorem seX10_timeOf : Cond.selects RX10 yX10_timeOf yX10_timeOf ∈ lw_good := (tw 34 (by decide +kernel) (by decide +kernel))
theorem lkX10_113 : Cond.methodLink RX10 113 yX10_square ∈ lw_good := (tw 877 (by decide +kernel) (by decide +kernel))
theorem mvX10_square : MV false yX10_square cX10_square 1 (some .int) 1 := ⟨(tw 879 (by decide +kernel) (by decide +kernel)), (tw 69 (by decide +kernel) (by decide +kernel)), ⟨by decide, by decide⟩, by decide +kernel, ⟨fun h => (by cases h), fun _ => (tw 878 (by decide +kernel) (by decide +kernel))⟩⟩
theorem lkX10_116 : Cond.methodLink RX10 116 yX10_xOf ∈ lw_good := (tw 880 (by decide +kernel) (by decide +kernel))
theorem mvX10_xOf : MV true yX10_xOf cX10_xOf 2 (some .int) 1 := ⟨(tw 883 (by decide +kernel) (by decide +kernel)), (tw 69 (by decide +kernel) (by decide +kernel)), ⟨by decide, by decide⟩, by decide +kernel, ⟨fun _ => (tw 882 (by decide +kernel) (by decide +kernel)), fun h => by cases h⟩⟩
theorem seX10_xOf : Cond.selects RX10 yX10_xOf yX10_xOf ∈ lw_good := (tw 39 (by decide +kernel) (by decide +kernel))
theorem lkX10_119 : Cond.methodLink RX10 119 yX10_yOf ∈ lw_good := (tw 884 (by decide +kernel) (by decide +kernel))
theorem mvX10_yOf : MV true yX10_yOf cX10_yOf 2 (some .int) 1 := ⟨(tw 887 (by decide +kernel) (by decide +kernel)), (tw 69 (by decide +kernel) (by decide +kernel)), ⟨by decide, by decide⟩, by decide +kernel, ⟨fun _ => (tw 886 (by decide +kernel) (by decide +kernel)), fun h => by cases h⟩⟩
theorem seX10_yOf : Cond.selects RX10 yX10_yOf yX10_yOf ∈ lw_good := (tw 40 (by decide +kernel) (by decide +kernel))
theorem lkX10_125 : Cond.methodLink RX10 125 yX10_has ∈ lw_good := (tw 866 (by decide +kernel) (by decide +kernel))
theorem mvX10_has : MV false yX10_has cX10_has 2 (some .boolean) 2 := ⟨(tw 868 (by decide +kernel) (by decide +kernel)), (tw 69 (by decide +kernel) (by decide +kernel)), ⟨by decide, by decide⟩, by decide +kernel, ⟨fun h => (by cases h), fun _ => (tw 867 (by decide +kernel) (by decide +kernel))⟩⟩
theorem lkX10_132 : Cond.methodLink RX10 132 yX10_isTogether ∈ lw_good := (tw 873 (by decide +kernel) (by decide +kernel))
theorem mvX10_isTogether : MV true yX10_isTogether cX10_isTogether 3 (some .boolean) 2 := ⟨(tw 876 (by decide +kernel) (by decide +kernel)), (tw 69 (by decide +kernel) (by decide +kernel)), ⟨by decide, by decide⟩, by decide +kernel, ⟨fun _ => (tw 875 (by decide +kernel) (by decide +kernel)), fun h => by cases h⟩⟩
theorem seX10_isTogether : Cond.selects RX10 yX10_isTogether yX10_isTogether ∈ lw_good := (tw 38 (by decide +kernel) (by decide +kernel))
theorem ffX10_122 : FF RX10 122 10 20 0 false := ⟨by decide, rfl, (RX10, TX10, 31), rfl, rfl, inG10, by decide, (tw 713 (by decide +kernel) (by decide +kernel)), rfl, rfl, nmX10, tyX10, tyX10_ok, fun _ => rfl, fun h => absurd h (by decide), fun h => absurd h (by decide)⟩
theorem lkX10_129 : Cond.methodLink RX10 129 yX10_isAhead ∈ lw_good := (tw 869 (by decide +kernel) (by decide +kernel))
theorem mvX10_isAhead : MV true yX10_isAhead cX10_isAhead 4 (some .boolean) 2 := ⟨(tw 872 (by decide +kernel) (by decide +kernel)), (tw 69 (by decide +kernel) (by decide +kernel)), ⟨by decide, by decide⟩, by decide +kernel, ⟨fun _ => (tw 871 (by decide +kernel) (by decide +kernel)), fun h => by cases h⟩⟩
theorem seX10_isAhead : Cond.selects RX10 yX10_isAhead yX10_isAhead ∈ lw_good := (tw 37 (by decide +kernel) (by decide +kernel))
theorem lkX10_135 : Cond.methodLink RX10 135 yX10_layGroups ∈ lw_good := (tw 862 (by decide +kernel) (by decide +kernel))
theorem mvX10_layGroups : MV true yX10_layGroups cX10_layGroups 8 none 0 := ⟨(tw 865 (by decide +kernel) (by decide +kernel)), (tw 69 (by decide +kernel) (by decide +kernel)), ⟨by decide, by decide⟩, by decide +kernel, ⟨fun _ => (tw 864 (by decide +kernel) (by decide +kernel)), fun h => by cases h⟩⟩
theorem seX10_layGroups : Cond.selects RX10 yX10_layGroups yX10_layGroups ∈ lw_good := (tw 36 (by decide +kernel) (by decide +kernel))
theorem cwX10_144 : Cond.constant RX10 144 (-1000000000) ∈ lw_good := (tw 853 (by decide +kernel) (by decide +kernel))
theorem lkX10_141 : Cond.methodLink RX10 141 yX10_isReading ∈ lw_good := (tw 849 (by decide +kernel) (by decide +kernel))
theorem mvX10_isReading : MV true yX10_isReading cX10_isReading 2 (some .boolean) 1 := ⟨(tw 852 (by decide +kernel) (by decide +kernel)), (tw 69 (by decide +kernel) (by decide +kernel)), ⟨by decide, by decide⟩, by decide +kernel, ⟨fun _ => (tw 851 (by decide +kernel) (by decide +kernel)), fun h => by cases h⟩⟩
theorem seX10_isReading : Cond.selects RX10 yX10_isReading yX10_isReading ∈ lw_good := (tw 33 (by decide +kernel) (by decide +kernel))
theorem lkX10_145 : Cond.methodLink RX10 145 yX10_groupOf ∈ lw_good := (tw 858 (by decide +kernel) (by decide +kernel))
theorem mvX10_groupOf : MV true yX10_groupOf cX10_groupOf 3 (some .int) 1 := ⟨(tw 861 (by decide +kernel) (by decide +kernel)), (tw 69 (by decide +kernel) (by decide +kernel)), ⟨by decide, by decide⟩, by decide +kernel, ⟨fun _ => (tw 860 (by decide +kernel) (by decide +kernel)), fun h => by cases h⟩⟩
theorem seX10_groupOf : Cond.selects RX10 yX10_groupOf yX10_groupOf ∈ lw_good := (tw 35 (by decide +kernel) (by decide +kernel))
theorem ffX10_148 : FF RX10 148 10 5 0 false := ⟨by decide, rfl, (RX10, TX10, 31), rfl, rfl, inG10, by decide, (tw 698 (by decide +kernel) (by decide +kernel)), rfl, rfl, nmX10, tyX10, tyX10_ok, fun _ => rfl, fun h => absurd h (by decide), fun h => absurd h (by decide)⟩
theorem lkX10_151 : Cond.methodLink RX10 151 yX10_remember ∈ lw_good := (tw 892 (by decide +kernel) (by decide +kernel))
theorem mvX10_remember : MV true yX10_remember cX10_remember 2 none 0 := ⟨(tw 895 (by decide +kernel) (by decide +kernel)), (tw 69 (by decide +kernel) (by decide +kernel)), ⟨by decide, by decide⟩, by decide +kernel, ⟨fun _ => (tw 894 (by decide +kernel) (by decide +kernel)), fun h => by cases h⟩⟩
theorem seX10_remember : Cond.selects RX10 yX10_remember yX10_remember ∈ lw_good := (tw 41 (by decide +kernel) (by decide +kernel))
theorem ffX10_154 : FF RX10 154 10 22 0 false := ⟨by decide, rfl, (RX10, TX10, 31), rfl, rfl, inG10, by decide, (tw 715 (by decide +kernel) (by decide +kernel)), rfl, rfl, nmX10, tyX10, tyX10_ok, fun _ => rfl, fun h => absurd h (by decide), fun h => absurd h (by decide)⟩
theorem lkX10_157 : Cond.methodLink RX10 157 yX10_firstOf ∈ lw_good := (tw 924 (by decide +kernel) (by decide +kernel))
theorem mvX10_firstOf : MV true yX10_firstOf cX10_firstOf 3 (some .int) 1 := ⟨(tw 927 (by decide +kernel) (by decide +kernel)), (tw 69 (by decide +kernel) (by decide +kernel)), ⟨by decide, by decide⟩, by decide +kernel, ⟨fun _ => (tw 926 (by decide +kernel) (by decide +kernel)), fun h => by cases h⟩⟩
theorem seX10_firstOf : Cond.selects RX10 yX10_firstOf yX10_firstOf ∈ lw_good := (tw 45 (by decide +kernel) (by decide +kernel))
theorem lkX10_160 : Cond.methodLink RX10 160 yX10_cellAt ∈ lw_good := (tw 928 (by decide +kernel) (by decide +kernel))
theorem mvX10_cellAt : MV true yX10_cellAt cX10_cellAt 3 (some .long) 2 := ⟨(tw 931 (by decide +kernel) (by decide +kernel)), (tw 69 (by decide +kernel) (by decide +kernel)), ⟨by decide, by decide⟩, by decide +kernel, ⟨fun _ => (tw 930 (by decide +kernel) (by decide +kernel)), fun h => by cases h⟩⟩
theorem seX10_cellAt : Cond.selects RX10 yX10_cellAt yX10_cellAt ∈ lw_good := (tw 46 (by decide +kernel) (by decide +kernel))
theorem lkX10_172 : Cond.methodLink RX10 172 yX10_three ∈ lw_good := (tw 936 (by decide +kernel) (by decide +kernel))
theorem mvX10_three : MV true yX10_three cX10_three 7 (some .long) 6 := ⟨(tw 939 (by decide +kernel) (by decide +kernel)), (tw 69 (by decide +kernel) (by decide +kernel)), ⟨by decide, by decide⟩, by decide +kernel, ⟨fun _ => (tw 938 (by decide +kernel) (by decide +kernel)), fun h => by cases h⟩⟩
theorem seX10_three : Cond.selects RX10 yX10_three yX10_three ∈ lw_good := (tw 48 (by decide +kernel) (by decide +kernel))
theorem lkX10_168 : Cond.methodLink RX10 168 yX10_two ∈ lw_good := (tw 932 (by decide +kernel) (by decide +kernel))
theorem mvX10_two : MV true yX10_two cX10_two 5 (some .long) 4 := ⟨(tw 935 (by decide +kernel) (by decide +kernel)), (tw 69 (by decide +kernel) (by decide +kernel)), ⟨by decide, by decide⟩, by decide +kernel, ⟨fun _ => (tw 934 (by decide +kernel) (by decide +kernel)), fun h => by cases h⟩⟩
theorem seX10_two : Cond.selects RX10 yX10_two yX10_two ∈ lw_good := (tw 47 (by decide +kernel) (by decide +kernel))
theorem lkX10_164 : Cond.methodLink RX10 164 yX10_layRows ∈ lw_good := (tw 920 (by decide +kernel) (by decide +kernel))
theorem mvX10_layRows : MV true yX10_layRows cX10_layRows 5 none 1 := ⟨(tw 923 (by decide +kernel) (by decide +kernel)), (tw 69 (by decide +kernel) (by decide +kernel)), ⟨by decide, by decide⟩, by decide +kernel, ⟨fun _ => (tw 922 (by decide +kernel) (by decide +kernel)), fun h => by cases h⟩⟩
theorem seX10_layRows : Cond.selects RX10 yX10_layRows yX10_layRows ∈ lw_good := (tw 44 (by decide +kernel) (by decide +kernel))
theorem ffX10_178 : FF RX10 178 10 27 1 false := ⟨by decide, rfl, (RX10, TX10, 31), rfl, rfl, inG10, by decide, (tw 720 (by decide +kernel) (by decide +kernel)), rfl, rfl, nmX10, tyX10, tyX10_ok, fun h => absurd h (by decide), fun _ => rfl, fun h => absurd h (by decide)⟩
theorem ffX10_182 : FF RX10 182 10 24 1 false := ⟨by decide, rfl, (RX10, TX10, 31), rfl, rfl, inG10, by decide, (tw 717 (by decide +kernel) (by decide +kernel)), rfl, rfl, nmX10, tyX10, tyX10_ok, fun h => absurd h (by decide), fun _ => rfl, fun h => absurd h (by decide)⟩
theorem ffX10_185 : FF RX10 185 10 25 1 false := ⟨by decide, rfl, (RX10, TX10, 31), rfl, rfl, inG10, by decide, (tw 718 (by decide +kernel) (by decide +kernel)), rfl, rfl, nmX10, tyX10, tyX10_ok, fun h => absurd h (by decide), fun _ => rfl, fun h => absurd h (by decide)⟩
theorem ffX10_188 : FF RX10 188 10 26 1 false := ⟨by decide, rfl, (RX10, TX10, 31), rfl, rfl, inG10, by decide, (tw 719 (by decide +kernel) (by decide +kernel)), rfl, rfl, nmX10, tyX10, tyX10_ok, fun h => absurd h (by decide), fun _ => rfl, fun h => absurd h (by decide)⟩
theorem cwX10_176 : Cond.constantLong RX10 176 (-1) ∈ lw_good := (tw 948 (by decide +kernel) (by decide +kernel))
theorem lkX10_191 : Cond.methodLink RX10 191 yX10_rankOf ∈ lw_good := (tw 916 (by decide +kernel) (by decide +kernel))
theorem mvX10_rankOf : MV true yX10_rankOf cX10_rankOf 9 (some .int) 1 := ⟨(tw 919 (by decide +kernel) (by decide +kernel)), (tw 69 (by decide +kernel) (by decide +kernel)), ⟨by decide, by decide⟩, by decide +kernel, ⟨fun _ => (tw 918 (by decide +kernel) (by decide +kernel)), fun h => by cases h⟩⟩
theorem seX10_rankOf : Cond.selects RX10 yX10_rankOf yX10_rankOf ∈ lw_good := (tw 43 (by decide +kernel) (by decide +kernel))
theorem lkX10_197 : Cond.methodLink RX10 197 yX10_solves ∈ lw_good := (tw 944 (by decide +kernel) (by decide +kernel))
theorem mvX10_solves : MV true yX10_solves cX10_solves 8 none 0 := ⟨(tw 947 (by decide +kernel) (by decide +kernel)), (tw 69 (by decide +kernel) (by decide +kernel)), ⟨by decide, by decide⟩, by decide +kernel, ⟨fun _ => (tw 946 (by decide +kernel) (by decide +kernel)), fun h => by cases h⟩⟩
theorem seX10_solves : Cond.selects RX10 yX10_solves yX10_solves ∈ lw_good := (tw 50 (by decide +kernel) (by decide +kernel))
theorem lkX10_200 : Cond.methodLink RX10 200 yX10_isFilled ∈ lw_good := (tw 949 (by decide +kernel) (by decide +kernel))
theorem mvX10_isFilled : MV true yX10_isFilled cX10_isFilled 3 (some .boolean) 0 := ⟨(tw 952 (by decide +kernel) (by decide +kernel)), (tw 69 (by decide +kernel) (by decide +kernel)), ⟨by decide, by decide⟩, by decide +kernel, ⟨fun _ => (tw 951 (by decide +kernel) (by decide +kernel)), fun h => by cases h⟩⟩
theorem seX10_isFilled : Cond.selects RX10 yX10_isFilled yX10_isFilled ∈ lw_good := (tw 51 (by decide +kernel) (by decide +kernel))
theorem lkX10_203 : Cond.methodLink RX10 203 yX10_differs ∈ lw_good := (tw 953 (by decide +kernel) (by decide +kernel))
theorem mvX10_differs : MV true yX10_differs cX10_differs 8 (some .long) 1 := ⟨(tw 956 (by decide +kernel) (by decide +kernel)), (tw 69 (by decide +kernel) (by decide +kernel)), ⟨by decide, by decide⟩, by decide +kernel, ⟨fun _ => (tw 955 (by decide +kernel) (by decide +kernel)), fun h => by cases h⟩⟩
theorem seX10_differs : Cond.selects RX10 yX10_differs yX10_differs ∈ lw_good := (tw 52 (by decide +kernel) (by decide +kernel))
theorem lkX10_194 : Cond.methodLink RX10 194 yX10_isOpen ∈ lw_good := (tw 940 (by decide +kernel) (by decide +kernel))
theorem mvX10_isOpen : MV true yX10_isOpen cX10_isOpen 7 (some .boolean) 1 := ⟨(tw 943 (by decide +kernel) (by decide +kernel)), (tw 69 (by decide +kernel) (by decide +kernel)), ⟨by decide, by decide⟩, by decide +kernel, ⟨fun _ => (tw 942 (by decide +kernel) (by decide +kernel)), fun h => by cases h⟩⟩
theorem seX10_isOpen : Cond.selects RX10 yX10_isOpen yX10_isOpen ∈ lw_good := (tw 49 (by decide +kernel) (by decide +kernel))
theorem lkX10_207 : Cond.methodLink RX10 207 yX10_verdictOf ∈ lw_good := (tw 912 (by decide +kernel) (by decide +kernel))
theorem mvX10_verdictOf : MV true yX10_verdictOf cX10_verdictOf 4 (some .int) 1 := ⟨(tw 915 (by decide +kernel) (by decide +kernel)), (tw 69 (by decide +kernel) (by decide +kernel)), ⟨by decide, by decide⟩, by decide +kernel, ⟨fun _ => (tw 914 (by decide +kernel) (by decide +kernel)), fun h => by cases h⟩⟩
theorem seX10_verdictOf : Cond.selects RX10 yX10_verdictOf yX10_verdictOf ∈ lw_good := (tw 42 (by decide +kernel) (by decide +kernel))
theorem lkX10_210 : Cond.methodLink RX10 210 yX10_bits ∈ lw_good := (tw 965 (by decide +kernel) (by decide +kernel))
theorem mvX10_bits : MV false yX10_bits cX10_bits 3 (some .int) 1 := ⟨(tw 967 (by decide +kernel) (by decide +kernel)), (tw 69 (by decide +kernel) (by decide +kernel)), ⟨by decide, by decide⟩, by decide +kernel, ⟨fun h => (by cases h), fun _ => (tw 966 (by decide +kernel) (by decide +kernel))⟩⟩
theorem cwX10_213 : Cond.constantLong RX10 213 (999999999) ∈ lw_good := (tw 976 (by decide +kernel) (by decide +kernel))
theorem cwX10_215 : Cond.constant RX10 215 (999999999) ∈ lw_good := (tw 977 (by decide +kernel) (by decide +kernel))
theorem ffX10_219 : FF RX10 219 10 28 0 false := ⟨by decide, rfl, (RX10, TX10, 31), rfl, rfl, inG10, by decide, (tw 721 (by decide +kernel) (by decide +kernel)), rfl, rfl, nmX10, tyX10, tyX10_ok, fun _ => rfl, fun h => absurd h (by decide), fun h => absurd h (by decide)⟩
theorem lkX10_216 : Cond.methodLink RX10 216 yX10_worstOf ∈ lw_good := (tw 972 (by decide +kernel) (by decide +kernel))
theorem mvX10_worstOf : MV true yX10_worstOf cX10_worstOf 7 (some .int) 1 := ⟨(tw 975 (by decide +kernel) (by decide +kernel)), (tw 69 (by decide +kernel) (by decide +kernel)), ⟨by decide, by decide⟩, by decide +kernel, ⟨fun _ => (tw 974 (by decide +kernel) (by decide +kernel)), fun h => by cases h⟩⟩
theorem seX10_worstOf : Cond.selects RX10 yX10_worstOf yX10_worstOf ∈ lw_good := (tw 55 (by decide +kernel) (by decide +kernel))
theorem ffX10_222 : FF RX10 222 10 29 0 false := ⟨by decide, rfl, (RX10, TX10, 31), rfl, rfl, inG10, by decide, (tw 722 (by decide +kernel) (by decide +kernel)), rfl, rfl, nmX10, tyX10, tyX10_ok, fun _ => rfl, fun h => absurd h (by decide), fun h => absurd h (by decide)⟩
theorem ffX10_225 : FF RX10 225 10 30 0 false := ⟨by decide, rfl, (RX10, TX10, 31), rfl, rfl, inG10, by decide, (tw 723 (by decide +kernel) (by decide +kernel)), rfl, rfl, nmX10, tyX10, tyX10_ok, fun _ => rfl, fun h => absurd h (by decide), fun h => absurd h (by decide)⟩
theorem lkX10_228 : Cond.methodLink RX10 228 yX10_root ∈ lw_good := (tw 982 (by decide +kernel) (by decide +kernel))
theorem mvX10_root : MV false yX10_root cX10_root 2 (some .int) 1 := ⟨(tw 984 (by decide +kernel) (by decide +kernel)), (tw 69 (by decide +kernel) (by decide +kernel)), ⟨by decide, by decide⟩, by decide +kernel, ⟨fun h => (by cases h), fun _ => (tw 983 (by decide +kernel) (by decide +kernel))⟩⟩
theorem lkX10_231 : Cond.methodLink RX10 231 yX10_outOf ∈ lw_good := (tw 961 (by decide +kernel) (by decide +kernel))
theorem mvX10_outOf : MV true yX10_outOf cX10_outOf 4 (some .int) 1 := ⟨(tw 964 (by decide +kernel) (by decide +kernel)), (tw 69 (by decide +kernel) (by decide +kernel)), ⟨by decide, by decide⟩, by decide +kernel, ⟨fun _ => (tw 963 (by decide +kernel) (by decide +kernel)), fun h => by cases h⟩⟩
theorem seX10_outOf : Cond.selects RX10 yX10_outOf yX10_outOf ∈ lw_good := (tw 53 (by decide +kernel) (by decide +kernel))
theorem lkX10_234 : Cond.methodLink RX10 234 yX10_fourOf ∈ lw_good := (tw 968 (by decide +kernel) (by decide +kernel))
theorem mvX10_fourOf : MV true yX10_fourOf cX10_fourOf 5 (some .int) 1 := ⟨(tw 971 (by decide +kernel) (by decide +kernel)), (tw 69 (by decide +kernel) (by decide +kernel)), ⟨by decide, by decide⟩, by decide +kernel, ⟨fun _ => (tw 970 (by decide +kernel) (by decide +kernel)), fun h => by cases h⟩⟩
theorem seX10_fourOf : Cond.selects RX10 yX10_fourOf yX10_fourOf ∈ lw_good := (tw 54 (by decide +kernel) (by decide +kernel))
theorem lkX10_237 : Cond.methodLink RX10 237 yX10_layCan ∈ lw_good := (tw 978 (by decide +kernel) (by decide +kernel))
theorem mvX10_layCan : MV true yX10_layCan cX10_layCan 10 none 1 := ⟨(tw 981 (by decide +kernel) (by decide +kernel)), (tw 69 (by decide +kernel) (by decide +kernel)), ⟨by decide, by decide⟩, by decide +kernel, ⟨fun _ => (tw 980 (by decide +kernel) (by decide +kernel)), fun h => by cases h⟩⟩
theorem seX10_layCan : Cond.selects RX10 yX10_layCan yX10_layCan ∈ lw_good := (tw 56 (by decide +kernel) (by decide +kernel))
theorem lkX10_240 : Cond.methodLink RX10 240 yX10_lowest ∈ lw_good := (tw 989 (by decide +kernel) (by decide +kernel))
theorem mvX10_lowest : MV false yX10_lowest cX10_lowest 11 (some .int) 3 := ⟨(tw 991 (by decide +kernel) (by decide +kernel)), (tw 69 (by decide +kernel) (by decide +kernel)), ⟨by decide, by decide⟩, by decide +kernel, ⟨fun h => (by cases h), fun _ => (tw 990 (by decide +kernel) (by decide +kernel))⟩⟩
theorem cwX10_244 : Cond.constantLong RX10 244 (10) ∈ lw_good := (tw 1000 (by decide +kernel) (by decide +kernel))
theorem lkX10_246 : Cond.methodLink RX10 246 yX10_sureMany ∈ lw_good := (tw 1013 (by decide +kernel) (by decide +kernel))
theorem mvX10_sureMany : MV true yX10_sureMany cX10_sureMany 3 (some .int) 0 := ⟨(tw 1016 (by decide +kernel) (by decide +kernel)), (tw 69 (by decide +kernel) (by decide +kernel)), ⟨by decide, by decide⟩, by decide +kernel, ⟨fun _ => (tw 1015 (by decide +kernel) (by decide +kernel)), fun h => by cases h⟩⟩
theorem seX10_sureMany : Cond.selects RX10 yX10_sureMany yX10_sureMany ∈ lw_good := (tw 57 (by decide +kernel) (by decide +kernel))
end
section
def mX8_init (S0 : SH) (me : ME) (o : Nat) : Option (SH × ME) :=
  (nwA (S0.1.length + 1, sO S0 + 110) S0 me 11 (110 : Int32)).bind fun p2 =>
  (sR p2.1 8 0 o S0.1.length).bind fun S4 =>
  some (S4, p2.2)
set_option maxRecDepth 100000 in
set_option maxHeartbeats 4000000 in
theorem kX8_init (l : Launch) (D : va_G) (b : Nat) {S0 : SH} {me : ME} {o : Nat} {q : SH × ME} (hM : mX8_init S0 me o = some q) (hz : q.1.1.length = S0.1.length + 1 ∧ sO q.1 = sO S0 + 110) : Ct l D b yX8_init cX8_init 1 none 1 12 1 110 [.ref (b + o)] S0 me q.1 q.2 none := by
  refine ct_of (own := RX8) (nm := "<init>") (lv := [(0, .ref (b + o))]) (plainFor_of_name (by decide)) rfl rfl (Nat.le_of_ble_eq_true rfl) rfl hz (fun X cx ex hL => ?_)
  unfold mX8_init at hM
  refine ws_aload_n cx dX8_init_0 rfl (j := 0) rfl ?_
  refine ws_objInit cx lkX8_3 wOI wOC ⟨by decide, by decide⟩ dX8_init_1 ?_
  refine ws_aload_n cx dX8_init_4 rfl (j := 0) rfl ?_
  refine ws_bipush cx dX8_init_5 (v := 110) (by decide) ?_
  obtain ⟨p2, h1, hM⟩ := bnd hM
  refine ws_newaM cx hL (c := 11) (a := .int) ⟨rfl, by decide⟩ wAint h1 dX8_init_7 ?_
  obtain ⟨S4, h3, hM⟩ := bnd hM
  refine ws_putR cx ffX8_9 (Or.inr ⟨rfl, fun q h => by cases h; rfl⟩) h3 dX8_init_9 ?_
  exact ws_vretC cx ex hM dX8_init_12

def mX6_init (S0 : SH) (me : ME) (o : Nat) : Option (SH × ME) :=
  (nwA (S0.1.length + 2, sO S0 + 12) S0 me 11 (6 : Int32)).bind fun p2 =>
  (sR p2.1 6 0 o S0.1.length).bind fun S4 =>
  (nwA (S0.1.length + 2, sO S0 + 12) S4 p2.2 11 (6 : Int32)).bind fun p6 =>
  (sR p6.1 6 1 o S4.1.length).bind fun S8 =>
  some (S8, p6.2)
set_option maxRecDepth 100000 in
set_option maxHeartbeats 4000000 in
theorem kX6_init (l : Launch) (D : va_G) (b : Nat) {S0 : SH} {me : ME} {o : Nat} {q : SH × ME} (hM : mX6_init S0 me o = some q) (hz : q.1.1.length = S0.1.length + 2 ∧ sO q.1 = sO S0 + 12) : Ct l D b yX6_init cX6_init 1 none 1 12 2 12 [.ref (b + o)] S0 me q.1 q.2 none := by
  refine ct_of (own := RX6) (nm := "<init>") (lv := [(0, .ref (b + o))]) (plainFor_of_name (by decide)) rfl rfl (Nat.le_of_ble_eq_true rfl) rfl hz (fun X cx ex hL => ?_)
  unfold mX6_init at hM
  refine ws_aload_n cx dX6_init_0 rfl (j := 0) rfl ?_
  refine ws_objInit cx lkX6_3 wOI wOC ⟨by decide, by decide⟩ dX6_init_1 ?_
  refine ws_aload_n cx dX6_init_4 rfl (j := 0) rfl ?_
  refine ws_bipush cx dX6_init_5 (v := 6) (by decide) ?_
  obtain ⟨p2, h1, hM⟩ := bnd hM
  refine ws_newaM cx hL (c := 11) (a := .int) ⟨rfl, by decide⟩ wAint h1 dX6_init_7 ?_
  obtain ⟨S4, h3, hM⟩ := bnd hM
  refine ws_putR cx ffX6_9 (Or.inr ⟨rfl, fun q h => by cases h; rfl⟩) h3 dX6_init_9 ?_
  refine ws_aload_n cx dX6_init_12 rfl (j := 0) rfl ?_
  refine ws_bipush cx dX6_init_13 (v := 6) (by decide) ?_
  obtain ⟨p6, h5, hM⟩ := bnd hM
  refine ws_newaM cx hL (c := 11) (a := .int) ⟨rfl, by decide⟩ wAint h5 dX6_init_15 ?_
  obtain ⟨S8, h7, hM⟩ := bnd hM
  refine ws_putR cx ffX6_15 (Or.inr ⟨rfl, fun q h => by cases h; rfl⟩) h7 dX6_init_17 ?_
  exact ws_vretC cx ex hM dX6_init_20

def mX2_init (S0 : SH) (me : ME) (o : Nat) : Option (SH × ME) :=
  (nwA (S0.1.length + 3, sO S0 + 24) S0 me 11 (9 : Int32)).bind fun p2 =>
  (sR p2.1 2 0 o S0.1.length).bind fun S4 =>
  (nwA (S0.1.length + 3, sO S0 + 24) S4 p2.2 11 (9 : Int32)).bind fun p6 =>
  (sR p6.1 2 1 o S4.1.length).bind fun S8 =>
  (nwA (S0.1.length + 3, sO S0 + 24) S8 p6.2 11 (6 : Int32)).bind fun p10 =>
  (sR p10.1 2 2 o S8.1.length).bind fun S12 =>
  some (S12, p10.2)
set_option maxRecDepth 100000 in
set_option maxHeartbeats 4000000 in
theorem kX2_init (l : Launch) (D : va_G) (b : Nat) {S0 : SH} {me : ME} {o : Nat} {q : SH × ME} (hM : mX2_init S0 me o = some q) (hz : q.1.1.length = S0.1.length + 3 ∧ sO q.1 = sO S0 + 24) : Ct l D b yX2_init cX2_init 1 none 1 12 3 24 [.ref (b + o)] S0 me q.1 q.2 none := by
  refine ct_of (own := RX2) (nm := "<init>") (lv := [(0, .ref (b + o))]) (plainFor_of_name (by decide)) rfl rfl (Nat.le_of_ble_eq_true rfl) rfl hz (fun X cx ex hL => ?_)
  unfold mX2_init at hM
  refine ws_aload_n cx dX2_init_0 rfl (j := 0) rfl ?_
  refine ws_objInit cx lkX2_3 wOI wOC ⟨by decide, by decide⟩ dX2_init_1 ?_
  refine ws_aload_n cx dX2_init_4 rfl (j := 0) rfl ?_
  refine ws_bipush cx dX2_init_5 (v := 9) (by decide) ?_
  obtain ⟨p2, h1, hM⟩ := bnd hM
  refine ws_newaM cx hL (c := 11) (a := .int) ⟨rfl, by decide⟩ wAint h1 dX2_init_7 ?_
  obtain ⟨S4, h3, hM⟩ := bnd hM
  refine ws_putR cx ffX2_9 (Or.inr ⟨rfl, fun q h => by cases h; rfl⟩) h3 dX2_init_9 ?_
  refine ws_aload_n cx dX2_init_12 rfl (j := 0) rfl ?_
  refine ws_bipush cx dX2_init_13 (v := 9) (by decide) ?_
  obtain ⟨p6, h5, hM⟩ := bnd hM
  refine ws_newaM cx hL (c := 11) (a := .int) ⟨rfl, by decide⟩ wAint h5 dX2_init_15 ?_
  obtain ⟨S8, h7, hM⟩ := bnd hM
  refine ws_putR cx ffX2_15 (Or.inr ⟨rfl, fun q h => by cases h; rfl⟩) h7 dX2_init_17 ?_
  refine ws_aload_n cx dX2_init_20 rfl (j := 0) rfl ?_
  refine ws_bipush cx dX2_init_21 (v := 6) (by decide) ?_
  obtain ⟨p10, h9, hM⟩ := bnd hM
  refine ws_newaM cx hL (c := 11) (a := .int) ⟨rfl, by decide⟩ wAint h9 dX2_init_23 ?_
  obtain ⟨S12, h11, hM⟩ := bnd hM
  refine ws_putR cx ffX2_18 (Or.inr ⟨rfl, fun q h => by cases h; rfl⟩) h11 dX2_init_25 ?_
  exact ws_vretC cx ex hM dX2_init_28

def mX3_init (S0 : SH) (me : ME) (o : Nat) : Option (SH × ME) :=
  (nwO (S0.1.length + 7, sO S0 + 43) S0 me 6 3).bind fun p2 =>
  (mX6_init p2.1 p2.2 S0.1.length).bind fun q3 => (ckC (S0.1.length + 7, sO S0 + 43) p2.1 q3.1 2 12).bind fun _ =>
  (sR q3.1 3 0 o S0.1.length).bind fun S7 =>
  (nwO (S0.1.length + 7, sO S0 + 43) S7 q3.2 2 4).bind fun p9 =>
  (mX2_init p9.1 p9.2 S7.1.length).bind fun q10 => (ckC (S0.1.length + 7, sO S0 + 43) p9.1 q10.1 3 24).bind fun _ =>
  (sR q10.1 3 1 o S7.1.length).bind fun S14 =>
  some (S14, q10.2)
set_option maxRecDepth 100000 in
set_option maxHeartbeats 4000000 in
theorem kX3_init (l : Launch) (D : va_G) (b : Nat) {S0 : SH} {me : ME} {o : Nat} {q : SH × ME} (hM : mX3_init S0 me o = some q) (hz : q.1.1.length = S0.1.length + 7 ∧ sO q.1 = sO S0 + 43) : Ct l D b yX3_init cX3_init 1 none 2 32 7 43 [.ref (b + o)] S0 me q.1 q.2 none := by
  refine ct_of (own := RX3) (nm := "<init>") (lv := [(0, .ref (b + o))]) (plainFor_of_name (by decide)) rfl rfl (Nat.le_of_ble_eq_true rfl) rfl hz (fun X cx ex hL => ?_)
  unfold mX3_init at hM
  refine ws_aload_n cx dX3_init_0 rfl (j := 0) rfl ?_
  refine ws_objInit cx lkX3_3 wOI wOC ⟨by decide, by decide⟩ dX3_init_1 ?_
  refine ws_aload_n cx dX3_init_4 rfl (j := 0) rfl ?_
  obtain ⟨p2, h1, hM⟩ := bnd hM
  refine ws_newM cx hL ncX3_9 rfl h1 dX3_init_5 ?_
  refine ws_dup cx dX3_init_8 rfl ?_
  obtain ⟨q3, h4, hM⟩ := bnd hM
  obtain ⟨_, h5, hM⟩ := bnd hM
  have h5 := ckC_s h5
  refine ws_callIN cx (rest := [.ref (b + S0.1.length), .ref (b + o)]) (kX6_init l D b h4 h5.1) mvX6_init rfl lnX3_11 rfl ⟨by decide, by decide⟩ (Nat.le_of_ble_eq_true rfl) h5.1 (Or.inr ⟨_, hL, h5.2⟩) rfl dX3_init_9 ?_
  obtain ⟨S7, h6, hM⟩ := bnd hM
  refine ws_putR cx ffX3_12 (Or.inr ⟨rfl, fun q h => by cases h; rfl⟩) h6 dX3_init_12 ?_
  refine ws_aload_n cx dX3_init_15 rfl (j := 0) rfl ?_
  obtain ⟨p9, h8, hM⟩ := bnd hM
  refine ws_newM cx hL ncX3_18 rfl h8 dX3_init_16 ?_
  refine ws_dup cx dX3_init_19 rfl ?_
  obtain ⟨q10, h11, hM⟩ := bnd hM
  obtain ⟨_, h12, hM⟩ := bnd hM
  have h12 := ckC_s h12
  refine ws_callIN cx (rest := [.ref (b + S7.1.length), .ref (b + o)]) (kX2_init l D b h11 h12.1) mvX2_init rfl lnX3_20 rfl ⟨by decide, by decide⟩ (Nat.le_of_ble_eq_true rfl) h12.1 (Or.inr ⟨_, hL, h12.2⟩) rfl dX3_init_20 ?_
  obtain ⟨S14, h13, hM⟩ := bnd hM
  refine ws_putR cx ffX3_21 (Or.inr ⟨rfl, fun q h => by cases h; rfl⟩) h13 dX3_init_23 ?_
  exact ws_vretC cx ex hM dX3_init_26

def mX4_init_j40 (S0 : SH) (o : Nat) (S : SH) (me : ME) : Option (SH × ME) :=
  some (S, me)
def mX4_init_L15 (S0 : SH) (o : Nat) (k15 : (SH × ME × Int32 → Option (SH × ME))) : SH × ME × Int32 → Option (SH × ME)
  | (S, me, x1) =>
    if (10 : Int32) ≤ x1 then
      mX4_init_j40 S0 o S me
    else
      (gR S 4 0 o).bind fun v2 =>
      (nwO (S0.1.length + 41, sO S0 + 290) S me 2 4).bind fun p5 =>
      (mX2_init p5.1 p5.2 S.1.length).bind fun q6 => (ckC (S0.1.length + 41, sO S0 + 290) p5.1 q6.1 3 24).bind fun _ =>
      (uR q6.1 v2 x1 S.1.length).bind fun S10 =>
      k15 (S10, q6.2, x1 + (1 : Int32))
def mX4_init (S0 : SH) (me : ME) (o : Nat) : Option (SH × ME) :=
  (nwA (S0.1.length + 41, sO S0 + 290) S0 me 14 (10 : Int32)).bind fun p12 =>
  (sR p12.1 4 0 o S0.1.length).bind fun S14 =>
  lpn (mX4_init_L15 S0 o) lpF (S14, p12.2, (0 : Int32))
set_option maxRecDepth 100000 in
set_option maxHeartbeats 4000000 in
theorem kX4_init (l : Launch) (D : va_G) (b : Nat) {S0 : SH} {me : ME} {o : Nat} {q : SH × ME} (hM : mX4_init S0 me o = some q) (hz : q.1.1.length = S0.1.length + 41 ∧ sO q.1 = sO S0 + 290) : Ct l D b yX4_init cX4_init 2 none 2 32 41 290 [.ref (b + o)] S0 me q.1 q.2 none := by
  refine ct_of (own := RX4) (nm := "<init>") (lv := [(0, .ref (b + o))]) (plainFor_of_name (by decide)) rfl rfl (Nat.le_of_ble_eq_true rfl) rfl hz (fun X cx ex hL => ?_)
  have J40 : ∀ (S : SH) (me : ME), mX4_init_j40 S0 o S me = some q → WS X b 2 S me 40 [] [] := by
    intro  S me hM
    unfold mX4_init_j40 at hM
    exact ws_vretC cx ex hM dX4_init_40
  have L15 : ∀ (n : Nat) (S : SH) (me : ME) (x1 : Int32), lpn (mX4_init_L15 S0 o) n (S, me, x1) = some q → WS X b 2 S me 15 [(0, .ref (b + o)), (1, .int x1)] [] := by
    intro  n
    induction n with
    | zero => intro S me x1 hM; exact absurd hM (by intro h; cases h)
    | succ n ih =>
      intro S me x1 hM
      have hM : mX4_init_L15 S0 o (lpn (mX4_init_L15 S0 o) n) (S, me, x1) = some q := hM
      unfold mX4_init_L15 at hM
      refine ws_iload_n cx dX4_init_15 rfl (j := 1) rfl ?_
      refine ws_bipush cx dX4_init_16 (v := 10) (by decide) ?_
      refine ws_icmp_ge cx dX4_init_18 (tgt := 40) (by decide) (fun c1 => ?_) (fun c1 => ?_)
      · have hM := if_t hM c1
        refine ws_sub [] (lv' := []) rfl ?_
        exact J40 _ _ hM
      · have hM := if_f hM c1
        refine ws_aload_n cx dX4_init_21 rfl (j := 0) rfl ?_
        obtain ⟨v2, h3, hM⟩ := bnd hM
        refine ws_getR cx ffX4_11 h3 dX4_init_22 ?_
        refine ws_iload_n cx dX4_init_25 rfl (j := 1) rfl ?_
        obtain ⟨p5, h4, hM⟩ := bnd hM
        refine ws_newM cx hL ncX4_9 rfl h4 dX4_init_26 ?_
        refine ws_dup cx dX4_init_29 rfl ?_
        obtain ⟨q6, h7, hM⟩ := bnd hM
        obtain ⟨_, h8, hM⟩ := bnd hM
        have h8 := ckC_s h8
        refine ws_callIN cx (rest := [.ref (b + S.1.length), .int x1, .ref (b + v2)]) (kX2_init l D b h7 h8.1) mvX2_init rfl lnX4_17 rfl ⟨by decide, by decide⟩ (Nat.le_of_ble_eq_true rfl) h8.1 (Or.inr ⟨_, hL, h8.2⟩) rfl dX4_init_30 ?_
        obtain ⟨S10, h9, hM⟩ := bnd hM
        refine ws_aast cx h9 dX4_init_33 ?_
        refine ws_iinc cx dX4_init_34 (j := 1) rfl (v := x1 + (1 : Int32)) rfl (by decide) (lv' := [(1, .int (x1 + (1 : Int32))), (0, .ref (b + o))]) rfl ?_
        refine ws_goto cx dX4_init_37 (tgt := 15) (by decide) ?_
        refine ws_sub [1, 0] (lv' := [(0, .ref (b + o)), (1, .int (x1 + (1 : Int32)))]) rfl ?_
        exact ih _ _ _ hM
  unfold mX4_init at hM
  refine ws_aload_n cx dX4_init_0 rfl (j := 0) rfl ?_
  refine ws_objInit cx lkX4_3 wOI wOC ⟨by decide, by decide⟩ dX4_init_1 ?_
  refine ws_aload_n cx dX4_init_4 rfl (j := 0) rfl ?_
  refine ws_bipush cx dX4_init_5 (v := 10) (by decide) ?_
  obtain ⟨p12, h11, hM⟩ := bnd hM
  refine ws_anewM cx hL wOLog clX4_9 h11 dX4_init_7 ?_
  obtain ⟨S14, h13, hM⟩ := bnd hM
  refine ws_putR cx ffX4_11 (Or.inr ⟨rfl, fun q h => by cases h; rfl⟩) h13 dX4_init_10 ?_
  refine ws_iconst cx dX4_init_13 (v := 0) (by decide) ?_
  refine ws_istore_n cx dX4_init_14 rfl (by decide) (lv' := [(1, .int (0 : Int32)), (0, .ref (b + o))]) rfl ?_
  refine ws_sub [1, 0] (lv' := [(0, .ref (b + o)), (1, .int (0 : Int32))]) rfl ?_
  exact L15 _ _ _ _ hM

def mX5_init (S0 : SH) (me : ME) (o : Nat) : Option (SH × ME) :=
  (nwA (S0.1.length + 4, sO S0 + 36) S0 me 11 (9 : Int32)).bind fun p2 =>
  (sR p2.1 5 0 o S0.1.length).bind fun S4 =>
  (nwA (S0.1.length + 4, sO S0 + 36) S4 p2.2 11 (9 : Int32)).bind fun p6 =>
  (sR p6.1 5 1 o S4.1.length).bind fun S8 =>
  (nwA (S0.1.length + 4, sO S0 + 36) S8 p6.2 11 (9 : Int32)).bind fun p10 =>
  (sR p10.1 5 2 o S8.1.length).bind fun S12 =>
  (nwA (S0.1.length + 4, sO S0 + 36) S12 p10.2 11 (9 : Int32)).bind fun p14 =>
  (sR p14.1 5 3 o S12.1.length).bind fun S16 =>
  some (S16, p14.2)
set_option maxRecDepth 100000 in
set_option maxHeartbeats 4000000 in
theorem kX5_init (l : Launch) (D : va_G) (b : Nat) {S0 : SH} {me : ME} {o : Nat} {q : SH × ME} (hM : mX5_init S0 me o = some q) (hz : q.1.1.length = S0.1.length + 4 ∧ sO q.1 = sO S0 + 36) : Ct l D b yX5_init cX5_init 1 none 1 12 4 36 [.ref (b + o)] S0 me q.1 q.2 none := by
  refine ct_of (own := RX5) (nm := "<init>") (lv := [(0, .ref (b + o))]) (plainFor_of_name (by decide)) rfl rfl (Nat.le_of_ble_eq_true rfl) rfl hz (fun X cx ex hL => ?_)
  unfold mX5_init at hM
  refine ws_aload_n cx dX5_init_0 rfl (j := 0) rfl ?_
  refine ws_objInit cx lkX5_3 wOI wOC ⟨by decide, by decide⟩ dX5_init_1 ?_
  refine ws_aload_n cx dX5_init_4 rfl (j := 0) rfl ?_
  refine ws_bipush cx dX5_init_5 (v := 9) (by decide) ?_
  obtain ⟨p2, h1, hM⟩ := bnd hM
  refine ws_newaM cx hL (c := 11) (a := .int) ⟨rfl, by decide⟩ wAint h1 dX5_init_7 ?_
  obtain ⟨S4, h3, hM⟩ := bnd hM
  refine ws_putR cx ffX5_9 (Or.inr ⟨rfl, fun q h => by cases h; rfl⟩) h3 dX5_init_9 ?_
  refine ws_aload_n cx dX5_init_12 rfl (j := 0) rfl ?_
  refine ws_bipush cx dX5_init_13 (v := 9) (by decide) ?_
  obtain ⟨p6, h5, hM⟩ := bnd hM
  refine ws_newaM cx hL (c := 11) (a := .int) ⟨rfl, by decide⟩ wAint h5 dX5_init_15 ?_
  obtain ⟨S8, h7, hM⟩ := bnd hM
  refine ws_putR cx ffX5_15 (Or.inr ⟨rfl, fun q h => by cases h; rfl⟩) h7 dX5_init_17 ?_
  refine ws_aload_n cx dX5_init_20 rfl (j := 0) rfl ?_
  refine ws_bipush cx dX5_init_21 (v := 9) (by decide) ?_
  obtain ⟨p10, h9, hM⟩ := bnd hM
  refine ws_newaM cx hL (c := 11) (a := .int) ⟨rfl, by decide⟩ wAint h9 dX5_init_23 ?_
  obtain ⟨S12, h11, hM⟩ := bnd hM
  refine ws_putR cx ffX5_18 (Or.inr ⟨rfl, fun q h => by cases h; rfl⟩) h11 dX5_init_25 ?_
  refine ws_aload_n cx dX5_init_28 rfl (j := 0) rfl ?_
  refine ws_bipush cx dX5_init_29 (v := 9) (by decide) ?_
  obtain ⟨p14, h13, hM⟩ := bnd hM
  refine ws_newaM cx hL (c := 11) (a := .int) ⟨rfl, by decide⟩ wAint h13 dX5_init_31 ?_
  obtain ⟨S16, h15, hM⟩ := bnd hM
  refine ws_putR cx ffX5_21 (Or.inr ⟨rfl, fun q h => by cases h; rfl⟩) h15 dX5_init_33 ?_
  exact ws_vretC cx ex hM dX5_init_36

def mX1_init (S0 : SH) (me : ME) (o : Nat) : Option (SH × ME) :=
  (nwA (S0.1.length + 3, sO S0 + 27) S0 me 11 (9 : Int32)).bind fun p2 =>
  (sR p2.1 1 0 o S0.1.length).bind fun S4 =>
  (nwA (S0.1.length + 3, sO S0 + 27) S4 p2.2 11 (9 : Int32)).bind fun p6 =>
  (sR p6.1 1 1 o S4.1.length).bind fun S8 =>
  (nwA (S0.1.length + 3, sO S0 + 27) S8 p6.2 11 (9 : Int32)).bind fun p10 =>
  (sR p10.1 1 3 o S8.1.length).bind fun S12 =>
  some (S12, p10.2)
set_option maxRecDepth 100000 in
set_option maxHeartbeats 4000000 in
theorem kX1_init (l : Launch) (D : va_G) (b : Nat) {S0 : SH} {me : ME} {o : Nat} {q : SH × ME} (hM : mX1_init S0 me o = some q) (hz : q.1.1.length = S0.1.length + 3 ∧ sO q.1 = sO S0 + 27) : Ct l D b yX1_init cX1_init 1 none 1 12 3 27 [.ref (b + o)] S0 me q.1 q.2 none := by
  refine ct_of (own := RX1) (nm := "<init>") (lv := [(0, .ref (b + o))]) (plainFor_of_name (by decide)) rfl rfl (Nat.le_of_ble_eq_true rfl) rfl hz (fun X cx ex hL => ?_)
  unfold mX1_init at hM
  refine ws_aload_n cx dX1_init_0 rfl (j := 0) rfl ?_
  refine ws_objInit cx lkX1_3 wOI wOC ⟨by decide, by decide⟩ dX1_init_1 ?_
  refine ws_aload_n cx dX1_init_4 rfl (j := 0) rfl ?_
  refine ws_bipush cx dX1_init_5 (v := 9) (by decide) ?_
  obtain ⟨p2, h1, hM⟩ := bnd hM
  refine ws_newaM cx hL (c := 11) (a := .int) ⟨rfl, by decide⟩ wAint h1 dX1_init_7 ?_
  obtain ⟨S4, h3, hM⟩ := bnd hM
  refine ws_putR cx ffX1_9 (Or.inr ⟨rfl, fun q h => by cases h; rfl⟩) h3 dX1_init_9 ?_
  refine ws_aload_n cx dX1_init_12 rfl (j := 0) rfl ?_
  refine ws_bipush cx dX1_init_13 (v := 9) (by decide) ?_
  obtain ⟨p6, h5, hM⟩ := bnd hM
  refine ws_newaM cx hL (c := 11) (a := .int) ⟨rfl, by decide⟩ wAint h5 dX1_init_15 ?_
  obtain ⟨S8, h7, hM⟩ := bnd hM
  refine ws_putR cx ffX1_15 (Or.inr ⟨rfl, fun q h => by cases h; rfl⟩) h7 dX1_init_17 ?_
  refine ws_aload_n cx dX1_init_20 rfl (j := 0) rfl ?_
  refine ws_bipush cx dX1_init_21 (v := 9) (by decide) ?_
  obtain ⟨p10, h9, hM⟩ := bnd hM
  refine ws_newaM cx hL (c := 11) (a := .int) ⟨rfl, by decide⟩ wAint h9 dX1_init_23 ?_
  obtain ⟨S12, h11, hM⟩ := bnd hM
  refine ws_putR cx ffX1_18 (Or.inr ⟨rfl, fun q h => by cases h; rfl⟩) h11 dX1_init_25 ?_
  exact ws_vretC cx ex hM dX1_init_28

def mX7_init (S0 : SH) (me : ME) (o : Nat) (a0 : Nat) : Option (SH × ME) :=
  (nwG (S0.1.length + 10, sO S0 + 45) S0 me (9 : Int32) (4 : Int32)).bind fun p2 =>
  (sR p2.1 7 1 o S0.1.length).bind fun S4 =>
  (sR S4 7 0 o a0).bind fun S6 =>
  some (S6, p2.2)
set_option maxRecDepth 100000 in
set_option maxHeartbeats 4000000 in
theorem kX7_init (l : Launch) (D : va_G) (b : Nat) {S0 : SH} {me : ME} {o : Nat} {a0 : Nat} {q : SH × ME} (hM : mX7_init S0 me o a0 = some q) (hz : q.1.1.length = S0.1.length + 10 ∧ sO q.1 = sO S0 + 45) : Ct l D b yX7_init cX7_init 2 none 1 12 10 45 [.ref (b + o), .ref (b + a0)] S0 me q.1 q.2 none := by
  refine ct_of (own := RX7) (nm := "<init>") (lv := [(0, .ref (b + o)), (1, .ref (b + a0))]) (plainFor_of_name (by decide)) rfl rfl (Nat.le_of_ble_eq_true rfl) rfl hz (fun X cx ex hL => ?_)
  unfold mX7_init at hM
  refine ws_aload_n cx dX7_init_0 rfl (j := 0) rfl ?_
  refine ws_objInit cx lkX7_3 wOI wOC ⟨by decide, by decide⟩ dX7_init_1 ?_
  refine ws_aload_n cx dX7_init_4 rfl (j := 0) rfl ?_
  refine ws_bipush cx dX7_init_5 (v := 9) (by decide) ?_
  refine ws_iconst cx dX7_init_7 (v := 4) (by decide) ?_
  obtain ⟨p2, h1, hM⟩ := bnd hM
  refine ws_mnaM cx hL wOArr wAlong clX7_11 h1 dX7_init_8 ?_
  obtain ⟨S4, h3, hM⟩ := bnd hM
  refine ws_putR cx ffX7_13 (Or.inr ⟨rfl, fun q h => by cases h; rfl⟩) h3 dX7_init_12 ?_
  refine ws_aload_n cx dX7_init_15 rfl (j := 0) rfl ?_
  refine ws_aload_n cx dX7_init_16 rfl (j := 1) rfl ?_
  obtain ⟨S6, h5, hM⟩ := bnd hM
  refine ws_putR cx ffX7_16 (Or.inr ⟨rfl, fun q h => by cases h; rfl⟩) h5 dX7_init_17 ?_
  exact ws_vretC cx ex hM dX7_init_20

def mX0_init (S0 : SH) (me : ME) (o : Nat) (a0 : Nat) (a1 : Nat) : Option (SH × ME) :=
  (sR S0 0 0 o a0).bind fun S2 =>
  (sR S2 0 1 o a1).bind fun S4 =>
  some (S4, me)
set_option maxRecDepth 100000 in
set_option maxHeartbeats 4000000 in
theorem kX0_init (l : Launch) (D : va_G) (b : Nat) {S0 : SH} {me : ME} {o : Nat} {a0 : Nat} {a1 : Nat} {q : SH × ME} (hM : mX0_init S0 me o a0 a1 = some q) (hz : q.1.1.length = S0.1.length + 0 ∧ sO q.1 = sO S0 + 0) : Ct l D b yX0_init cX0_init 3 none 1 12 0 0 [.ref (b + o), .ref (b + a0), .ref (b + a1)] S0 me q.1 q.2 none := by
  refine ct_of (own := RX0) (nm := "<init>") (lv := [(0, .ref (b + o)), (1, .ref (b + a0)), (2, .ref (b + a1))]) (plainFor_of_name (by decide)) rfl rfl (Nat.le_of_ble_eq_true rfl) rfl hz (fun X cx ex hL => ?_)
  unfold mX0_init at hM
  refine ws_aload_n cx dX0_init_0 rfl (j := 0) rfl ?_
  refine ws_objInit cx lkX0_3 wOI wOC ⟨by decide, by decide⟩ dX0_init_1 ?_
  refine ws_aload_n cx dX0_init_4 rfl (j := 0) rfl ?_
  refine ws_aload_n cx dX0_init_5 rfl (j := 1) rfl ?_
  obtain ⟨S2, h1, hM⟩ := bnd hM
  refine ws_putR cx ffX0_9 (Or.inr ⟨rfl, fun q h => by cases h; rfl⟩) h1 dX0_init_6 ?_
  refine ws_aload_n cx dX0_init_9 rfl (j := 0) rfl ?_
  refine ws_aload_n cx dX0_init_10 rfl (j := 2) rfl ?_
  obtain ⟨S4, h3, hM⟩ := bnd hM
  refine ws_putR cx ffX0_15 (Or.inr ⟨rfl, fun q h => by cases h; rfl⟩) h3 dX0_init_11 ?_
  exact ws_vretC cx ex hM dX0_init_14

def mX9_init_j156 (S0 : SH) (o : Nat) (S : SH) (me : ME) : Option (SH × ME) :=
  some (S, me)
def mX9_init_L132 (S0 : SH) (o : Nat) (k132 : (SH × ME × Int32 → Option (SH × ME))) : SH × ME × Int32 → Option (SH × ME)
  | (S, me, x1) =>
    if (2 : Int32) ≤ x1 then
      mX9_init_j156 S0 o S me
    else
      (gR S 9 5 o).bind fun v2 =>
      (nwO (S0.1.length + 90, sO S0 + 689) S me 2 4).bind fun p5 =>
      (mX2_init p5.1 p5.2 S.1.length).bind fun q6 => (ckC (S0.1.length + 90, sO S0 + 689) p5.1 q6.1 3 24).bind fun _ =>
      (uR q6.1 v2 x1 S.1.length).bind fun S10 =>
      k132 (S10, q6.2, x1 + (1 : Int32))
def mX9_init (S0 : SH) (me : ME) (o : Nat) : Option (SH × ME) :=
  (nwO (S0.1.length + 90, sO S0 + 689) S0 me 8 2).bind fun p12 =>
  (mX8_init p12.1 p12.2 S0.1.length).bind fun q13 => (ckC (S0.1.length + 90, sO S0 + 689) p12.1 q13.1 1 110).bind fun _ =>
  (sR q13.1 9 0 o S0.1.length).bind fun S17 =>
  (nwO (S0.1.length + 90, sO S0 + 689) S17 q13.2 3 7).bind fun p19 =>
  (mX3_init p19.1 p19.2 S17.1.length).bind fun q20 => (ckC (S0.1.length + 90, sO S0 + 689) p19.1 q20.1 7 43).bind fun _ =>
  (sR q20.1 9 1 o S17.1.length).bind fun S24 =>
  (nwO (S0.1.length + 90, sO S0 + 689) S24 q20.2 6 3).bind fun p26 =>
  (mX6_init p26.1 p26.2 S24.1.length).bind fun q27 => (ckC (S0.1.length + 90, sO S0 + 689) p26.1 q27.1 2 12).bind fun _ =>
  (sR q27.1 9 2 o S24.1.length).bind fun S31 =>
  (nwO (S0.1.length + 90, sO S0 + 689) S31 q27.2 2 4).bind fun p33 =>
  (mX2_init p33.1 p33.2 S31.1.length).bind fun q34 => (ckC (S0.1.length + 90, sO S0 + 689) p33.1 q34.1 3 24).bind fun _ =>
  (sR q34.1 9 3 o S31.1.length).bind fun S38 =>
  (nwO (S0.1.length + 90, sO S0 + 689) S38 q34.2 4 3).bind fun p40 =>
  (mX4_init p40.1 p40.2 S38.1.length).bind fun q41 => (ckC (S0.1.length + 90, sO S0 + 689) p40.1 q41.1 41 290).bind fun _ =>
  (sR q41.1 9 4 o S38.1.length).bind fun S45 =>
  (nwA (S0.1.length + 90, sO S0 + 689) S45 q41.2 14 (2 : Int32)).bind fun p47 =>
  (sR p47.1 9 5 o S45.1.length).bind fun S49 =>
  (nwA (S0.1.length + 90, sO S0 + 689) S49 p47.2 13 (2 : Int32)).bind fun p51 =>
  (sR p51.1 9 6 o S49.1.length).bind fun S53 =>
  (nwO (S0.1.length + 90, sO S0 + 689) S53 p51.2 5 5).bind fun p55 =>
  (mX5_init p55.1 p55.2 S53.1.length).bind fun q56 => (ckC (S0.1.length + 90, sO S0 + 689) p55.1 q56.1 4 36).bind fun _ =>
  (sR q56.1 9 7 o S53.1.length).bind fun S60 =>
  (nwO (S0.1.length + 90, sO S0 + 689) S60 q56.2 1 4).bind fun p62 =>
  (mX1_init p62.1 p62.2 S60.1.length).bind fun q63 => (ckC (S0.1.length + 90, sO S0 + 689) p62.1 q63.1 3 27).bind fun _ =>
  (sR q63.1 9 8 o S60.1.length).bind fun S67 =>
  (nwO (S0.1.length + 90, sO S0 + 689) S67 q63.2 7 8).bind fun p69 =>
  (gR p69.1 9 7 o).bind fun v70 =>
  (mX7_init p69.1 p69.2 S67.1.length v70).bind fun q72 => (ckC (S0.1.length + 90, sO S0 + 689) p69.1 q72.1 10 45).bind fun _ =>
  (sR q72.1 9 9 o S67.1.length).bind fun S76 =>
  (nwO (S0.1.length + 90, sO S0 + 689) S76 q72.2 0 6).bind fun p78 =>
  (gR p78.1 9 7 o).bind fun v79 =>
  (gR p78.1 9 9 o).bind fun v81 =>
  (mX0_init p78.1 p78.2 S76.1.length v79 v81).bind fun q83 => (ckC (S0.1.length + 90, sO S0 + 689) p78.1 q83.1 0 0).bind fun _ =>
  (sR q83.1 9 10 o S76.1.length).bind fun S87 =>
  lpn (mX9_init_L132 S0 o) lpF (S87, q83.2, (0 : Int32))
set_option maxRecDepth 100000 in
set_option maxHeartbeats 4000000 in
theorem kX9_init (l : Launch) (D : va_G) (b : Nat) {S0 : SH} {me : ME} {o : Nat} {q : SH × ME} (hM : mX9_init S0 me o = some q) (hz : q.1.1.length = S0.1.length + 90 ∧ sO q.1 = sO S0 + 689) : Ct l D b yX9_init cX9_init 2 none 3 53 90 689 [.ref (b + o)] S0 me q.1 q.2 none := by
  refine ct_of (own := RX9) (nm := "<init>") (lv := [(0, .ref (b + o))]) (plainFor_of_name (by decide)) rfl rfl (Nat.le_of_ble_eq_true rfl) rfl hz (fun X cx ex hL => ?_)
  have J156 : ∀ (S : SH) (me : ME), mX9_init_j156 S0 o S me = some q → WS X b 2 S me 156 [] [] := by
    intro  S me hM
    unfold mX9_init_j156 at hM
    exact ws_vretC cx ex hM dX9_init_156
  have L132 : ∀ (n : Nat) (S : SH) (me : ME) (x1 : Int32), lpn (mX9_init_L132 S0 o) n (S, me, x1) = some q → WS X b 2 S me 132 [(0, .ref (b + o)), (1, .int x1)] [] := by
    intro  n
    induction n with
    | zero => intro S me x1 hM; exact absurd hM (by intro h; cases h)
    | succ n ih =>
      intro S me x1 hM
      have hM : mX9_init_L132 S0 o (lpn (mX9_init_L132 S0 o) n) (S, me, x1) = some q := hM
      unfold mX9_init_L132 at hM
      refine ws_iload_n cx dX9_init_132 rfl (j := 1) rfl ?_
      refine ws_iconst cx dX9_init_133 (v := 2) (by decide) ?_
      refine ws_icmp_ge cx dX9_init_134 (tgt := 156) (by decide) (fun c1 => ?_) (fun c1 => ?_)
      · have hM := if_t hM c1
        refine ws_sub [] (lv' := []) rfl ?_
        exact J156 _ _ hM
      · have hM := if_f hM c1
        refine ws_aload_n cx dX9_init_137 rfl (j := 0) rfl ?_
        obtain ⟨v2, h3, hM⟩ := bnd hM
        refine ws_getR cx ffX9_44 h3 dX9_init_138 ?_
        refine ws_iload_n cx dX9_init_141 rfl (j := 1) rfl ?_
        obtain ⟨p5, h4, hM⟩ := bnd hM
        refine ws_newM cx hL ncX9_30 rfl h4 dX9_init_142 ?_
        refine ws_dup cx dX9_init_145 rfl ?_
        obtain ⟨q6, h7, hM⟩ := bnd hM
        obtain ⟨_, h8, hM⟩ := bnd hM
        have h8 := ckC_s h8
        refine ws_callIN cx (rest := [.ref (b + S.1.length), .int x1, .ref (b + v2)]) (kX2_init l D b h7 h8.1) mvX2_init rfl lnX9_32 rfl ⟨by decide, by decide⟩ (Nat.le_of_ble_eq_true rfl) h8.1 (Or.inr ⟨_, hL, h8.2⟩) rfl dX9_init_146 ?_
        obtain ⟨S10, h9, hM⟩ := bnd hM
        refine ws_aast cx h9 dX9_init_149 ?_
        refine ws_iinc cx dX9_init_150 (j := 1) rfl (v := x1 + (1 : Int32)) rfl (by decide) (lv' := [(1, .int (x1 + (1 : Int32))), (0, .ref (b + o))]) rfl ?_
        refine ws_goto cx dX9_init_153 (tgt := 132) (by decide) ?_
        refine ws_sub [1, 0] (lv' := [(0, .ref (b + o)), (1, .int (x1 + (1 : Int32)))]) rfl ?_
        exact ih _ _ _ hM
  unfold mX9_init at hM
  refine ws_aload_n cx dX9_init_0 rfl (j := 0) rfl ?_
  refine ws_objInit cx lkX9_3 wOI wOC ⟨by decide, by decide⟩ dX9_init_1 ?_
  refine ws_aload_n cx dX9_init_4 rfl (j := 0) rfl ?_
  obtain ⟨p12, h11, hM⟩ := bnd hM
  refine ws_newM cx hL ncX9_9 rfl h11 dX9_init_5 ?_
  refine ws_dup cx dX9_init_8 rfl ?_
  obtain ⟨q13, h14, hM⟩ := bnd hM
  obtain ⟨_, h15, hM⟩ := bnd hM
  have h15 := ckC_s h15
  refine ws_callIN cx (rest := [.ref (b + S0.1.length), .ref (b + o)]) (kX8_init l D b h14 h15.1) mvX8_init rfl lnX9_11 rfl ⟨by decide, by decide⟩ (Nat.le_of_ble_eq_true rfl) h15.1 (Or.inr ⟨_, hL, h15.2⟩) rfl dX9_init_9 ?_
  obtain ⟨S17, h16, hM⟩ := bnd hM
  refine ws_putR cx ffX9_12 (Or.inr ⟨rfl, fun q h => by cases h; rfl⟩) h16 dX9_init_12 ?_
  refine ws_aload_n cx dX9_init_15 rfl (j := 0) rfl ?_
  obtain ⟨p19, h18, hM⟩ := bnd hM
  refine ws_newM cx hL ncX9_16 rfl h18 dX9_init_16 ?_
  refine ws_dup cx dX9_init_19 rfl ?_
  obtain ⟨q20, h21, hM⟩ := bnd hM
  obtain ⟨_, h22, hM⟩ := bnd hM
  have h22 := ckC_s h22
  refine ws_callIN cx (rest := [.ref (b + S17.1.length), .ref (b + o)]) (kX3_init l D b h21 h22.1) mvX3_init rfl lnX9_18 rfl ⟨by decide, by decide⟩ (Nat.le_of_ble_eq_true rfl) h22.1 (Or.inr ⟨_, hL, h22.2⟩) rfl dX9_init_20 ?_
  obtain ⟨S24, h23, hM⟩ := bnd hM
  refine ws_putR cx ffX9_19 (Or.inr ⟨rfl, fun q h => by cases h; rfl⟩) h23 dX9_init_23 ?_
  refine ws_aload_n cx dX9_init_26 rfl (j := 0) rfl ?_
  obtain ⟨p26, h25, hM⟩ := bnd hM
  refine ws_newM cx hL ncX9_23 rfl h25 dX9_init_27 ?_
  refine ws_dup cx dX9_init_30 rfl ?_
  obtain ⟨q27, h28, hM⟩ := bnd hM
  obtain ⟨_, h29, hM⟩ := bnd hM
  have h29 := ckC_s h29
  refine ws_callIN cx (rest := [.ref (b + S24.1.length), .ref (b + o)]) (kX6_init l D b h28 h29.1) mvX6_init rfl lnX9_25 rfl ⟨by decide, by decide⟩ (Nat.le_of_ble_eq_true rfl) h29.1 (Or.inr ⟨_, hL, h29.2⟩) rfl dX9_init_31 ?_
  obtain ⟨S31, h30, hM⟩ := bnd hM
  refine ws_putR cx ffX9_26 (Or.inr ⟨rfl, fun q h => by cases h; rfl⟩) h30 dX9_init_34 ?_
  refine ws_aload_n cx dX9_init_37 rfl (j := 0) rfl ?_
  obtain ⟨p33, h32, hM⟩ := bnd hM
  refine ws_newM cx hL ncX9_30 rfl h32 dX9_init_38 ?_
  refine ws_dup cx dX9_init_41 rfl ?_
  obtain ⟨q34, h35, hM⟩ := bnd hM
  obtain ⟨_, h36, hM⟩ := bnd hM
  have h36 := ckC_s h36
  refine ws_callIN cx (rest := [.ref (b + S31.1.length), .ref (b + o)]) (kX2_init l D b h35 h36.1) mvX2_init rfl lnX9_32 rfl ⟨by decide, by decide⟩ (Nat.le_of_ble_eq_true rfl) h36.1 (Or.inr ⟨_, hL, h36.2⟩) rfl dX9_init_42 ?_
  obtain ⟨S38, h37, hM⟩ := bnd hM
  refine ws_putR cx ffX9_33 (Or.inr ⟨rfl, fun q h => by cases h; rfl⟩) h37 dX9_init_45 ?_
  refine ws_aload_n cx dX9_init_48 rfl (j := 0) rfl ?_
  obtain ⟨p40, h39, hM⟩ := bnd hM
  refine ws_newM cx hL ncX9_37 rfl h39 dX9_init_49 ?_
  refine ws_dup cx dX9_init_52 rfl ?_
  obtain ⟨q41, h42, hM⟩ := bnd hM
  obtain ⟨_, h43, hM⟩ := bnd hM
  have h43 := ckC_s h43
  refine ws_callI cx (rest := [.ref (b + S38.1.length), .ref (b + o)]) (kX4_init l D b h42 h43.1) mvX4_init rfl lkX9_39 rfl ⟨by decide, by decide⟩ (Nat.le_of_ble_eq_true rfl) h43.1 (Or.inr ⟨_, hL, h43.2⟩) rfl dX9_init_53 ?_
  obtain ⟨S45, h44, hM⟩ := bnd hM
  refine ws_putR cx ffX9_40 (Or.inr ⟨rfl, fun q h => by cases h; rfl⟩) h44 dX9_init_56 ?_
  refine ws_aload_n cx dX9_init_59 rfl (j := 0) rfl ?_
  refine ws_iconst cx dX9_init_60 (v := 2) (by decide) ?_
  obtain ⟨p47, h46, hM⟩ := bnd hM
  refine ws_anewM cx hL wOLog clX9_30 h46 dX9_init_61 ?_
  obtain ⟨S49, h48, hM⟩ := bnd hM
  refine ws_putR cx ffX9_44 (Or.inr ⟨rfl, fun q h => by cases h; rfl⟩) h48 dX9_init_64 ?_
  refine ws_aload_n cx dX9_init_67 rfl (j := 0) rfl ?_
  refine ws_iconst cx dX9_init_68 (v := 2) (by decide) ?_
  obtain ⟨p51, h50, hM⟩ := bnd hM
  refine ws_newaM cx hL (c := 13) (a := .boolean) ⟨rfl, by decide⟩ wAboolean h50 dX9_init_69 ?_
  obtain ⟨S53, h52, hM⟩ := bnd hM
  refine ws_putR cx ffX9_48 (Or.inr ⟨rfl, fun q h => by cases h; rfl⟩) h52 dX9_init_71 ?_
  refine ws_aload_n cx dX9_init_74 rfl (j := 0) rfl ?_
  obtain ⟨p55, h54, hM⟩ := bnd hM
  refine ws_newM cx hL ncX9_52 rfl h54 dX9_init_75 ?_
  refine ws_dup cx dX9_init_78 rfl ?_
  obtain ⟨q56, h57, hM⟩ := bnd hM
  obtain ⟨_, h58, hM⟩ := bnd hM
  have h58 := ckC_s h58
  refine ws_callIN cx (rest := [.ref (b + S53.1.length), .ref (b + o)]) (kX5_init l D b h57 h58.1) mvX5_init rfl lnX9_54 rfl ⟨by decide, by decide⟩ (Nat.le_of_ble_eq_true rfl) h58.1 (Or.inr ⟨_, hL, h58.2⟩) rfl dX9_init_79 ?_
  obtain ⟨S60, h59, hM⟩ := bnd hM
  refine ws_putR cx ffX9_55 (Or.inr ⟨rfl, fun q h => by cases h; rfl⟩) h59 dX9_init_82 ?_
  refine ws_aload_n cx dX9_init_85 rfl (j := 0) rfl ?_
  obtain ⟨p62, h61, hM⟩ := bnd hM
  refine ws_newM cx hL ncX9_59 rfl h61 dX9_init_86 ?_
  refine ws_dup cx dX9_init_89 rfl ?_
  obtain ⟨q63, h64, hM⟩ := bnd hM
  obtain ⟨_, h65, hM⟩ := bnd hM
  have h65 := ckC_s h65
  refine ws_callIN cx (rest := [.ref (b + S60.1.length), .ref (b + o)]) (kX1_init l D b h64 h65.1) mvX1_init rfl lnX9_61 rfl ⟨by decide, by decide⟩ (Nat.le_of_ble_eq_true rfl) h65.1 (Or.inr ⟨_, hL, h65.2⟩) rfl dX9_init_90 ?_
  obtain ⟨S67, h66, hM⟩ := bnd hM
  refine ws_putR cx ffX9_62 (Or.inr ⟨rfl, fun q h => by cases h; rfl⟩) h66 dX9_init_93 ?_
  refine ws_aload_n cx dX9_init_96 rfl (j := 0) rfl ?_
  obtain ⟨p69, h68, hM⟩ := bnd hM
  refine ws_newM cx hL ncX9_66 rfl h68 dX9_init_97 ?_
  refine ws_dup cx dX9_init_100 rfl ?_
  refine ws_aload_n cx dX9_init_101 rfl (j := 0) rfl ?_
  obtain ⟨v70, h71, hM⟩ := bnd hM
  refine ws_getR cx ffX9_55 h71 dX9_init_102 ?_
  obtain ⟨q72, h73, hM⟩ := bnd hM
  obtain ⟨_, h74, hM⟩ := bnd hM
  have h74 := ckC_s h74
  refine ws_callI cx (rest := [.ref (b + S67.1.length), .ref (b + o)]) (kX7_init l D b h73 h74.1) mvX7_init rfl lkX9_68 rfl ⟨by decide, by decide⟩ (Nat.le_of_ble_eq_true rfl) h74.1 (Or.inr ⟨_, hL, h74.2⟩) rfl dX9_init_105 ?_
  obtain ⟨S76, h75, hM⟩ := bnd hM
  refine ws_putR cx ffX9_71 (Or.inr ⟨rfl, fun q h => by cases h; rfl⟩) h75 dX9_init_108 ?_
  refine ws_aload_n cx dX9_init_111 rfl (j := 0) rfl ?_
  obtain ⟨p78, h77, hM⟩ := bnd hM
  refine ws_newM cx hL ncX9_75 rfl h77 dX9_init_112 ?_
  refine ws_dup cx dX9_init_115 rfl ?_
  refine ws_aload_n cx dX9_init_116 rfl (j := 0) rfl ?_
  obtain ⟨v79, h80, hM⟩ := bnd hM
  refine ws_getR cx ffX9_55 h80 dX9_init_117 ?_
  refine ws_aload_n cx dX9_init_120 rfl (j := 0) rfl ?_
  obtain ⟨v81, h82, hM⟩ := bnd hM
  refine ws_getR cx ffX9_71 h82 dX9_init_121 ?_
  obtain ⟨q83, h84, hM⟩ := bnd hM
  obtain ⟨_, h85, hM⟩ := bnd hM
  have h85 := ckC_s h85
  refine ws_callI cx (rest := [.ref (b + S76.1.length), .ref (b + o)]) (kX0_init l D b h84 h85.1) mvX0_init rfl lkX9_77 rfl ⟨by decide, by decide⟩ (Nat.le_of_ble_eq_true rfl) h85.1 (Or.inr ⟨_, hL, h85.2⟩) rfl dX9_init_124 ?_
  obtain ⟨S87, h86, hM⟩ := bnd hM
  refine ws_putR cx ffX9_80 (Or.inr ⟨rfl, fun q h => by cases h; rfl⟩) h86 dX9_init_127 ?_
  refine ws_iconst cx dX9_init_130 (v := 0) (by decide) ?_
  refine ws_istore_n cx dX9_init_131 rfl (by decide) (lv' := [(1, .int (0 : Int32)), (0, .ref (b + o))]) rfl ?_
  refine ws_sub [1, 0] (lv' := [(0, .ref (b + o)), (1, .int (0 : Int32))]) rfl ?_
  exact L132 _ _ _ _ hM

def mX9_within_j14 (S : SH) (a0 : Int32) (a1 : Int32) (me : ME) (y0 : Int32) : Option (Int32 × ME) :=
  if y0 = 0 ∨ y0 = 1 then some (y0, me) else none
def mX9_within_j13 (S : SH) (a0 : Int32) (a1 : Int32) (me : ME) : Option (Int32 × ME) :=
  mX9_within_j14 S a0 a1 me (0 : Int32)
def mX9_within (S : SH) (me : ME) (a0 : Int32) (a1 : Int32) : Option (Int32 × ME) :=
  if a0 < 0 then
    mX9_within_j13 S a0 a1 me
  else
    if a1 < a0 then
      mX9_within_j13 S a0 a1 me
    else
      mX9_within_j14 S a0 a1 me (1 : Int32)
set_option maxRecDepth 100000 in
set_option maxHeartbeats 4000000 in
theorem kX9_within (l : Launch) (D : va_G) (b : Nat) {S : SH} {me : ME} {a0 : Int32} {a1 : Int32} {q : Int32 × ME} (hM : mX9_within S me a0 a1 = some q) : Ct l D b yX9_within cX9_within 2 (some .boolean) 0 0 0 0 [.int a0, .int a1] S me S q.2 (some (.int q.1)) := by
  refine ct_of (own := RX9) (nm := "within") (lv := [(0, .int a0), (1, .int a1)]) (plainFor_of_name (by decide)) rfl rfl (Nat.le_of_ble_eq_true rfl) rfl ⟨rfl, rfl⟩ (fun X cx ex hL => ?_)
  have J14 : ∀ (me : ME) (y0 : Int32), mX9_within_j14 S a0 a1 me y0 = some q → WS X b 2 S me 14 [] [.int y0] := by
    intro  me y0 hM
    unfold mX9_within_j14 at hM
    obtain ⟨h1, hM⟩ := ite_o hM
    exact ws_zretM cx ex h1 hM dX9_within_14
  have J13 : ∀ (me : ME), mX9_within_j13 S a0 a1 me = some q → WS X b 2 S me 13 [] [] := by
    intro  me hM
    unfold mX9_within_j13 at hM
    refine ws_iconst cx dX9_within_13 (v := 0) (by decide) ?_
    refine ws_sub [] (lv' := []) rfl ?_
    exact J14 _ _ hM
  unfold mX9_within at hM
  refine ws_iload_n cx dX9_within_0 rfl (j := 0) rfl ?_
  refine ws_if_lt cx dX9_within_1 (tgt := 13) (by decide) (fun c2 => ?_) (fun c2 => ?_)
  · have hM := if_t hM c2
    refine ws_sub [] (lv' := []) rfl ?_
    exact J13 _ hM
  · have hM := if_f hM c2
    refine ws_iload_n cx dX9_within_4 rfl (j := 0) rfl ?_
    refine ws_iload_n cx dX9_within_5 rfl (j := 1) rfl ?_
    refine ws_icmp_gt cx dX9_within_6 (tgt := 13) (by decide) (fun c3 => ?_) (fun c3 => ?_)
    · have hM := if_t hM c3
      refine ws_sub [] (lv' := []) rfl ?_
      exact J13 _ hM
    · have hM := if_f hM c3
      refine ws_iconst cx dX9_within_9 (v := 1) (by decide) ?_
      refine ws_goto cx dX9_within_10 (tgt := 14) (by decide) ?_
      refine ws_sub [] (lv' := []) rfl ?_
      exact J14 _ _ hM

def mX8_append (S : SH) (me : ME) (o : Nat) (a0 : Int32) : Option (Int32 × ME) :=
  (gI S me 8 1 o).bind fun v1 =>
  if v1 < (110 : Int32) then
    (gR S 8 0 o).bind fun v4 =>
    (gI S me 8 1 o).bind fun v6 =>
    (uI S me v4 v6 a0).bind fun m9 =>
    (gI S m9 8 1 o).bind fun v10 =>
    (sI S m9 8 1 o (v10 + (1 : Int32))).bind fun m13 =>
    some ((1 : Int32), m13)
  else
    some ((0 : Int32), me)
set_option maxRecDepth 100000 in
set_option maxHeartbeats 4000000 in
theorem kX8_append (l : Launch) (D : va_G) (b : Nat) {S : SH} {me : ME} {o : Nat} {a0 : Int32} {q : Int32 × ME} (hM : mX8_append S me o a0 = some q) : Ct l D b yX8_append cX8_append 2 (some .boolean) 0 0 0 0 [.ref (b + o), .int a0] S me S q.2 (some (.int q.1)) := by
  refine ct_of (own := RX8) (nm := "append") (lv := [(0, .ref (b + o)), (1, .int a0)]) (plainFor_of_name (by decide)) rfl rfl (Nat.le_of_ble_eq_true rfl) rfl ⟨rfl, rfl⟩ (fun X cx ex hL => ?_)
  unfold mX8_append at hM
  refine ws_aload_n cx dX8_append_0 rfl (j := 0) rfl ?_
  obtain ⟨v1, h2, hM⟩ := bnd hM
  refine ws_getI cx ffX8_15 h2 dX8_append_1 ?_
  refine ws_bipush cx dX8_append_4 (v := 110) (by decide) ?_
  refine ws_icmp_lt cx dX8_append_6 (tgt := 11) (by decide) (fun c3 => ?_) (fun c3 => ?_)
  · have hM := if_t hM c3
    refine ws_aload_n cx dX8_append_11 rfl (j := 0) rfl ?_
    obtain ⟨v4, h5, hM⟩ := bnd hM
    refine ws_getR cx ffX8_9 h5 dX8_append_12 ?_
    refine ws_aload_n cx dX8_append_15 rfl (j := 0) rfl ?_
    obtain ⟨v6, h7, hM⟩ := bnd hM
    refine ws_getI cx ffX8_15 h7 dX8_append_16 ?_
    refine ws_iload_n cx dX8_append_19 rfl (j := 1) rfl ?_
    obtain ⟨m9, h8, hM⟩ := bnd hM
    refine ws_iast cx h8 dX8_append_20 ?_
    refine ws_aload_n cx dX8_append_21 rfl (j := 0) rfl ?_
    refine ws_dup cx dX8_append_22 rfl ?_
    obtain ⟨v10, h11, hM⟩ := bnd hM
    refine ws_getI cx ffX8_15 h11 dX8_append_23 ?_
    refine ws_iconst cx dX8_append_26 (v := 1) (by decide) ?_
    refine ws_iadd cx dX8_append_27 ?_
    obtain ⟨m13, h12, hM⟩ := bnd hM
    refine ws_putI cx ffX8_15 h12 dX8_append_28 ?_
    refine ws_iconst cx dX8_append_31 (v := 1) (by decide) ?_
    exact ws_zretM cx ex (by decide) hM dX8_append_32
  · have hM := if_f hM c3
    refine ws_iconst cx dX8_append_9 (v := 0) (by decide) ?_
    exact ws_zretM cx ex (by decide) hM dX8_append_10

def mX9_type_j35 (S : SH) (o : Nat) (a0 : Int32) (me : ME) (y0 : Int32) : Option (Int32 × ME) :=
  some (y0, me)
def mX9_type (S : SH) (me : ME) (o : Nat) (a0 : Int32) : Option (Int32 × ME) :=
  (mX9_within S me a0 (255 : Int32)).bind fun q1 =>
  if q1.1 = 0 then
    some ((-1 : Int32), q1.2)
  else
    (gR S 9 0 o).bind fun v4 =>
    (ck S 8 v4).bind fun _ => (mX8_append S q1.2 v4 a0).bind fun q6 =>
    if q6.1 = 0 then
      mX9_type_j35 S o a0 q6.2 (-3 : Int32)
    else
      (gR S 9 0 o).bind fun v10 =>
      (gI S q6.2 8 1 v10).bind fun v12 =>
      mX9_type_j35 S o a0 q6.2 v12
set_option maxRecDepth 100000 in
set_option maxHeartbeats 4000000 in
theorem kX9_type (l : Launch) (D : va_G) (b : Nat) {S : SH} {me : ME} {o : Nat} {a0 : Int32} {q : Int32 × ME} (hM : mX9_type S me o a0 = some q) : Ct l D b yX9_type cX9_type 2 (some .int) 1 21 0 0 [.ref (b + o), .int a0] S me S q.2 (some (.int q.1)) := by
  refine ct_of (own := RX9) (nm := "type") (lv := [(0, .ref (b + o)), (1, .int a0)]) (plainFor_of_name (by decide)) rfl rfl (Nat.le_of_ble_eq_true rfl) rfl ⟨rfl, rfl⟩ (fun X cx ex hL => ?_)
  have J35 : ∀ (me : ME) (y0 : Int32), mX9_type_j35 S o a0 me y0 = some q → WS X b 2 S me 35 [] [.int y0] := by
    intro  me y0 hM
    unfold mX9_type_j35 at hM
    exact ws_iretM cx ex hM dX9_type_35
  unfold mX9_type at hM
  refine ws_iload_n cx dX9_type_0 rfl (j := 1) rfl ?_
  refine ws_sipush cx dX9_type_1 (v := 255) (by decide) ?_
  obtain ⟨q1, h2, hM⟩ := bnd hM
  refine ws_callS cx (rest := []) (st' := [.int q1.1]) (kX9_within l D b h2) mvX9_within lkX9_84 rfl ⟨by decide, by decide⟩ (Nat.le_of_ble_eq_true rfl) ⟨rfl, rfl⟩ (Or.inl ⟨rfl, rfl⟩) rfl rfl dX9_type_4 ?_
  refine ws_if_ne cx dX9_type_7 (tgt := 12) (by decide) (fun c3 => ?_) (fun c3 => ?_)
  · have hM := if_f hM c3
    refine ws_aload_n cx dX9_type_12 rfl (j := 0) rfl ?_
    obtain ⟨v4, h5, hM⟩ := bnd hM
    refine ws_getR cx ffX9_12 h5 dX9_type_13 ?_
    refine ws_iload_n cx dX9_type_16 rfl (j := 1) rfl ?_
    obtain ⟨_, h8, hM⟩ := bnd hM
    obtain ⟨q6, h7, hM⟩ := bnd hM
    refine ws_callV cx (rest := []) (st' := [.int q6.1]) (kX8_append l D b h7) mvX8_append (ck_k h8) (by decide) (q := (RX8, TX8, 2)) rfl seX8_append lkX9_88 rfl ⟨by decide, by decide⟩ (Nat.le_of_ble_eq_true rfl) ⟨rfl, rfl⟩ (Or.inl ⟨rfl, rfl⟩) rfl rfl dX9_type_17 ?_
    refine ws_if_eq cx dX9_type_20 (tgt := 33) (by decide) (fun c9 => ?_) (fun c9 => ?_)
    · have hM := if_t hM c9
      refine ws_bipush cx dX9_type_33 (v := -3) (by decide) ?_
      refine ws_sub [] (lv' := []) rfl ?_
      exact J35 _ _ hM
    · have hM := if_f hM c9
      refine ws_aload_n cx dX9_type_23 rfl (j := 0) rfl ?_
      obtain ⟨v10, h11, hM⟩ := bnd hM
      refine ws_getR cx ffX9_12 h11 dX9_type_24 ?_
      obtain ⟨v12, h13, hM⟩ := bnd hM
      refine ws_getI cx ffX9_92 h13 dX9_type_27 ?_
      refine ws_goto cx dX9_type_30 (tgt := 35) (by decide) ?_
      refine ws_sub [] (lv' := []) rfl ?_
      exact J35 _ _ hM
  · have hM := if_t hM c3
    refine ws_iconst cx dX9_type_10 (v := -1) (by decide) ?_
    exact ws_iretM cx ex hM dX9_type_11

def mX9_clear (S : SH) (me : ME) (o : Nat) : Option (Int32 × ME) :=
  (gR S 9 0 o).bind fun v1 =>
  (gI S me 8 1 v1).bind fun v3 =>
  (gR S 9 0 o).bind fun v5 =>
  (sI S me 8 1 v5 (0 : Int32)).bind fun m8 =>
  some (v3, m8)
set_option maxRecDepth 100000 in
set_option maxHeartbeats 4000000 in
theorem kX9_clear (l : Launch) (D : va_G) (b : Nat) {S : SH} {me : ME} {o : Nat} {q : Int32 × ME} (hM : mX9_clear S me o = some q) : Ct l D b yX9_clear cX9_clear 2 (some .int) 0 0 0 0 [.ref (b + o)] S me S q.2 (some (.int q.1)) := by
  refine ct_of (own := RX9) (nm := "clear") (lv := [(0, .ref (b + o))]) (plainFor_of_name (by decide)) rfl rfl (Nat.le_of_ble_eq_true rfl) rfl ⟨rfl, rfl⟩ (fun X cx ex hL => ?_)
  unfold mX9_clear at hM
  refine ws_aload_n cx dX9_clear_0 rfl (j := 0) rfl ?_
  obtain ⟨v1, h2, hM⟩ := bnd hM
  refine ws_getR cx ffX9_12 h2 dX9_clear_1 ?_
  obtain ⟨v3, h4, hM⟩ := bnd hM
  refine ws_getI cx ffX9_92 h4 dX9_clear_4 ?_
  refine ws_istore_n cx dX9_clear_7 rfl (by decide) (lv' := [(1, .int v3), (0, .ref (b + o))]) rfl ?_
  refine ws_aload_n cx dX9_clear_8 rfl (j := 1) rfl ?_
  obtain ⟨v5, h6, hM⟩ := bnd hM
  refine ws_getR cx ffX9_12 h6 dX9_clear_9 ?_
  refine ws_iconst cx dX9_clear_12 (v := 0) (by decide) ?_
  obtain ⟨m8, h7, hM⟩ := bnd hM
  refine ws_putI cx ffX9_92 h7 dX9_clear_13 ?_
  refine ws_iload_n cx dX9_clear_16 rfl (j := 0) rfl ?_
  exact ws_iretM cx ex hM dX9_clear_17

def mX3_isDigit_j17 (S : SH) (a0 : Int32) (me : ME) (y0 : Int32) : Option (Int32 × ME) :=
  if y0 = 0 ∨ y0 = 1 then some (y0, me) else none
def mX3_isDigit_j16 (S : SH) (a0 : Int32) (me : ME) : Option (Int32 × ME) :=
  mX3_isDigit_j17 S a0 me (0 : Int32)
def mX3_isDigit (S : SH) (me : ME) (a0 : Int32) : Option (Int32 × ME) :=
  if a0 < (48 : Int32) then
    mX3_isDigit_j16 S a0 me
  else
    if (57 : Int32) < a0 then
      mX3_isDigit_j16 S a0 me
    else
      mX3_isDigit_j17 S a0 me (1 : Int32)
set_option maxRecDepth 100000 in
set_option maxHeartbeats 4000000 in
theorem kX3_isDigit (l : Launch) (D : va_G) (b : Nat) {S : SH} {me : ME} {a0 : Int32} {q : Int32 × ME} (hM : mX3_isDigit S me a0 = some q) : Ct l D b yX3_isDigit cX3_isDigit 1 (some .boolean) 0 0 0 0 [.int a0] S me S q.2 (some (.int q.1)) := by
  refine ct_of (own := RX3) (nm := "isDigit") (lv := [(0, .int a0)]) (plainFor_of_name (by decide)) rfl rfl (Nat.le_of_ble_eq_true rfl) rfl ⟨rfl, rfl⟩ (fun X cx ex hL => ?_)
  have J17 : ∀ (me : ME) (y0 : Int32), mX3_isDigit_j17 S a0 me y0 = some q → WS X b 1 S me 17 [] [.int y0] := by
    intro  me y0 hM
    unfold mX3_isDigit_j17 at hM
    obtain ⟨h1, hM⟩ := ite_o hM
    exact ws_zretM cx ex h1 hM dX3_isDigit_17
  have J16 : ∀ (me : ME), mX3_isDigit_j16 S a0 me = some q → WS X b 1 S me 16 [] [] := by
    intro  me hM
    unfold mX3_isDigit_j16 at hM
    refine ws_iconst cx dX3_isDigit_16 (v := 0) (by decide) ?_
    refine ws_sub [] (lv' := []) rfl ?_
    exact J17 _ _ hM
  unfold mX3_isDigit at hM
  refine ws_iload_n cx dX3_isDigit_0 rfl (j := 0) rfl ?_
  refine ws_bipush cx dX3_isDigit_1 (v := 48) (by decide) ?_
  refine ws_icmp_lt cx dX3_isDigit_3 (tgt := 16) (by decide) (fun c2 => ?_) (fun c2 => ?_)
  · have hM := if_t hM c2
    refine ws_sub [] (lv' := []) rfl ?_
    exact J16 _ hM
  · have hM := if_f hM c2
    refine ws_iload_n cx dX3_isDigit_6 rfl (j := 0) rfl ?_
    refine ws_bipush cx dX3_isDigit_7 (v := 57) (by decide) ?_
    refine ws_icmp_gt cx dX3_isDigit_9 (tgt := 16) (by decide) (fun c3 => ?_) (fun c3 => ?_)
    · have hM := if_t hM c3
      refine ws_sub [] (lv' := []) rfl ?_
      exact J16 _ hM
    · have hM := if_f hM c3
      refine ws_iconst cx dX3_isDigit_12 (v := 1) (by decide) ?_
      refine ws_goto cx dX3_isDigit_13 (tgt := 17) (by decide) ?_
      refine ws_sub [] (lv' := []) rfl ?_
      exact J17 _ _ hM

def mJ9_min_7cf53_j10 (S : SH) (a0 : Int32) (a1 : Int32) (me : ME) (y0 : Int32) : Option (Int32 × ME) :=
  some (y0, me)
def mJ9_min_7cf53 (S : SH) (me : ME) (a0 : Int32) (a1 : Int32) : Option (Int32 × ME) :=
  if a1 < a0 then
    mJ9_min_7cf53_j10 S a0 a1 me a1
  else
    mJ9_min_7cf53_j10 S a0 a1 me a0
set_option maxRecDepth 100000 in
set_option maxHeartbeats 4000000 in
theorem kJ9_min_7cf53 (l : Launch) (D : va_G) (b : Nat) {S : SH} {me : ME} {a0 : Int32} {a1 : Int32} {q : Int32 × ME} (hM : mJ9_min_7cf53 S me a0 a1 = some q) : Ct l D b yJ9_min_7cf53 cJ9_min_7cf53 2 (some .int) 0 0 0 0 [.int a0, .int a1] S me S q.2 (some (.int q.1)) := by
  refine ct_of (own := RJ9) (nm := "min") (lv := [(0, .int a0), (1, .int a1)]) (by decide +kernel) rfl rfl (Nat.le_of_ble_eq_true rfl) rfl ⟨rfl, rfl⟩ (fun X cx ex hL => ?_)
  have J10 : ∀ (me : ME) (y0 : Int32), mJ9_min_7cf53_j10 S a0 a1 me y0 = some q → WS X b 2 S me 10 [] [.int y0] := by
    intro  me y0 hM
    unfold mJ9_min_7cf53_j10 at hM
    exact ws_iretM cx ex hM dJ9_min_7cf53_10
  unfold mJ9_min_7cf53 at hM
  refine ws_iload_n cx dJ9_min_7cf53_0 rfl (j := 0) rfl ?_
  refine ws_iload_n cx dJ9_min_7cf53_1 rfl (j := 1) rfl ?_
  refine ws_icmp_gt cx dJ9_min_7cf53_2 (tgt := 9) (by decide) (fun c1 => ?_) (fun c1 => ?_)
  · have hM := if_t hM c1
    refine ws_iload_n cx dJ9_min_7cf53_9 rfl (j := 1) rfl ?_
    refine ws_sub [] (lv' := []) rfl ?_
    exact J10 _ _ hM
  · have hM := if_f hM c1
    refine ws_iload_n cx dJ9_min_7cf53_5 rfl (j := 0) rfl ?_
    refine ws_goto cx dJ9_min_7cf53_6 (tgt := 10) (by decide) ?_
    refine ws_sub [] (lv' := []) rfl ?_
    exact J10 _ _ hM

def mX3_advanceOverNumber_j135 (S : SH) (o : Nat) (a0 : Nat) (me : ME) (y0 : Nat) (y1 : Int32) : Option (Unit × ME) :=
  (sI S me 3 5 y0 y1).bind fun m2 =>
  some ((), m2)
def mX3_advanceOverNumber_j124 (S : SH) (o : Nat) (a0 : Nat) (me : ME) (y0 : Int32) : Option (Unit × ME) :=
  if y0 = 0 then
    mX3_advanceOverNumber_j135 S o a0 me o (2 : Int32)
  else
    mX3_advanceOverNumber_j135 S o a0 me o (4 : Int32)
def mX3_advanceOverNumber_j119 (S : SH) (o : Nat) (a0 : Nat) (me : ME) : Option (Unit × ME) :=
  mX3_advanceOverNumber_j124 S o a0 me (1 : Int32)
def mX3_advanceOverNumber_j123 (S : SH) (o : Nat) (a0 : Nat) (me : ME) : Option (Unit × ME) :=
  mX3_advanceOverNumber_j124 S o a0 me (0 : Int32)
def mX3_advanceOverNumber_j93 (S : SH) (o : Nat) (a0 : Nat) (me : ME) (x2 : Int32) : Option (Unit × ME) :=
  (gI S me 3 6 o).bind fun v4 =>
  if (99 : Int32) < v4 then
    mX3_advanceOverNumber_j119 S o a0 me
  else
    if x2 = 0 then
      mX3_advanceOverNumber_j123 S o a0 me
    else
      (gI S me 3 3 o).bind fun v8 =>
      (gI S me 3 4 o).bind fun v10 =>
      if (v8 - v10) ≤ (1 : Int32) then
        mX3_advanceOverNumber_j123 S o a0 me
      else
        mX3_advanceOverNumber_j119 S o a0 me
def mX3_advanceOverNumber_L25 (S : SH) (o : Nat) (a0 : Nat) (k25 : (ME × Int32 → Option (Unit × ME))) : ME × Int32 → Option (Unit × ME)
  | (me, x2) =>
    (gI S me 3 3 o).bind fun v13 =>
    (gI S me 8 1 a0).bind fun v15 =>
    if v15 ≤ v13 then
      mX3_advanceOverNumber_j93 S o a0 me x2
    else
      (gR S 8 0 a0).bind fun v18 =>
      (gI S me 3 3 o).bind fun v20 =>
      (aI S me 11 v18 v20).bind fun v22 =>
      (mX3_isDigit S me v22).bind fun q24 =>
      if q24.1 = 0 then
        mX3_advanceOverNumber_j93 S o a0 q24.2 x2
      else
        (gI S q24.2 3 6 o).bind fun v27 =>
        (gR S 8 0 a0).bind fun v29 =>
        (gI S q24.2 3 3 o).bind fun v31 =>
        (aI S q24.2 11 v29 v31).bind fun v33 =>
        (mJ9_min_7cf53 S q24.2 (100 : Int32) ((((10 : Int32) * v27) + v33) - (48 : Int32))).bind fun q35 =>
        (sI S q35.2 3 6 o q35.1).bind fun m38 =>
        (gI S m38 3 3 o).bind fun v39 =>
        (sI S m38 3 3 o (v39 + (1 : Int32))).bind fun m42 =>
        k25 (m42, x2)
def mX3_advanceOverNumber_j19 (S : SH) (o : Nat) (a0 : Nat) (me : ME) (y0 : Int32) : Option (Unit × ME) :=
  (sI S me 3 6 o (0 : Int32)).bind fun m44 =>
  lpn (mX3_advanceOverNumber_L25 S o a0) lpF (m44, y0)
def mX3_advanceOverNumber (S : SH) (me : ME) (o : Nat) (a0 : Nat) : Option (Unit × ME) :=
  (gR S 8 0 a0).bind fun v45 =>
  (gI S me 3 4 o).bind fun v47 =>
  (aI S me 11 v45 v47).bind fun v49 =>
  if v49 = (48 : Int32) then
    mX3_advanceOverNumber_j19 S o a0 me (1 : Int32)
  else
    mX3_advanceOverNumber_j19 S o a0 me (0 : Int32)
set_option maxRecDepth 100000 in
set_option maxHeartbeats 4000000 in
theorem kX3_advanceOverNumber (l : Launch) (D : va_G) (b : Nat) {S : SH} {me : ME} {o : Nat} {a0 : Nat} {q : Unit × ME} (hM : mX3_advanceOverNumber S me o a0 = some q) : Ct l D b yX3_advanceOverNumber cX3_advanceOverNumber 4 none 1 21 0 0 [.ref (b + o), .ref (b + a0)] S me S q.2 none := by
  refine ct_of (own := RX3) (nm := "advanceOverNumber") (lv := [(0, .ref (b + o)), (1, .ref (b + a0))]) (plainFor_of_name (by decide)) rfl rfl (Nat.le_of_ble_eq_true rfl) rfl ⟨rfl, rfl⟩ (fun X cx ex hL => ?_)
  have J135 : ∀ (me : ME) (y0 : Nat) (y1 : Int32), mX3_advanceOverNumber_j135 S o a0 me y0 y1 = some q → WS X b 4 S me 135 [] [.int y1, .ref (b + y0)] := by
    intro  me y0 y1 hM
    unfold mX3_advanceOverNumber_j135 at hM
    obtain ⟨m2, h1, hM⟩ := bnd hM
    refine ws_putI cx ffX3_40 h1 dX3_advanceOverNumber_135 ?_
    exact ws_vretM cx ex hM dX3_advanceOverNumber_138
  have J124 : ∀ (me : ME) (y0 : Int32), mX3_advanceOverNumber_j124 S o a0 me y0 = some q → WS X b 4 S me 124 [(0, .ref (b + o))] [.int y0] := by
    intro  me y0 hM
    unfold mX3_advanceOverNumber_j124 at hM
    refine ws_istore_n cx dX3_advanceOverNumber_124 rfl (by decide) (lv' := [(3, .int y0), (0, .ref (b + o))]) rfl ?_
    refine ws_aload_n cx dX3_advanceOverNumber_125 rfl (j := 1) rfl ?_
    refine ws_iload_n cx dX3_advanceOverNumber_126 rfl (j := 0) rfl ?_
    refine ws_if_eq cx dX3_advanceOverNumber_127 (tgt := 134) (by decide) (fun c3 => ?_) (fun c3 => ?_)
    · have hM := if_t hM c3
      refine ws_iconst cx dX3_advanceOverNumber_134 (v := 2) (by decide) ?_
      refine ws_sub [] (lv' := []) rfl ?_
      exact J135 _ _ _ hM
    · have hM := if_f hM c3
      refine ws_iconst cx dX3_advanceOverNumber_130 (v := 4) (by decide) ?_
      refine ws_goto cx dX3_advanceOverNumber_131 (tgt := 135) (by decide) ?_
      refine ws_sub [] (lv' := []) rfl ?_
      exact J135 _ _ _ hM
  have J119 : ∀ (me : ME), mX3_advanceOverNumber_j119 S o a0 me = some q → WS X b 4 S me 119 [(0, .ref (b + o))] [] := by
    intro  me hM
    unfold mX3_advanceOverNumber_j119 at hM
    refine ws_iconst cx dX3_advanceOverNumber_119 (v := 1) (by decide) ?_
    refine ws_goto cx dX3_advanceOverNumber_120 (tgt := 124) (by decide) ?_
    refine ws_sub [0] (lv' := [(0, .ref (b + o))]) rfl ?_
    exact J124 _ _ hM
  have J123 : ∀ (me : ME), mX3_advanceOverNumber_j123 S o a0 me = some q → WS X b 4 S me 123 [(0, .ref (b + o))] [] := by
    intro  me hM
    unfold mX3_advanceOverNumber_j123 at hM
    refine ws_iconst cx dX3_advanceOverNumber_123 (v := 0) (by decide) ?_
    refine ws_sub [0] (lv' := [(0, .ref (b + o))]) rfl ?_
    exact J124 _ _ hM
  have J93 : ∀ (me : ME) (x2 : Int32), mX3_advanceOverNumber_j93 S o a0 me x2 = some q → WS X b 4 S me 93 [(0, .ref (b + o)), (2, .int x2)] [] := by
    intro  me x2 hM
    unfold mX3_advanceOverNumber_j93 at hM
    refine ws_aload_n cx dX3_advanceOverNumber_93 rfl (j := 0) rfl ?_
    obtain ⟨v4, h5, hM⟩ := bnd hM
    refine ws_getI cx ffX3_43 h5 dX3_advanceOverNumber_94 ?_
    refine ws_bipush cx dX3_advanceOverNumber_97 (v := 99) (by decide) ?_
    refine ws_icmp_gt cx dX3_advanceOverNumber_99 (tgt := 119) (by decide) (fun c6 => ?_) (fun c6 => ?_)
    · have hM := if_t hM c6
      refine ws_sub [0] (lv' := [(0, .ref (b + o))]) rfl ?_
      exact J119 _ hM
    · have hM := if_f hM c6
      refine ws_iload_n cx dX3_advanceOverNumber_102 rfl (j := 1) rfl ?_
      refine ws_if_eq cx dX3_advanceOverNumber_103 (tgt := 123) (by decide) (fun c7 => ?_) (fun c7 => ?_)
      · have hM := if_t hM c7
        refine ws_sub [0] (lv' := [(0, .ref (b + o))]) rfl ?_
        exact J123 _ hM
      · have hM := if_f hM c7
        refine ws_aload_n cx dX3_advanceOverNumber_106 rfl (j := 0) rfl ?_
        obtain ⟨v8, h9, hM⟩ := bnd hM
        refine ws_getI cx ffX3_33 h9 dX3_advanceOverNumber_107 ?_
        refine ws_aload_n cx dX3_advanceOverNumber_110 rfl (j := 0) rfl ?_
        obtain ⟨v10, h11, hM⟩ := bnd hM
        refine ws_getI cx ffX3_53 h11 dX3_advanceOverNumber_111 ?_
        refine ws_isub cx dX3_advanceOverNumber_114 ?_
        refine ws_iconst cx dX3_advanceOverNumber_115 (v := 1) (by decide) ?_
        refine ws_icmp_le cx dX3_advanceOverNumber_116 (tgt := 123) (by decide) (fun c12 => ?_) (fun c12 => ?_)
        · have hM := if_t hM c12
          refine ws_sub [0] (lv' := [(0, .ref (b + o))]) rfl ?_
          exact J123 _ hM
        · have hM := if_f hM c12
          refine ws_sub [0] (lv' := [(0, .ref (b + o))]) rfl ?_
          exact J119 _ hM
  have L25 : ∀ (n : Nat) (me : ME) (x2 : Int32), lpn (mX3_advanceOverNumber_L25 S o a0) n (me, x2) = some q → WS X b 4 S me 25 [(0, .ref (b + o)), (1, .ref (b + a0)), (2, .int x2)] [] := by
    intro  n
    induction n with
    | zero => intro me x2 hM; exact absurd hM (by intro h; cases h)
    | succ n ih =>
      intro me x2 hM
      have hM : mX3_advanceOverNumber_L25 S o a0 (lpn (mX3_advanceOverNumber_L25 S o a0) n) (me, x2) = some q := hM
      unfold mX3_advanceOverNumber_L25 at hM
      refine ws_aload_n cx dX3_advanceOverNumber_25 rfl (j := 0) rfl ?_
      obtain ⟨v13, h14, hM⟩ := bnd hM
      refine ws_getI cx ffX3_33 h14 dX3_advanceOverNumber_26 ?_
      refine ws_aload_n cx dX3_advanceOverNumber_29 rfl (j := 1) rfl ?_
      obtain ⟨v15, h16, hM⟩ := bnd hM
      refine ws_getI cx ffX3_76 h16 dX3_advanceOverNumber_30 ?_
      refine ws_icmp_ge cx dX3_advanceOverNumber_33 (tgt := 93) (by decide) (fun c17 => ?_) (fun c17 => ?_)
      · have hM := if_t hM c17
        refine ws_sub [0, 2] (lv' := [(0, .ref (b + o)), (2, .int x2)]) rfl ?_
        exact J93 _ _ hM
      · have hM := if_f hM c17
        refine ws_aload_n cx dX3_advanceOverNumber_36 rfl (j := 1) rfl ?_
        obtain ⟨v18, h19, hM⟩ := bnd hM
        refine ws_getR cx ffX3_79 h19 dX3_advanceOverNumber_37 ?_
        refine ws_aload_n cx dX3_advanceOverNumber_40 rfl (j := 0) rfl ?_
        obtain ⟨v20, h21, hM⟩ := bnd hM
        refine ws_getI cx ffX3_33 h21 dX3_advanceOverNumber_41 ?_
        obtain ⟨v22, h23, hM⟩ := bnd hM
        refine ws_iald cx h23 dX3_advanceOverNumber_44 ?_
        obtain ⟨q24, h25, hM⟩ := bnd hM
        refine ws_callS cx (rest := []) (st' := [.int q24.1]) (kX3_isDigit l D b h25) mvX3_isDigit lkX3_82 rfl ⟨by decide, by decide⟩ (Nat.le_of_ble_eq_true rfl) ⟨rfl, rfl⟩ (Or.inl ⟨rfl, rfl⟩) rfl rfl dX3_advanceOverNumber_45 ?_
        refine ws_if_eq cx dX3_advanceOverNumber_48 (tgt := 93) (by decide) (fun c26 => ?_) (fun c26 => ?_)
        · have hM := if_t hM c26
          refine ws_sub [0, 2] (lv' := [(0, .ref (b + o)), (2, .int x2)]) rfl ?_
          exact J93 _ _ hM
        · have hM := if_f hM c26
          refine ws_aload_n cx dX3_advanceOverNumber_51 rfl (j := 0) rfl ?_
          refine ws_bipush cx dX3_advanceOverNumber_52 (v := 100) (by decide) ?_
          refine ws_bipush cx dX3_advanceOverNumber_54 (v := 10) (by decide) ?_
          refine ws_aload_n cx dX3_advanceOverNumber_56 rfl (j := 0) rfl ?_
          obtain ⟨v27, h28, hM⟩ := bnd hM
          refine ws_getI cx ffX3_43 h28 dX3_advanceOverNumber_57 ?_
          refine ws_imul cx dX3_advanceOverNumber_60 ?_
          refine ws_aload_n cx dX3_advanceOverNumber_61 rfl (j := 1) rfl ?_
          obtain ⟨v29, h30, hM⟩ := bnd hM
          refine ws_getR cx ffX3_79 h30 dX3_advanceOverNumber_62 ?_
          refine ws_aload_n cx dX3_advanceOverNumber_65 rfl (j := 0) rfl ?_
          obtain ⟨v31, h32, hM⟩ := bnd hM
          refine ws_getI cx ffX3_33 h32 dX3_advanceOverNumber_66 ?_
          obtain ⟨v33, h34, hM⟩ := bnd hM
          refine ws_iald cx h34 dX3_advanceOverNumber_69 ?_
          refine ws_iadd cx dX3_advanceOverNumber_70 ?_
          refine ws_bipush cx dX3_advanceOverNumber_71 (v := 48) (by decide) ?_
          refine ws_isub cx dX3_advanceOverNumber_73 ?_
          obtain ⟨q35, h36, hM⟩ := bnd hM
          refine ws_callS cx (rest := [.ref (b + o)]) (st' := [.int q35.1, .ref (b + o)]) (kJ9_min_7cf53 l D b h36) mvJ9_min_7cf53 lkX3_89 rfl ⟨by decide, by decide⟩ (Nat.le_of_ble_eq_true rfl) ⟨rfl, rfl⟩ (Or.inl ⟨rfl, rfl⟩) rfl rfl dX3_advanceOverNumber_74 ?_
          obtain ⟨m38, h37, hM⟩ := bnd hM
          refine ws_putI cx ffX3_43 h37 dX3_advanceOverNumber_77 ?_
          refine ws_aload_n cx dX3_advanceOverNumber_80 rfl (j := 0) rfl ?_
          refine ws_dup cx dX3_advanceOverNumber_81 rfl ?_
          obtain ⟨v39, h40, hM⟩ := bnd hM
          refine ws_getI cx ffX3_33 h40 dX3_advanceOverNumber_82 ?_
          refine ws_iconst cx dX3_advanceOverNumber_85 (v := 1) (by decide) ?_
          refine ws_iadd cx dX3_advanceOverNumber_86 ?_
          obtain ⟨m42, h41, hM⟩ := bnd hM
          refine ws_putI cx ffX3_33 h41 dX3_advanceOverNumber_87 ?_
          refine ws_goto cx dX3_advanceOverNumber_90 (tgt := 25) (by decide) ?_
          refine ws_sub [0, 1, 2] (lv' := [(0, .ref (b + o)), (1, .ref (b + a0)), (2, .int x2)]) rfl ?_
          exact ih _ _ hM
  have J19 : ∀ (me : ME) (y0 : Int32), mX3_advanceOverNumber_j19 S o a0 me y0 = some q → WS X b 4 S me 19 [(0, .ref (b + o)), (1, .ref (b + a0))] [.int y0] := by
    intro  me y0 hM
    unfold mX3_advanceOverNumber_j19 at hM
    refine ws_istore_n cx dX3_advanceOverNumber_19 rfl (by decide) (lv' := [(2, .int y0), (0, .ref (b + o)), (1, .ref (b + a0))]) rfl ?_
    refine ws_aload_n cx dX3_advanceOverNumber_20 rfl (j := 1) rfl ?_
    refine ws_iconst cx dX3_advanceOverNumber_21 (v := 0) (by decide) ?_
    obtain ⟨m44, h43, hM⟩ := bnd hM
    refine ws_putI cx ffX3_43 h43 dX3_advanceOverNumber_22 ?_
    refine ws_sub [1, 2, 0] (lv' := [(0, .ref (b + o)), (1, .ref (b + a0)), (2, .int y0)]) rfl ?_
    exact L25 _ _ _ hM
  unfold mX3_advanceOverNumber at hM
  refine ws_aload_n cx dX3_advanceOverNumber_0 rfl (j := 1) rfl ?_
  obtain ⟨v45, h46, hM⟩ := bnd hM
  refine ws_getR cx ffX3_79 h46 dX3_advanceOverNumber_1 ?_
  refine ws_aload_n cx dX3_advanceOverNumber_4 rfl (j := 0) rfl ?_
  obtain ⟨v47, h48, hM⟩ := bnd hM
  refine ws_getI cx ffX3_53 h48 dX3_advanceOverNumber_5 ?_
  obtain ⟨v49, h50, hM⟩ := bnd hM
  refine ws_iald cx h50 dX3_advanceOverNumber_8 ?_
  refine ws_bipush cx dX3_advanceOverNumber_9 (v := 48) (by decide) ?_
  refine ws_icmp_ne cx dX3_advanceOverNumber_11 (tgt := 18) (by decide) (fun c51 => ?_) (fun c51 => ?_)
  · have hM := if_f hM c51
    refine ws_iconst cx dX3_advanceOverNumber_18 (v := 0) (by decide) ?_
    refine ws_sub [0, 1] (lv' := [(0, .ref (b + o)), (1, .ref (b + a0))]) rfl ?_
    exact J19 _ _ hM
  · have hM := if_t hM c51
    refine ws_iconst cx dX3_advanceOverNumber_14 (v := 1) (by decide) ?_
    refine ws_goto cx dX3_advanceOverNumber_15 (tgt := 19) (by decide) ?_
    refine ws_sub [0, 1] (lv' := [(0, .ref (b + o)), (1, .ref (b + a0))]) rfl ?_
    exact J19 _ _ hM

def mX3_advance_j146 (S : SH) (o : Nat) (a0 : Nat) (me : ME) : Option (Unit × ME) :=
  some ((), me)
def mX3_advance_j143 (S : SH) (o : Nat) (a0 : Nat) (me : ME) (y0 : Nat) (y1 : Int32) : Option (Unit × ME) :=
  (sI S me 3 5 y0 y1).bind fun m2 =>
  mX3_advance_j146 S o a0 m2
def mX3_advance_j128 (S : SH) (o : Nat) (a0 : Nat) (me : ME) : Option (Unit × ME) :=
  (gI S me 3 6 o).bind fun v3 =>
  if v3 = (59 : Int32) then
    mX3_advance_j143 S o a0 me o (3 : Int32)
  else
    mX3_advance_j143 S o a0 me o (4 : Int32)
def mX3_advance_j38 (S : SH) (o : Nat) (a0 : Nat) (me : ME) : Option (Unit × ME) :=
  (gI S me 3 3 o).bind fun v6 =>
  (sI S me 3 4 o v6).bind fun m9 =>
  (gI S m9 3 3 o).bind fun v10 =>
  (gI S m9 8 1 a0).bind fun v12 =>
  if v10 < v12 then
    (gR S 8 0 a0).bind fun v15 =>
    (gI S m9 3 3 o).bind fun v17 =>
    (aI S m9 11 v15 v17).bind fun v19 =>
    (sI S m9 3 6 o v19).bind fun m22 =>
    (gI S m22 3 6 o).bind fun v23 =>
    (mX3_isDigit S m22 v23).bind fun q25 =>
    if q25.1 = 0 then
      (gI S q25.2 3 3 o).bind fun v28 =>
      (sI S q25.2 3 3 o (v28 + (1 : Int32))).bind fun m31 =>
      (gI S m31 3 6 o).bind fun v32 =>
      if v32 < (97 : Int32) then
        mX3_advance_j128 S o a0 m31
      else
        (gI S m31 3 6 o).bind fun v35 =>
        if (122 : Int32) < v35 then
          mX3_advance_j128 S o a0 m31
        else
          (sI S m31 3 5 o (1 : Int32)).bind fun m39 =>
          mX3_advance_j146 S o a0 m39
    else
      (ck S 3 o).bind fun _ => (mX3_advanceOverNumber S q25.2 o a0).bind fun q40 =>
      some ((), q40.2)
  else
    (sI S m9 3 5 o (0 : Int32)).bind fun m44 =>
    some ((), m44)
def mX3_advance_L0 (S : SH) (o : Nat) (a0 : Nat) (k0 : (ME → Option (Unit × ME))) : ME → Option (Unit × ME)
  | me =>
    (gI S me 3 3 o).bind fun v45 =>
    (gI S me 8 1 a0).bind fun v47 =>
    if v47 ≤ v45 then
      mX3_advance_j38 S o a0 me
    else
      (gR S 8 0 a0).bind fun v50 =>
      (gI S me 3 3 o).bind fun v52 =>
      (aI S me 11 v50 v52).bind fun v54 =>
      if v54 = (32 : Int32) then
        (gI S me 3 3 o).bind fun v57 =>
        (sI S me 3 3 o (v57 + (1 : Int32))).bind fun m60 =>
        k0 m60
      else
        mX3_advance_j38 S o a0 me
def mX3_advance (S : SH) (me : ME) (o : Nat) (a0 : Nat) : Option (Unit × ME) :=
  lpn (mX3_advance_L0 S o a0) lpF me
set_option maxRecDepth 100000 in
set_option maxHeartbeats 4000000 in
theorem kX3_advance (l : Launch) (D : va_G) (b : Nat) {S : SH} {me : ME} {o : Nat} {a0 : Nat} {q : Unit × ME} (hM : mX3_advance S me o a0 = some q) : Ct l D b yX3_advance cX3_advance 2 none 2 44 0 0 [.ref (b + o), .ref (b + a0)] S me S q.2 none := by
  refine ct_of (own := RX3) (nm := "advance") (lv := [(0, .ref (b + o)), (1, .ref (b + a0))]) (plainFor_of_name (by decide)) rfl rfl (Nat.le_of_ble_eq_true rfl) rfl ⟨rfl, rfl⟩ (fun X cx ex hL => ?_)
  have J146 : ∀ (me : ME), mX3_advance_j146 S o a0 me = some q → WS X b 2 S me 146 [] [] := by
    intro  me hM
    unfold mX3_advance_j146 at hM
    exact ws_vretM cx ex hM dX3_advance_146
  have J143 : ∀ (me : ME) (y0 : Nat) (y1 : Int32), mX3_advance_j143 S o a0 me y0 y1 = some q → WS X b 2 S me 143 [] [.int y1, .ref (b + y0)] := by
    intro  me y0 y1 hM
    unfold mX3_advance_j143 at hM
    obtain ⟨m2, h1, hM⟩ := bnd hM
    refine ws_putI cx ffX3_40 h1 dX3_advance_143 ?_
    refine ws_sub [] (lv' := []) rfl ?_
    exact J146 _ hM
  have J128 : ∀ (me : ME), mX3_advance_j128 S o a0 me = some q → WS X b 2 S me 128 [(0, .ref (b + o))] [] := by
    intro  me hM
    unfold mX3_advance_j128 at hM
    refine ws_aload_n cx dX3_advance_128 rfl (j := 0) rfl ?_
    refine ws_aload_n cx dX3_advance_129 rfl (j := 0) rfl ?_
    obtain ⟨v3, h4, hM⟩ := bnd hM
    refine ws_getI cx ffX3_43 h4 dX3_advance_130 ?_
    refine ws_bipush cx dX3_advance_133 (v := 59) (by decide) ?_
    refine ws_icmp_ne cx dX3_advance_135 (tgt := 142) (by decide) (fun c5 => ?_) (fun c5 => ?_)
    · have hM := if_f hM c5
      refine ws_iconst cx dX3_advance_142 (v := 4) (by decide) ?_
      refine ws_sub [] (lv' := []) rfl ?_
      exact J143 _ _ _ hM
    · have hM := if_t hM c5
      refine ws_iconst cx dX3_advance_138 (v := 3) (by decide) ?_
      refine ws_goto cx dX3_advance_139 (tgt := 143) (by decide) ?_
      refine ws_sub [] (lv' := []) rfl ?_
      exact J143 _ _ _ hM
  have J38 : ∀ (me : ME), mX3_advance_j38 S o a0 me = some q → WS X b 2 S me 38 [(0, .ref (b + o)), (1, .ref (b + a0))] [] := by
    intro  me hM
    unfold mX3_advance_j38 at hM
    refine ws_aload_n cx dX3_advance_38 rfl (j := 0) rfl ?_
    refine ws_aload_n cx dX3_advance_39 rfl (j := 0) rfl ?_
    obtain ⟨v6, h7, hM⟩ := bnd hM
    refine ws_getI cx ffX3_33 h7 dX3_advance_40 ?_
    obtain ⟨m9, h8, hM⟩ := bnd hM
    refine ws_putI cx ffX3_53 h8 dX3_advance_43 ?_
    refine ws_aload_n cx dX3_advance_46 rfl (j := 0) rfl ?_
    obtain ⟨v10, h11, hM⟩ := bnd hM
    refine ws_getI cx ffX3_33 h11 dX3_advance_47 ?_
    refine ws_aload_n cx dX3_advance_50 rfl (j := 1) rfl ?_
    obtain ⟨v12, h13, hM⟩ := bnd hM
    refine ws_getI cx ffX3_76 h13 dX3_advance_51 ?_
    refine ws_icmp_lt cx dX3_advance_54 (tgt := 63) (by decide) (fun c14 => ?_) (fun c14 => ?_)
    · have hM := if_t hM c14
      refine ws_aload_n cx dX3_advance_63 rfl (j := 0) rfl ?_
      refine ws_aload_n cx dX3_advance_64 rfl (j := 1) rfl ?_
      obtain ⟨v15, h16, hM⟩ := bnd hM
      refine ws_getR cx ffX3_79 h16 dX3_advance_65 ?_
      refine ws_aload_n cx dX3_advance_68 rfl (j := 0) rfl ?_
      obtain ⟨v17, h18, hM⟩ := bnd hM
      refine ws_getI cx ffX3_33 h18 dX3_advance_69 ?_
      obtain ⟨v19, h20, hM⟩ := bnd hM
      refine ws_iald cx h20 dX3_advance_72 ?_
      obtain ⟨m22, h21, hM⟩ := bnd hM
      refine ws_putI cx ffX3_43 h21 dX3_advance_73 ?_
      refine ws_aload_n cx dX3_advance_76 rfl (j := 0) rfl ?_
      obtain ⟨v23, h24, hM⟩ := bnd hM
      refine ws_getI cx ffX3_43 h24 dX3_advance_77 ?_
      obtain ⟨q25, h26, hM⟩ := bnd hM
      refine ws_callS cx (rest := []) (st' := [.int q25.1]) (kX3_isDigit l D b h26) mvX3_isDigit lkX3_82 rfl ⟨by decide, by decide⟩ (Nat.le_of_ble_eq_true rfl) ⟨rfl, rfl⟩ (Or.inl ⟨rfl, rfl⟩) rfl rfl dX3_advance_80 ?_
      refine ws_if_eq cx dX3_advance_83 (tgt := 92) (by decide) (fun c27 => ?_) (fun c27 => ?_)
      · have hM := if_t hM c27
        refine ws_aload_n cx dX3_advance_92 rfl (j := 0) rfl ?_
        refine ws_dup cx dX3_advance_93 rfl ?_
        obtain ⟨v28, h29, hM⟩ := bnd hM
        refine ws_getI cx ffX3_33 h29 dX3_advance_94 ?_
        refine ws_iconst cx dX3_advance_97 (v := 1) (by decide) ?_
        refine ws_iadd cx dX3_advance_98 ?_
        obtain ⟨m31, h30, hM⟩ := bnd hM
        refine ws_putI cx ffX3_33 h30 dX3_advance_99 ?_
        refine ws_aload_n cx dX3_advance_102 rfl (j := 0) rfl ?_
        obtain ⟨v32, h33, hM⟩ := bnd hM
        refine ws_getI cx ffX3_43 h33 dX3_advance_103 ?_
        refine ws_bipush cx dX3_advance_106 (v := 97) (by decide) ?_
        refine ws_icmp_lt cx dX3_advance_108 (tgt := 128) (by decide) (fun c34 => ?_) (fun c34 => ?_)
        · have hM := if_t hM c34
          refine ws_sub [0] (lv' := [(0, .ref (b + o))]) rfl ?_
          exact J128 _ hM
        · have hM := if_f hM c34
          refine ws_aload_n cx dX3_advance_111 rfl (j := 0) rfl ?_
          obtain ⟨v35, h36, hM⟩ := bnd hM
          refine ws_getI cx ffX3_43 h36 dX3_advance_112 ?_
          refine ws_bipush cx dX3_advance_115 (v := 122) (by decide) ?_
          refine ws_icmp_gt cx dX3_advance_117 (tgt := 128) (by decide) (fun c37 => ?_) (fun c37 => ?_)
          · have hM := if_t hM c37
            refine ws_sub [0] (lv' := [(0, .ref (b + o))]) rfl ?_
            exact J128 _ hM
          · have hM := if_f hM c37
            refine ws_aload_n cx dX3_advance_120 rfl (j := 0) rfl ?_
            refine ws_iconst cx dX3_advance_121 (v := 1) (by decide) ?_
            obtain ⟨m39, h38, hM⟩ := bnd hM
            refine ws_putI cx ffX3_40 h38 dX3_advance_122 ?_
            refine ws_goto cx dX3_advance_125 (tgt := 146) (by decide) ?_
            refine ws_sub [] (lv' := []) rfl ?_
            exact J146 _ hM
      · have hM := if_f hM c27
        refine ws_aload_n cx dX3_advance_86 rfl (j := 0) rfl ?_
        refine ws_aload_n cx dX3_advance_87 rfl (j := 1) rfl ?_
        obtain ⟨_, h42, hM⟩ := bnd hM
        obtain ⟨q40, h41, hM⟩ := bnd hM
        refine ws_callV cx (rest := []) (st' := []) (kX3_advanceOverNumber l D b h41) mvX3_advanceOverNumber (ck_k h42) (by decide) (q := (RX3, TX3, 7)) rfl seX3_advanceOverNumber lkX3_86 rfl ⟨by decide, by decide⟩ (Nat.le_of_ble_eq_true rfl) ⟨rfl, rfl⟩ (Or.inl ⟨rfl, rfl⟩) rfl rfl dX3_advance_88 ?_
        exact ws_vretM cx ex hM dX3_advance_91
    · have hM := if_f hM c14
      refine ws_aload_n cx dX3_advance_57 rfl (j := 0) rfl ?_
      refine ws_iconst cx dX3_advance_58 (v := 0) (by decide) ?_
      obtain ⟨m44, h43, hM⟩ := bnd hM
      refine ws_putI cx ffX3_40 h43 dX3_advance_59 ?_
      exact ws_vretM cx ex hM dX3_advance_62
  have L0 : ∀ (n : Nat) (me : ME), lpn (mX3_advance_L0 S o a0) n me = some q → WS X b 2 S me 0 [(0, .ref (b + o)), (1, .ref (b + a0))] [] := by
    intro  n
    induction n with
    | zero => intro me hM; exact absurd hM (by intro h; cases h)
    | succ n ih =>
      intro me hM
      have hM : mX3_advance_L0 S o a0 (lpn (mX3_advance_L0 S o a0) n) me = some q := hM
      unfold mX3_advance_L0 at hM
      refine ws_aload_n cx dX3_advance_0 rfl (j := 0) rfl ?_
      obtain ⟨v45, h46, hM⟩ := bnd hM
      refine ws_getI cx ffX3_33 h46 dX3_advance_1 ?_
      refine ws_aload_n cx dX3_advance_4 rfl (j := 1) rfl ?_
      obtain ⟨v47, h48, hM⟩ := bnd hM
      refine ws_getI cx ffX3_76 h48 dX3_advance_5 ?_
      refine ws_icmp_ge cx dX3_advance_8 (tgt := 38) (by decide) (fun c49 => ?_) (fun c49 => ?_)
      · have hM := if_t hM c49
        refine ws_sub [0, 1] (lv' := [(0, .ref (b + o)), (1, .ref (b + a0))]) rfl ?_
        exact J38 _ hM
      · have hM := if_f hM c49
        refine ws_aload_n cx dX3_advance_11 rfl (j := 1) rfl ?_
        obtain ⟨v50, h51, hM⟩ := bnd hM
        refine ws_getR cx ffX3_79 h51 dX3_advance_12 ?_
        refine ws_aload_n cx dX3_advance_15 rfl (j := 0) rfl ?_
        obtain ⟨v52, h53, hM⟩ := bnd hM
        refine ws_getI cx ffX3_33 h53 dX3_advance_16 ?_
        obtain ⟨v54, h55, hM⟩ := bnd hM
        refine ws_iald cx h55 dX3_advance_19 ?_
        refine ws_bipush cx dX3_advance_20 (v := 32) (by decide) ?_
        refine ws_icmp_ne cx dX3_advance_22 (tgt := 38) (by decide) (fun c56 => ?_) (fun c56 => ?_)
        · have hM := if_f hM c56
          refine ws_sub [0, 1] (lv' := [(0, .ref (b + o)), (1, .ref (b + a0))]) rfl ?_
          exact J38 _ hM
        · have hM := if_t hM c56
          refine ws_aload_n cx dX3_advance_25 rfl (j := 0) rfl ?_
          refine ws_dup cx dX3_advance_26 rfl ?_
          obtain ⟨v57, h58, hM⟩ := bnd hM
          refine ws_getI cx ffX3_33 h58 dX3_advance_27 ?_
          refine ws_iconst cx dX3_advance_30 (v := 1) (by decide) ?_
          refine ws_iadd cx dX3_advance_31 ?_
          obtain ⟨m60, h59, hM⟩ := bnd hM
          refine ws_putI cx ffX3_33 h59 dX3_advance_32 ?_
          refine ws_goto cx dX3_advance_35 (tgt := 0) (by decide) ?_
          refine ws_sub [0, 1] (lv' := [(0, .ref (b + o)), (1, .ref (b + a0))]) rfl ?_
          exact ih _ hM
  unfold mX3_advance at hM
  refine ws_sub [0, 1] (lv' := [(0, .ref (b + o)), (1, .ref (b + a0))]) rfl ?_
  exact L0 _ _ hM

def mX3_takeNumber_j26 (S : SH) (o : Nat) (a0 : Nat) (a1 : Int32) (me : ME) (y0 : Int32) : Option (Int32 × ME) :=
  if y0 = 0 ∨ y0 = 1 then some (y0, me) else none
def mX3_takeNumber_j25 (S : SH) (o : Nat) (a0 : Nat) (a1 : Int32) (me : ME) : Option (Int32 × ME) :=
  mX3_takeNumber_j26 S o a0 a1 me (0 : Int32)
def mX3_takeNumber (S : SH) (me : ME) (o : Nat) (a0 : Nat) (a1 : Int32) : Option (Int32 × ME) :=
  (ck S 3 o).bind fun _ => (mX3_advance S me o a0).bind fun q2 =>
  (gI S q2.2 3 5 o).bind fun v5 =>
  if v5 = (2 : Int32) then
    (gI S q2.2 3 6 o).bind fun v8 =>
    if a1 < v8 then
      mX3_takeNumber_j25 S o a0 a1 q2.2
    else
      mX3_takeNumber_j26 S o a0 a1 q2.2 (1 : Int32)
  else
    mX3_takeNumber_j25 S o a0 a1 q2.2
set_option maxRecDepth 100000 in
set_option maxHeartbeats 4000000 in
theorem kX3_takeNumber (l : Launch) (D : va_G) (b : Nat) {S : SH} {me : ME} {o : Nat} {a0 : Nat} {a1 : Int32} {q : Int32 × ME} (hM : mX3_takeNumber S me o a0 a1 = some q) : Ct l D b yX3_takeNumber cX3_takeNumber 3 (some .boolean) 3 65 0 0 [.ref (b + o), .ref (b + a0), .int a1] S me S q.2 (some (.int q.1)) := by
  refine ct_of (own := RX3) (nm := "takeNumber") (lv := [(0, .ref (b + o)), (1, .ref (b + a0)), (2, .int a1)]) (plainFor_of_name (by decide)) rfl rfl (Nat.le_of_ble_eq_true rfl) rfl ⟨rfl, rfl⟩ (fun X cx ex hL => ?_)
  have J26 : ∀ (me : ME) (y0 : Int32), mX3_takeNumber_j26 S o a0 a1 me y0 = some q → WS X b 3 S me 26 [] [.int y0] := by
    intro  me y0 hM
    unfold mX3_takeNumber_j26 at hM
    obtain ⟨h1, hM⟩ := ite_o hM
    exact ws_zretM cx ex h1 hM dX3_takeNumber_26
  have J25 : ∀ (me : ME), mX3_takeNumber_j25 S o a0 a1 me = some q → WS X b 3 S me 25 [] [] := by
    intro  me hM
    unfold mX3_takeNumber_j25 at hM
    refine ws_iconst cx dX3_takeNumber_25 (v := 0) (by decide) ?_
    refine ws_sub [] (lv' := []) rfl ?_
    exact J26 _ _ hM
  unfold mX3_takeNumber at hM
  refine ws_aload_n cx dX3_takeNumber_0 rfl (j := 0) rfl ?_
  refine ws_aload_n cx dX3_takeNumber_1 rfl (j := 1) rfl ?_
  obtain ⟨_, h4, hM⟩ := bnd hM
  obtain ⟨q2, h3, hM⟩ := bnd hM
  refine ws_callV cx (rest := []) (st' := []) (kX3_advance l D b h3) mvX3_advance (ck_k h4) (by decide) (q := (RX3, TX3, 7)) rfl seX3_advance lkX3_36 rfl ⟨by decide, by decide⟩ (Nat.le_of_ble_eq_true rfl) ⟨rfl, rfl⟩ (Or.inl ⟨rfl, rfl⟩) rfl rfl dX3_takeNumber_2 ?_
  refine ws_aload_n cx dX3_takeNumber_5 rfl (j := 0) rfl ?_
  obtain ⟨v5, h6, hM⟩ := bnd hM
  refine ws_getI cx ffX3_40 h6 dX3_takeNumber_6 ?_
  refine ws_iconst cx dX3_takeNumber_9 (v := 2) (by decide) ?_
  refine ws_icmp_ne cx dX3_takeNumber_10 (tgt := 25) (by decide) (fun c7 => ?_) (fun c7 => ?_)
  · have hM := if_f hM c7
    refine ws_sub [] (lv' := []) rfl ?_
    exact J25 _ hM
  · have hM := if_t hM c7
    refine ws_aload_n cx dX3_takeNumber_13 rfl (j := 0) rfl ?_
    obtain ⟨v8, h9, hM⟩ := bnd hM
    refine ws_getI cx ffX3_43 h9 dX3_takeNumber_14 ?_
    refine ws_iload_n cx dX3_takeNumber_17 rfl (j := 2) rfl ?_
    refine ws_icmp_gt cx dX3_takeNumber_18 (tgt := 25) (by decide) (fun c10 => ?_) (fun c10 => ?_)
    · have hM := if_t hM c10
      refine ws_sub [] (lv' := []) rfl ?_
      exact J25 _ hM
    · have hM := if_f hM c10
      refine ws_iconst cx dX3_takeNumber_21 (v := 1) (by decide) ?_
      refine ws_goto cx dX3_takeNumber_22 (tgt := 26) (by decide) ?_
      refine ws_sub [] (lv' := []) rfl ?_
      exact J26 _ _ hM

def mX3_clockOf (S : SH) (me : ME) (a0 : Int32) : Option (Int32 × ME) :=
  if a0 = (98 : Int32) then
    some ((4 : Int32), me)
  else
  if a0 = (99 : Int32) then
    some ((-1 : Int32), me)
  else
  if a0 = (100 : Int32) then
    some ((3 : Int32), me)
  else
  if a0 = (101 : Int32) then
    some ((2 : Int32), me)
  else
  if a0 = (102 : Int32) then
    some ((-1 : Int32), me)
  else
  if a0 = (103 : Int32) then
    some ((-1 : Int32), me)
  else
  if a0 = (104 : Int32) then
    some ((-1 : Int32), me)
  else
  if a0 = (105 : Int32) then
    some ((-1 : Int32), me)
  else
  if a0 = (106 : Int32) then
    some ((-1 : Int32), me)
  else
  if a0 = (107 : Int32) then
    some ((-1 : Int32), me)
  else
  if a0 = (108 : Int32) then
    some ((1 : Int32), me)
  else
  if a0 = (109 : Int32) then
    some ((-1 : Int32), me)
  else
  if a0 = (110 : Int32) then
    some ((-1 : Int32), me)
  else
  if a0 = (111 : Int32) then
    some ((-1 : Int32), me)
  else
  if a0 = (112 : Int32) then
    some ((0 : Int32), me)
  else
  some ((-1 : Int32), me)
set_option maxRecDepth 100000 in
set_option maxHeartbeats 4000000 in
theorem kX3_clockOf (l : Launch) (D : va_G) (b : Nat) {S : SH} {me : ME} {a0 : Int32} {q : Int32 × ME} (hM : mX3_clockOf S me a0 = some q) : Ct l D b yX3_clockOf cX3_clockOf 1 (some .int) 0 0 0 0 [.int a0] S me S q.2 (some (.int q.1)) := by
  refine ct_of (own := RX3) (nm := "clockOf") (lv := [(0, .int a0)]) (plainFor_of_name (by decide)) rfl rfl (Nat.le_of_ble_eq_true rfl) rfl ⟨rfl, rfl⟩ (fun X cx ex hL => ?_)
  unfold mX3_clockOf at hM
  refine ws_iload_n cx dX3_clockOf_0 rfl (j := 0) rfl ?_
  by_cases c1 : a0 = (98 : Int32)
  · have hM := if_t hM c1
    refine ws_tabIn cx dX3_clockOf_1 (tgt := 84) (by rw [c1]; decide) (by rw [c1]; decide) (by rw [c1]; rfl) (by decide) ?_
    refine ws_iconst cx dX3_clockOf_84 (v := 4) (by decide) ?_
    exact ws_iretM cx ex hM dX3_clockOf_85
  · have hM := if_f hM c1
    by_cases c2 : a0 = (99 : Int32)
    · have hM := if_t hM c2
      refine ws_tabIn cx dX3_clockOf_1 (tgt := 86) (by rw [c2]; decide) (by rw [c2]; decide) (by rw [c2]; rfl) (by decide) ?_
      refine ws_iconst cx dX3_clockOf_86 (v := -1) (by decide) ?_
      exact ws_iretM cx ex hM dX3_clockOf_87
    · have hM := if_f hM c2
      by_cases c3 : a0 = (100 : Int32)
      · have hM := if_t hM c3
        refine ws_tabIn cx dX3_clockOf_1 (tgt := 82) (by rw [c3]; decide) (by rw [c3]; decide) (by rw [c3]; rfl) (by decide) ?_
        refine ws_iconst cx dX3_clockOf_82 (v := 3) (by decide) ?_
        exact ws_iretM cx ex hM dX3_clockOf_83
      · have hM := if_f hM c3
        by_cases c4 : a0 = (101 : Int32)
        · have hM := if_t hM c4
          refine ws_tabIn cx dX3_clockOf_1 (tgt := 80) (by rw [c4]; decide) (by rw [c4]; decide) (by rw [c4]; rfl) (by decide) ?_
          refine ws_iconst cx dX3_clockOf_80 (v := 2) (by decide) ?_
          exact ws_iretM cx ex hM dX3_clockOf_81
        · have hM := if_f hM c4
          by_cases c5 : a0 = (102 : Int32)
          · have hM := if_t hM c5
            refine ws_tabIn cx dX3_clockOf_1 (tgt := 86) (by rw [c5]; decide) (by rw [c5]; decide) (by rw [c5]; rfl) (by decide) ?_
            refine ws_iconst cx dX3_clockOf_86 (v := -1) (by decide) ?_
            exact ws_iretM cx ex hM dX3_clockOf_87
          · have hM := if_f hM c5
            by_cases c6 : a0 = (103 : Int32)
            · have hM := if_t hM c6
              refine ws_tabIn cx dX3_clockOf_1 (tgt := 86) (by rw [c6]; decide) (by rw [c6]; decide) (by rw [c6]; rfl) (by decide) ?_
              refine ws_iconst cx dX3_clockOf_86 (v := -1) (by decide) ?_
              exact ws_iretM cx ex hM dX3_clockOf_87
            · have hM := if_f hM c6
              by_cases c7 : a0 = (104 : Int32)
              · have hM := if_t hM c7
                refine ws_tabIn cx dX3_clockOf_1 (tgt := 86) (by rw [c7]; decide) (by rw [c7]; decide) (by rw [c7]; rfl) (by decide) ?_
                refine ws_iconst cx dX3_clockOf_86 (v := -1) (by decide) ?_
                exact ws_iretM cx ex hM dX3_clockOf_87
              · have hM := if_f hM c7
                by_cases c8 : a0 = (105 : Int32)
                · have hM := if_t hM c8
                  refine ws_tabIn cx dX3_clockOf_1 (tgt := 86) (by rw [c8]; decide) (by rw [c8]; decide) (by rw [c8]; rfl) (by decide) ?_
                  refine ws_iconst cx dX3_clockOf_86 (v := -1) (by decide) ?_
                  exact ws_iretM cx ex hM dX3_clockOf_87
                · have hM := if_f hM c8
                  by_cases c9 : a0 = (106 : Int32)
                  · have hM := if_t hM c9
                    refine ws_tabIn cx dX3_clockOf_1 (tgt := 86) (by rw [c9]; decide) (by rw [c9]; decide) (by rw [c9]; rfl) (by decide) ?_
                    refine ws_iconst cx dX3_clockOf_86 (v := -1) (by decide) ?_
                    exact ws_iretM cx ex hM dX3_clockOf_87
                  · have hM := if_f hM c9
                    by_cases c10 : a0 = (107 : Int32)
                    · have hM := if_t hM c10
                      refine ws_tabIn cx dX3_clockOf_1 (tgt := 86) (by rw [c10]; decide) (by rw [c10]; decide) (by rw [c10]; rfl) (by decide) ?_
                      refine ws_iconst cx dX3_clockOf_86 (v := -1) (by decide) ?_
                      exact ws_iretM cx ex hM dX3_clockOf_87
                    · have hM := if_f hM c10
                      by_cases c11 : a0 = (108 : Int32)
                      · have hM := if_t hM c11
                        refine ws_tabIn cx dX3_clockOf_1 (tgt := 78) (by rw [c11]; decide) (by rw [c11]; decide) (by rw [c11]; rfl) (by decide) ?_
                        refine ws_iconst cx dX3_clockOf_78 (v := 1) (by decide) ?_
                        exact ws_iretM cx ex hM dX3_clockOf_79
                      · have hM := if_f hM c11
                        by_cases c12 : a0 = (109 : Int32)
                        · have hM := if_t hM c12
                          refine ws_tabIn cx dX3_clockOf_1 (tgt := 86) (by rw [c12]; decide) (by rw [c12]; decide) (by rw [c12]; rfl) (by decide) ?_
                          refine ws_iconst cx dX3_clockOf_86 (v := -1) (by decide) ?_
                          exact ws_iretM cx ex hM dX3_clockOf_87
                        · have hM := if_f hM c12
                          by_cases c13 : a0 = (110 : Int32)
                          · have hM := if_t hM c13
                            refine ws_tabIn cx dX3_clockOf_1 (tgt := 86) (by rw [c13]; decide) (by rw [c13]; decide) (by rw [c13]; rfl) (by decide) ?_
                            refine ws_iconst cx dX3_clockOf_86 (v := -1) (by decide) ?_
                            exact ws_iretM cx ex hM dX3_clockOf_87
                          · have hM := if_f hM c13
                            by_cases c14 : a0 = (111 : Int32)
                            · have hM := if_t hM c14
                              refine ws_tabIn cx dX3_clockOf_1 (tgt := 86) (by rw [c14]; decide) (by rw [c14]; decide) (by rw [c14]; rfl) (by decide) ?_
                              refine ws_iconst cx dX3_clockOf_86 (v := -1) (by decide) ?_
                              exact ws_iretM cx ex hM dX3_clockOf_87
                            · have hM := if_f hM c14
                              by_cases c15 : a0 = (112 : Int32)
                              · have hM := if_t hM c15
                                refine ws_tabIn cx dX3_clockOf_1 (tgt := 76) (by rw [c15]; decide) (by rw [c15]; decide) (by rw [c15]; rfl) (by decide) ?_
                                refine ws_iconst cx dX3_clockOf_76 (v := 0) (by decide) ?_
                                exact ws_iretM cx ex hM dX3_clockOf_77
                              · have hM := if_f hM c15
                                refine ws_tabOut cx dX3_clockOf_1 (tgt := 86) (by have := lv_neT c1 (show ((98 : Int32)).toInt = 98 from rfl); have := lv_neT c2 (show ((99 : Int32)).toInt = 99 from rfl); have := lv_neT c3 (show ((100 : Int32)).toInt = 100 from rfl); have := lv_neT c4 (show ((101 : Int32)).toInt = 101 from rfl); have := lv_neT c5 (show ((102 : Int32)).toInt = 102 from rfl); have := lv_neT c6 (show ((103 : Int32)).toInt = 103 from rfl); have := lv_neT c7 (show ((104 : Int32)).toInt = 104 from rfl); have := lv_neT c8 (show ((105 : Int32)).toInt = 105 from rfl); have := lv_neT c9 (show ((106 : Int32)).toInt = 106 from rfl); have := lv_neT c10 (show ((107 : Int32)).toInt = 107 from rfl); have := lv_neT c11 (show ((108 : Int32)).toInt = 108 from rfl); have := lv_neT c12 (show ((109 : Int32)).toInt = 109 from rfl); have := lv_neT c13 (show ((110 : Int32)).toInt = 110 from rfl); have := lv_neT c14 (show ((111 : Int32)).toInt = 111 from rfl); have := lv_neT c15 (show ((112 : Int32)).toInt = 112 from rfl); omega) (by decide) ?_
                                refine ws_iconst cx dX3_clockOf_86 (v := -1) (by decide) ?_
                                exact ws_iretM cx ex hM dX3_clockOf_87
end
