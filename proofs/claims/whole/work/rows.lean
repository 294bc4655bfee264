section
-- ===== PART A: goes FIRST, ahead of the names: the tables' words, and 'selects' of the private methods out of them =====
/-- a private method of a class that the tables say can be made, by its rows of tables_1 -/
def lw_okq (q : MethodName × Nat) : Prop := (q.1.cls ≠ "java/lang/invoke/MethodHandle" ∧ q.1.cls ≠ "java/lang/invoke/VarHandle") ∧ Cond.instantiable q.1.cls q.2 ∈ tables_1 ∧ Cond.privateMethod q.1 ∈ tables_1 ∧ Cond.instanceMethod q.1 ∈ tables_1
theorem lw_p0 : lw_okq (⟨"EyeBoard$Row", "keep", "(IJJ)V"⟩, 9) := ⟨⟨by decide +kernel, by decide +kernel⟩, List.mem_of_getElem? (i := 60) (by decide +kernel), List.mem_of_getElem? (i := 105) (by decide +kernel), List.mem_of_getElem? (i := 106) (by decide +kernel)⟩
theorem lw_p1 : lw_okq (⟨"EyeBoard$Row", "stonesThen", "(II)J"⟩, 9) := ⟨⟨by decide +kernel, by decide +kernel⟩, List.mem_of_getElem? (i := 60) (by decide +kernel), List.mem_of_getElem? (i := 224) (by decide +kernel), List.mem_of_getElem? (i := 225) (by decide +kernel)⟩
theorem lw_p2 : lw_okq (⟨"EyeBoard$Row", "moverThen", "(I)I"⟩, 9) := ⟨⟨by decide +kernel, by decide +kernel⟩, List.mem_of_getElem? (i := 60) (by decide +kernel), List.mem_of_getElem? (i := 261) (by decide +kernel), List.mem_of_getElem? (i := 262) (by decide +kernel)⟩
theorem lw_p3 : lw_okq (⟨"EyeBoard$Row", "isRefusedByLaw", "()Z"⟩, 9) := ⟨⟨by decide +kernel, by decide +kernel⟩, List.mem_of_getElem? (i := 60) (by decide +kernel), List.mem_of_getElem? (i := 271) (by decide +kernel), List.mem_of_getElem? (i := 272) (by decide +kernel)⟩
theorem lw_p4 : lw_okq (⟨"EyeBoard$Life", "isVital", "(JJJ)Z"⟩, 1) := ⟨⟨by decide +kernel, by decide +kernel⟩, List.mem_of_getElem? (i := 109) (by decide +kernel), List.mem_of_getElem? (i := 345) (by decide +kernel), List.mem_of_getElem? (i := 346) (by decide +kernel)⟩
theorem lw_p5 : lw_okq (⟨"EyeBoard$Life", "groupsWithoutTwo", "(JJJ)J"⟩, 1) := ⟨⟨by decide +kernel, by decide +kernel⟩, List.mem_of_getElem? (i := 109) (by decide +kernel), List.mem_of_getElem? (i := 355) (by decide +kernel), List.mem_of_getElem? (i := 356) (by decide +kernel)⟩
theorem lw_p6 : lw_okq (⟨"EyeBoard$Chase", "caughtIn", "(I)I"⟩, 5) := ⟨⟨by decide +kernel, by decide +kernel⟩, List.mem_of_getElem? (i := 132) (by decide +kernel), List.mem_of_getElem? (i := 393) (by decide +kernel), List.mem_of_getElem? (i := 394) (by decide +kernel)⟩
theorem lw_p7 : lw_okq (⟨"EyeBoard$Chase", "targetGroup", "()J"⟩, 5) := ⟨⟨by decide +kernel, by decide +kernel⟩, List.mem_of_getElem? (i := 132) (by decide +kernel), List.mem_of_getElem? (i := 397) (by decide +kernel), List.mem_of_getElem? (i := 398) (by decide +kernel)⟩
theorem lw_p8 : lw_okq (⟨"EyeBoard$Chase", "answersFail", "(I)I"⟩, 5) := ⟨⟨by decide +kernel, by decide +kernel⟩, List.mem_of_getElem? (i := 132) (by decide +kernel), List.mem_of_getElem? (i := 411) (by decide +kernel), List.mem_of_getElem? (i := 412) (by decide +kernel)⟩
theorem lw_p9 : lw_okq (⟨"EyeBoard$Chase", "takingCrossings", "(J)J"⟩, 5) := ⟨⟨by decide +kernel, by decide +kernel⟩, List.mem_of_getElem? (i := 132) (by decide +kernel), List.mem_of_getElem? (i := 415) (by decide +kernel), List.mem_of_getElem? (i := 416) (by decide +kernel)⟩
theorem lw_p10 : lw_okq (⟨"EyeBoard$Fight", "takenIn", "(I)I"⟩, 6) := ⟨⟨by decide +kernel, by decide +kernel⟩, List.mem_of_getElem? (i := 154) (by decide +kernel), List.mem_of_getElem? (i := 432) (by decide +kernel), List.mem_of_getElem? (i := 433) (by decide +kernel)⟩
theorem lw_p11 : lw_okq (⟨"EyeBoard$Fight", "takenBehindAct", "(I)I"⟩, 6) := ⟨⟨by decide +kernel, by decide +kernel⟩, List.mem_of_getElem? (i := 154) (by decide +kernel), List.mem_of_getElem? (i := 439) (by decide +kernel), List.mem_of_getElem? (i := 440) (by decide +kernel)⟩
theorem lw_p12 : lw_okq (⟨"EyeBoardModel", "lays", "(III)V"⟩, 29) := ⟨⟨by decide +kernel, by decide +kernel⟩, List.mem_of_getElem? (i := 483) (by decide +kernel), List.mem_of_getElem? (i := 489) (by decide +kernel), List.mem_of_getElem? (i := 490) (by decide +kernel)⟩
theorem lw_p13 : lw_okq (⟨"EyeBoardModel", "isCrossing", "(I)Z"⟩, 29) := ⟨⟨by decide +kernel, by decide +kernel⟩, List.mem_of_getElem? (i := 483) (by decide +kernel), List.mem_of_getElem? (i := 593) (by decide +kernel), List.mem_of_getElem? (i := 594) (by decide +kernel)⟩
theorem lw_p14 : lw_okq (⟨"EyeBoardModel", "size", "()I"⟩, 29) := ⟨⟨by decide +kernel, by decide +kernel⟩, List.mem_of_getElem? (i := 483) (by decide +kernel), List.mem_of_getElem? (i := 597) (by decide +kernel), List.mem_of_getElem? (i := 598) (by decide +kernel)⟩
theorem lw_p15 : lw_okq (⟨"EyeBoardModel", "spread", "(JJ)J"⟩, 29) := ⟨⟨by decide +kernel, by decide +kernel⟩, List.mem_of_getElem? (i := 483) (by decide +kernel), List.mem_of_getElem? (i := 602) (by decide +kernel), List.mem_of_getElem? (i := 603) (by decide +kernel)⟩
def lw_privs_1 : List (MethodName × Nat) := [(⟨"EyeBoard$Row", "keep", "(IJJ)V"⟩, 9), (⟨"EyeBoard$Row", "stonesThen", "(II)J"⟩, 9), (⟨"EyeBoard$Row", "moverThen", "(I)I"⟩, 9), (⟨"EyeBoard$Row", "isRefusedByLaw", "()Z"⟩, 9), (⟨"EyeBoard$Life", "isVital", "(JJJ)Z"⟩, 1), (⟨"EyeBoard$Life", "groupsWithoutTwo", "(JJJ)J"⟩, 1), (⟨"EyeBoard$Chase", "caughtIn", "(I)I"⟩, 5), (⟨"EyeBoard$Chase", "targetGroup", "()J"⟩, 5), (⟨"EyeBoard$Chase", "answersFail", "(I)I"⟩, 5), (⟨"EyeBoard$Chase", "takingCrossings", "(J)J"⟩, 5), (⟨"EyeBoard$Fight", "takenIn", "(I)I"⟩, 6), (⟨"EyeBoard$Fight", "takenBehindAct", "(I)I"⟩, 6), (⟨"EyeBoardModel", "lays", "(III)V"⟩, 29), (⟨"EyeBoardModel", "isCrossing", "(I)Z"⟩, 29), (⟨"EyeBoardModel", "size", "()I"⟩, 29), (⟨"EyeBoardModel", "spread", "(JJ)J"⟩, 29)]
theorem lw_r1 : ∀ q ∈ lw_privs_1, lw_okq q := List.forall_mem_cons.mpr ⟨lw_p0, List.forall_mem_cons.mpr ⟨lw_p1, List.forall_mem_cons.mpr ⟨lw_p2, List.forall_mem_cons.mpr ⟨lw_p3, List.forall_mem_cons.mpr ⟨lw_p4, List.forall_mem_cons.mpr ⟨lw_p5, List.forall_mem_cons.mpr ⟨lw_p6, List.forall_mem_cons.mpr ⟨lw_p7, List.forall_mem_cons.mpr ⟨lw_p8, List.forall_mem_cons.mpr ⟨lw_p9, List.forall_mem_cons.mpr ⟨lw_p10, List.forall_mem_cons.mpr ⟨lw_p11, List.forall_mem_cons.mpr ⟨lw_p12, List.forall_mem_cons.mpr ⟨lw_p13, List.forall_mem_cons.mpr ⟨lw_p14, List.forall_mem_cons.mpr ⟨lw_p15, fun _ h => absurd h List.not_mem_nil⟩⟩⟩⟩⟩⟩⟩⟩⟩⟩⟩⟩⟩⟩⟩⟩
theorem lw_p16 : lw_okq (⟨"EyeBoardModel", "around", "(J)J"⟩, 29) := ⟨⟨by decide +kernel, by decide +kernel⟩, List.mem_of_getElem? (i := 483) (by decide +kernel), List.mem_of_getElem? (i := 606) (by decide +kernel), List.mem_of_getElem? (i := 607) (by decide +kernel)⟩
theorem lw_p17 : lw_okq (⟨"EyeBoardModel", "free", "(JJ)J"⟩, 29) := ⟨⟨by decide +kernel, by decide +kernel⟩, List.mem_of_getElem? (i := 483) (by decide +kernel), List.mem_of_getElem? (i := 610) (by decide +kernel), List.mem_of_getElem? (i := 611) (by decide +kernel)⟩
theorem lw_p18 : lw_okq (⟨"EyeBoardModel", "all", "()J"⟩, 29) := ⟨⟨by decide +kernel, by decide +kernel⟩, List.mem_of_getElem? (i := 483) (by decide +kernel), List.mem_of_getElem? (i := 614) (by decide +kernel), List.mem_of_getElem? (i := 615) (by decide +kernel)⟩
theorem lw_p19 : lw_okq (⟨"EyeBoardModel", "reason", "(III)I"⟩, 29) := ⟨⟨by decide +kernel, by decide +kernel⟩, List.mem_of_getElem? (i := 483) (by decide +kernel), List.mem_of_getElem? (i := 622) (by decide +kernel), List.mem_of_getElem? (i := 623) (by decide +kernel)⟩
theorem lw_p20 : lw_okq (⟨"EyeBoardModel", "laid", "(JJII)I"⟩, 29) := ⟨⟨by decide +kernel, by decide +kernel⟩, List.mem_of_getElem? (i := 483) (by decide +kernel), List.mem_of_getElem? (i := 626) (by decide +kernel), List.mem_of_getElem? (i := 627) (by decide +kernel)⟩
theorem lw_p21 : lw_okq (⟨"EyeBoardModel", "isAgainst", "(II)Z"⟩, 29) := ⟨⟨by decide +kernel, by decide +kernel⟩, List.mem_of_getElem? (i := 483) (by decide +kernel), List.mem_of_getElem? (i := 636) (by decide +kernel), List.mem_of_getElem? (i := 637) (by decide +kernel)⟩
theorem lw_p22 : lw_okq (⟨"EyeBoardModel", "acted", "(IJJ)V"⟩, 29) := ⟨⟨by decide +kernel, by decide +kernel⟩, List.mem_of_getElem? (i := 483) (by decide +kernel), List.mem_of_getElem? (i := 643) (by decide +kernel), List.mem_of_getElem? (i := 644) (by decide +kernel)⟩
theorem lw_p23 : lw_okq (⟨"EyeBoardModel", "passes", "()I"⟩, 29) := ⟨⟨by decide +kernel, by decide +kernel⟩, List.mem_of_getElem? (i := 483) (by decide +kernel), List.mem_of_getElem? (i := 651) (by decide +kernel), List.mem_of_getElem? (i := 652) (by decide +kernel)⟩
theorem lw_p24 : lw_okq (⟨"EyeBoardModel", "atOf", "(I)I"⟩, 29) := ⟨⟨by decide +kernel, by decide +kernel⟩, List.mem_of_getElem? (i := 483) (by decide +kernel), List.mem_of_getElem? (i := 667) (by decide +kernel), List.mem_of_getElem? (i := 668) (by decide +kernel)⟩
theorem lw_p25 : lw_okq (⟨"EyeBoardModel", "groupAt", "(I)J"⟩, 29) := ⟨⟨by decide +kernel, by decide +kernel⟩, List.mem_of_getElem? (i := 483) (by decide +kernel), List.mem_of_getElem? (i := 675) (by decide +kernel), List.mem_of_getElem? (i := 676) (by decide +kernel)⟩
theorem lw_p26 : lw_okq (⟨"EyeBoardModel", "stones", "(I)J"⟩, 29) := ⟨⟨by decide +kernel, by decide +kernel⟩, List.mem_of_getElem? (i := 483) (by decide +kernel), List.mem_of_getElem? (i := 679) (by decide +kernel), List.mem_of_getElem? (i := 680) (by decide +kernel)⟩
theorem lw_p27 : lw_okq (⟨"EyeBoardModel", "breaths", "(J)J"⟩, 29) := ⟨⟨by decide +kernel, by decide +kernel⟩, List.mem_of_getElem? (i := 483) (by decide +kernel), List.mem_of_getElem? (i := 683) (by decide +kernel), List.mem_of_getElem? (i := 684) (by decide +kernel)⟩
theorem lw_p28 : lw_okq (⟨"EyeBoardModel", "vital", "(IJJ)I"⟩, 29) := ⟨⟨by decide +kernel, by decide +kernel⟩, List.mem_of_getElem? (i := 483) (by decide +kernel), List.mem_of_getElem? (i := 687) (by decide +kernel), List.mem_of_getElem? (i := 688) (by decide +kernel)⟩
theorem lw_p29 : lw_okq (⟨"EyeBoardModel", "isVital", "(JJ)Z"⟩, 29) := ⟨⟨by decide +kernel, by decide +kernel⟩, List.mem_of_getElem? (i := 483) (by decide +kernel), List.mem_of_getElem? (i := 691) (by decide +kernel), List.mem_of_getElem? (i := 692) (by decide +kernel)⟩
theorem lw_p30 : lw_okq (⟨"EyeBoardModel", "stand", "(I)J"⟩, 29) := ⟨⟨by decide +kernel, by decide +kernel⟩, List.mem_of_getElem? (i := 483) (by decide +kernel), List.mem_of_getElem? (i := 695) (by decide +kernel), List.mem_of_getElem? (i := 696) (by decide +kernel)⟩
theorem lw_p31 : lw_okq (⟨"EyeBoardModel", "isCaught", "(III)Z"⟩, 29) := ⟨⟨by decide +kernel, by decide +kernel⟩, List.mem_of_getElem? (i := 483) (by decide +kernel), List.mem_of_getElem? (i := 715) (by decide +kernel), List.mem_of_getElem? (i := 716) (by decide +kernel)⟩
def lw_privs_2 : List (MethodName × Nat) := [(⟨"EyeBoardModel", "around", "(J)J"⟩, 29), (⟨"EyeBoardModel", "free", "(JJ)J"⟩, 29), (⟨"EyeBoardModel", "all", "()J"⟩, 29), (⟨"EyeBoardModel", "reason", "(III)I"⟩, 29), (⟨"EyeBoardModel", "laid", "(JJII)I"⟩, 29), (⟨"EyeBoardModel", "isAgainst", "(II)Z"⟩, 29), (⟨"EyeBoardModel", "acted", "(IJJ)V"⟩, 29), (⟨"EyeBoardModel", "passes", "()I"⟩, 29), (⟨"EyeBoardModel", "atOf", "(I)I"⟩, 29), (⟨"EyeBoardModel", "groupAt", "(I)J"⟩, 29), (⟨"EyeBoardModel", "stones", "(I)J"⟩, 29), (⟨"EyeBoardModel", "breaths", "(J)J"⟩, 29), (⟨"EyeBoardModel", "vital", "(IJJ)I"⟩, 29), (⟨"EyeBoardModel", "isVital", "(JJ)Z"⟩, 29), (⟨"EyeBoardModel", "stand", "(I)J"⟩, 29), (⟨"EyeBoardModel", "isCaught", "(III)Z"⟩, 29)]
theorem lw_r2 : ∀ q ∈ lw_privs_2, lw_okq q := List.forall_mem_cons.mpr ⟨lw_p16, List.forall_mem_cons.mpr ⟨lw_p17, List.forall_mem_cons.mpr ⟨lw_p18, List.forall_mem_cons.mpr ⟨lw_p19, List.forall_mem_cons.mpr ⟨lw_p20, List.forall_mem_cons.mpr ⟨lw_p21, List.forall_mem_cons.mpr ⟨lw_p22, List.forall_mem_cons.mpr ⟨lw_p23, List.forall_mem_cons.mpr ⟨lw_p24, List.forall_mem_cons.mpr ⟨lw_p25, List.forall_mem_cons.mpr ⟨lw_p26, List.forall_mem_cons.mpr ⟨lw_p27, List.forall_mem_cons.mpr ⟨lw_p28, List.forall_mem_cons.mpr ⟨lw_p29, List.forall_mem_cons.mpr ⟨lw_p30, List.forall_mem_cons.mpr ⟨lw_p31, fun _ h => absurd h List.not_mem_nil⟩⟩⟩⟩⟩⟩⟩⟩⟩⟩⟩⟩⟩⟩⟩⟩
theorem lw_p32 : lw_okq (⟨"EyeBoardModel", "comes", "(IJJII)V"⟩, 29) := ⟨⟨by decide +kernel, by decide +kernel⟩, List.mem_of_getElem? (i := 483) (by decide +kernel), List.mem_of_getElem? (i := 719) (by decide +kernel), List.mem_of_getElem? (i := 720) (by decide +kernel)⟩
theorem lw_p33 : lw_okq (⟨"EyeBoardModel", "chaseBreaths", "(JJII)J"⟩, 29) := ⟨⟨by decide +kernel, by decide +kernel⟩, List.mem_of_getElem? (i := 483) (by decide +kernel), List.mem_of_getElem? (i := 723) (by decide +kernel), List.mem_of_getElem? (i := 724) (by decide +kernel)⟩
theorem lw_p34 : lw_okq (⟨"EyeBoardModel", "mayChase", "(III)Z"⟩, 29) := ⟨⟨by decide +kernel, by decide +kernel⟩, List.mem_of_getElem? (i := 483) (by decide +kernel), List.mem_of_getElem? (i := 727) (by decide +kernel), List.mem_of_getElem? (i := 728) (by decide +kernel)⟩
theorem lw_p35 : lw_okq (⟨"EyeBoardModel", "isAt", "(JJ)Z"⟩, 29) := ⟨⟨by decide +kernel, by decide +kernel⟩, List.mem_of_getElem? (i := 483) (by decide +kernel), List.mem_of_getElem? (i := 731) (by decide +kernel), List.mem_of_getElem? (i := 732) (by decide +kernel)⟩
theorem lw_p36 : lw_okq (⟨"EyeBoardModel", "counts", "()V"⟩, 29) := ⟨⟨by decide +kernel, by decide +kernel⟩, List.mem_of_getElem? (i := 483) (by decide +kernel), List.mem_of_getElem? (i := 735) (by decide +kernel), List.mem_of_getElem? (i := 736) (by decide +kernel)⟩
theorem lw_p37 : lw_okq (⟨"EyeBoardModel", "nextAnswer", "(I)I"⟩, 29) := ⟨⟨by decide +kernel, by decide +kernel⟩, List.mem_of_getElem? (i := 483) (by decide +kernel), List.mem_of_getElem? (i := 739) (by decide +kernel), List.mem_of_getElem? (i := 740) (by decide +kernel)⟩
theorem lw_p38 : lw_okq (⟨"EyeBoardModel", "mayAnswer", "(III)Z"⟩, 29) := ⟨⟨by decide +kernel, by decide +kernel⟩, List.mem_of_getElem? (i := 483) (by decide +kernel), List.mem_of_getElem? (i := 743) (by decide +kernel), List.mem_of_getElem? (i := 744) (by decide +kernel)⟩
theorem lw_p39 : lw_okq (⟨"EyeBoardModel", "findAnswers", "(III)V"⟩, 29) := ⟨⟨by decide +kernel, by decide +kernel⟩, List.mem_of_getElem? (i := 483) (by decide +kernel), List.mem_of_getElem? (i := 747) (by decide +kernel), List.mem_of_getElem? (i := 748) (by decide +kernel)⟩
theorem lw_p40 : lw_okq (⟨"EyeBoardModel", "isTaken", "(III)Z"⟩, 29) := ⟨⟨by decide +kernel, by decide +kernel⟩, List.mem_of_getElem? (i := 483) (by decide +kernel), List.mem_of_getElem? (i := 755) (by decide +kernel), List.mem_of_getElem? (i := 756) (by decide +kernel)⟩
theorem lw_p41 : lw_okq (⟨"EyeBoardModel", "isGone", "(III)Z"⟩, 29) := ⟨⟨by decide +kernel, by decide +kernel⟩, List.mem_of_getElem? (i := 483) (by decide +kernel), List.mem_of_getElem? (i := 759) (by decide +kernel), List.mem_of_getElem? (i := 760) (by decide +kernel)⟩
theorem lw_p42 : lw_okq (⟨"EyeBoardModel", "pointsOf", "(II)I"⟩, 29) := ⟨⟨by decide +kernel, by decide +kernel⟩, List.mem_of_getElem? (i := 483) (by decide +kernel), List.mem_of_getElem? (i := 775) (by decide +kernel), List.mem_of_getElem? (i := 776) (by decide +kernel)⟩
def lw_privs_3 : List (MethodName × Nat) := [(⟨"EyeBoardModel", "comes", "(IJJII)V"⟩, 29), (⟨"EyeBoardModel", "chaseBreaths", "(JJII)J"⟩, 29), (⟨"EyeBoardModel", "mayChase", "(III)Z"⟩, 29), (⟨"EyeBoardModel", "isAt", "(JJ)Z"⟩, 29), (⟨"EyeBoardModel", "counts", "()V"⟩, 29), (⟨"EyeBoardModel", "nextAnswer", "(I)I"⟩, 29), (⟨"EyeBoardModel", "mayAnswer", "(III)Z"⟩, 29), (⟨"EyeBoardModel", "findAnswers", "(III)V"⟩, 29), (⟨"EyeBoardModel", "isTaken", "(III)Z"⟩, 29), (⟨"EyeBoardModel", "isGone", "(III)Z"⟩, 29), (⟨"EyeBoardModel", "pointsOf", "(II)I"⟩, 29)]
theorem lw_r3 : ∀ q ∈ lw_privs_3, lw_okq q := List.forall_mem_cons.mpr ⟨lw_p32, List.forall_mem_cons.mpr ⟨lw_p33, List.forall_mem_cons.mpr ⟨lw_p34, List.forall_mem_cons.mpr ⟨lw_p35, List.forall_mem_cons.mpr ⟨lw_p36, List.forall_mem_cons.mpr ⟨lw_p37, List.forall_mem_cons.mpr ⟨lw_p38, List.forall_mem_cons.mpr ⟨lw_p39, List.forall_mem_cons.mpr ⟨lw_p40, List.forall_mem_cons.mpr ⟨lw_p41, List.forall_mem_cons.mpr ⟨lw_p42, fun _ h => absurd h List.not_mem_nil⟩⟩⟩⟩⟩⟩⟩⟩⟩⟩⟩
def lw_privs : List (MethodName × Nat) := lw_privs_1 ++ (lw_privs_2 ++ (lw_privs_3))
def lw_tbl : List Cond := k2_sels lw_privs ++ tables_1
theorem lw_privs_ok : ∀ q ∈ lw_privs, lw_okq q := by
  show ∀ q ∈ lw_privs_1 ++ (lw_privs_2 ++ (lw_privs_3)), lw_okq q
  exact List.forall_mem_append.mpr ⟨lw_r1, List.forall_mem_append.mpr ⟨lw_r2, lw_r3⟩⟩
end
section
theorem goodIn_r {big : List Cond} (ws : List Cond) (ps : List Nat) (hp : ws = ps.filterMap (fun i => big[i]?)) (h : ws.all goodWord = true) : GoodIn big ws := by
  intro w hw
  have h1 := List.all_eq_true.mp h w hw
  rw [hp] at hw
  obtain ⟨i, -, hi⟩ := List.mem_filterMap.mp hw
  have hm : w ∈ big := by first | exact List.mem_of_getElem? hi | exact List.getElem?_mem hi
  exact ⟨hm, good_of_word h1⟩
theorem goodIn_app {big a b : List Cond} (ha : GoodIn big a) (hb : GoodIn big b) : GoodIn big (a ++ b) := fun w h => (List.mem_append.mp h).elim (ha w) (hb w)
theorem goodIn_ca {big a b : List Cond} {c : Cond} (ha : GoodIn big (c :: a)) (hb : GoodIn big b) : GoodIn big (c :: (a ++ b)) := fun w h => (List.mem_cons.mp h).elim (fun e => ha w (List.mem_cons.mpr (Or.inl e))) (fun h => (List.mem_append.mp h).elim (fun h => ha w (List.mem_cons.mpr (Or.inr h))) (hb w))
theorem goodIn_sub {big ws : List Cond} (hm : ∀ w ∈ ws, w ∈ big) (h : ws.all goodWord = true) : GoodIn big ws := fun w hw => ⟨hm w hw, good_of_word (List.all_eq_true.mp h w hw)⟩

def RX0 : String := "EyeBoard$Chase"
def TX0 : u_T := fun k => match k with
  | 0 => ("EyeBoard$Chase", "grid", "LEyeBoard$Grid;", true)
  | 1 => ("EyeBoard$Chase", "row", "LEyeBoard$Row;", true)
  | 2 => ("EyeBoard$Chase", "tried", "LEyeBoard$Tries;", true)
  | 3 => ("EyeBoard$Chase", "target", "I", false)
  | _ => ("EyeBoard$Chase", "chased", "I", false)
def tyX0 : Nat → FieldType := fun k => match k with
  | 0 => .object "EyeBoard$Grid"
  | 1 => .object "EyeBoard$Row"
  | 2 => .object "EyeBoard$Tries"
  | 3 => .int
  | _ => .int
abbrev wsX00 : List Cond := u_ws RX0 TX0 5
theorem nmX0 : ∀ a, a < 5 → ∀ b, b < 5 → a ≠ b → (TX0 a).2.1 ≠ (TX0 b).2.1 := by decide +kernel
theorem tyX0_ok : ∀ k, k < 5 → parseFieldDescriptor (TX0 k).2.2.1 = some (tyX0 k) := by decide +kernel
abbrev cX0_init : ByteArray := prog_2_method_1_code
def yX0_init : MethodName := ⟨RX0, "<init>", "(LEyeBoard$Grid;LEyeBoard$Row;LEyeBoard$Tries;)V"⟩
abbrev cX0_read : ByteArray := prog_2_method_2_code
def yX0_read : MethodName := ⟨RX0, "read", "(LEyeBoard$Row;II)I"⟩
abbrev cX0_targetGroup : ByteArray := prog_2_method_3_code
def yX0_targetGroup : MethodName := ⟨RX0, "targetGroup", "()J"⟩
abbrev cX0_caughtIn : ByteArray := prog_2_method_4_code
def yX0_caughtIn : MethodName := ⟨RX0, "caughtIn", "(I)I"⟩
abbrev cX0_answersFail : ByteArray := prog_2_method_5_code
def yX0_answersFail : MethodName := ⟨RX0, "answersFail", "(I)I"⟩
abbrev cX0_takingCrossings : ByteArray := prog_2_method_6_code
def yX0_takingCrossings : MethodName := ⟨RX0, "takingCrossings", "(J)J"⟩
def RX1 : String := "EyeBoard$Fight"
def TX1 : u_T := fun k => match k with
  | 0 => ("EyeBoard$Fight", "grid", "LEyeBoard$Grid;", true)
  | 1 => ("EyeBoard$Fight", "row", "LEyeBoard$Row;", true)
  | 2 => ("EyeBoard$Fight", "tried", "LEyeBoard$Tries;", true)
  | 3 => ("EyeBoard$Fight", "target", "I", false)
  | 4 => ("EyeBoard$Fight", "attacked", "I", false)
  | _ => ("EyeBoard$Fight", "decidingAct", "I", false)
def tyX1 : Nat → FieldType := fun k => match k with
  | 0 => .object "EyeBoard$Grid"
  | 1 => .object "EyeBoard$Row"
  | 2 => .object "EyeBoard$Tries"
  | 3 => .int
  | 4 => .int
  | _ => .int
abbrev wsX10 : List Cond := u_ws RX1 TX1 6
theorem nmX1 : ∀ a, a < 6 → ∀ b, b < 6 → a ≠ b → (TX1 a).2.1 ≠ (TX1 b).2.1 := by decide +kernel
theorem tyX1_ok : ∀ k, k < 6 → parseFieldDescriptor (TX1 k).2.2.1 = some (tyX1 k) := by decide +kernel
abbrev cX1_init : ByteArray := prog_3_method_1_code
def yX1_init : MethodName := ⟨RX1, "<init>", "(LEyeBoard$Grid;LEyeBoard$Row;LEyeBoard$Tries;)V"⟩
abbrev cX1_read : ByteArray := prog_3_method_2_code
def yX1_read : MethodName := ⟨RX1, "read", "(II)I"⟩
abbrev cX1_takenIn : ByteArray := prog_3_method_3_code
def yX1_takenIn : MethodName := ⟨RX1, "takenIn", "(I)I"⟩
abbrev cX1_takenBehindAct : ByteArray := prog_3_method_4_code
def yX1_takenBehindAct : MethodName := ⟨RX1, "takenBehindAct", "(I)I"⟩
def RX2 : String := "EyeBoard$Grid"
def TX2 : u_T := fun k => match k with
  | 0 => ("EyeBoard$Grid", "width", "I", false)
  | 1 => ("EyeBoard$Grid", "height", "I", false)
  | 2 => ("EyeBoard$Grid", "size", "I", false)
  | 3 => ("EyeBoard$Grid", "all", "J", false)
  | 4 => ("EyeBoard$Grid", "notFirstColumn", "J", false)
  | _ => ("EyeBoard$Grid", "notLastColumn", "J", false)
def tyX2 : Nat → FieldType := fun k => match k with
  | 0 => .int
  | 1 => .int
  | 2 => .int
  | 3 => .long
  | 4 => .long
  | _ => .long
abbrev wsX20 : List Cond := u_ws RX2 TX2 6
theorem nmX2 : ∀ a, a < 6 → ∀ b, b < 6 → a ≠ b → (TX2 a).2.1 ≠ (TX2 b).2.1 := by decide +kernel
theorem tyX2_ok : ∀ k, k < 6 → parseFieldDescriptor (TX2 k).2.2.1 = some (tyX2 k) := by decide +kernel
abbrev cX2_init : ByteArray := prog_4_method_1_code
def yX2_init : MethodName := ⟨RX2, "<init>", "()V"⟩
abbrev cX2_measure : ByteArray := prog_4_method_2_code
def yX2_measure : MethodName := ⟨RX2, "measure", "(II)V"⟩
abbrev cX2_has : ByteArray := prog_4_method_3_code
def yX2_has : MethodName := ⟨RX2, "has", "(I)Z"⟩
abbrev cX2_holds : ByteArray := prog_4_method_4_code
def yX2_holds : MethodName := ⟨RX2, "holds", "(JI)Z"⟩
abbrev cX2_beside : ByteArray := prog_4_method_5_code
def yX2_beside : MethodName := ⟨RX2, "beside", "(J)J"⟩
abbrev cX2_spread : ByteArray := prog_4_method_6_code
def yX2_spread : MethodName := ⟨RX2, "spread", "(JJ)J"⟩
abbrev cX2_partFrom : ByteArray := prog_4_method_7_code
def yX2_partFrom : MethodName := ⟨RX2, "partFrom", "(JI)J"⟩
abbrev cX2_allBreathe : ByteArray := prog_4_method_8_code
def yX2_allBreathe : MethodName := ⟨RX2, "allBreathe", "(JJ)Z"⟩
abbrev cX2_nth : ByteArray := prog_4_method_9_code
def yX2_nth : MethodName := ⟨RX2, "nth", "(JI)I"⟩
abbrev cX2_freeOf : ByteArray := prog_4_method_10_code
def yX2_freeOf : MethodName := ⟨RX2, "freeOf", "(JJ)J"⟩
def RX3 : String := "EyeBoard$Life"
def TX3 : u_T := fun k => match k with
  | _ => ("EyeBoard$Life", "grid", "LEyeBoard$Grid;", true)
def tyX3 : Nat → FieldType := fun k => match k with
  | _ => .object "EyeBoard$Grid"
abbrev wsX30 : List Cond := u_ws RX3 TX3 1
theorem nmX3 : ∀ a, a < 1 → ∀ b, b < 1 → a ≠ b → (TX3 a).2.1 ≠ (TX3 b).2.1 := by decide +kernel
theorem tyX3_ok : ∀ k, k < 1 → parseFieldDescriptor (TX3 k).2.2.1 = some (tyX3 k) := by decide +kernel
abbrev cX3_init : ByteArray := prog_5_method_1_code
def yX3_init : MethodName := ⟨RX3, "<init>", "(LEyeBoard$Grid;)V"⟩
abbrev cX3_isVital : ByteArray := prog_5_method_2_code
def yX3_isVital : MethodName := ⟨RX3, "isVital", "(JJJ)Z"⟩
abbrev cX3_vitalRegions : ByteArray := prog_5_method_3_code
def yX3_vitalRegions : MethodName := ⟨RX3, "vitalRegions", "(JJJ)I"⟩
abbrev cX3_groupsTouched : ByteArray := prog_5_method_4_code
def yX3_groupsTouched : MethodName := ⟨RX3, "groupsTouched", "(JJ)I"⟩
abbrev cX3_groupsItIsVitalTo : ByteArray := prog_5_method_5_code
def yX3_groupsItIsVitalTo : MethodName := ⟨RX3, "groupsItIsVitalTo", "(JJJ)I"⟩
abbrev cX3_standingStones : ByteArray := prog_5_method_6_code
def yX3_standingStones : MethodName := ⟨RX3, "standingStones", "(JJ)J"⟩
abbrev cX3_groupsWithoutTwo : ByteArray := prog_5_method_7_code
def yX3_groupsWithoutTwo : MethodName := ⟨RX3, "groupsWithoutTwo", "(JJJ)J"⟩
def RX4 : String := "EyeBoard$Row"
def TX4 : u_T := fun k => match k with
  | 0 => ("EyeBoard$Row", "grid", "LEyeBoard$Grid;", true)
  | 1 => ("EyeBoard$Row", "black", "[J", true)
  | 2 => ("EyeBoard$Row", "white", "[J", true)
  | 3 => ("EyeBoard$Row", "acts", "[I", true)
  | 4 => ("EyeBoard$Row", "law", "I", false)
  | 5 => ("EyeBoard$Row", "latest", "I", false)
  | 6 => ("EyeBoard$Row", "opener", "I", false)
  | 7 => ("EyeBoard$Row", "blackThen", "J", false)
  | _ => ("EyeBoard$Row", "whiteThen", "J", false)
def tyX4 : Nat → FieldType := fun k => match k with
  | 0 => .object "EyeBoard$Grid"
  | 1 => .array .long
  | 2 => .array .long
  | 3 => .array .int
  | 4 => .int
  | 5 => .int
  | 6 => .int
  | 7 => .long
  | _ => .long
abbrev wsX40 : List Cond := u_ws RX4 TX4 9
theorem nmX4 : ∀ a, a < 9 → ∀ b, b < 9 → a ≠ b → (TX4 a).2.1 ≠ (TX4 b).2.1 := by decide +kernel
theorem tyX4_ok : ∀ k, k < 9 → parseFieldDescriptor (TX4 k).2.2.1 = some (tyX4 k) := by decide +kernel
abbrev cX4_init : ByteArray := prog_6_method_1_code
def yX4_init : MethodName := ⟨RX4, "<init>", "(LEyeBoard$Grid;I)V"⟩
abbrev cX4_begin : ByteArray := prog_6_method_2_code
def yX4_begin : MethodName := ⟨RX4, "begin", "(JJII)V"⟩
abbrev cX4_keep : ByteArray := prog_6_method_3_code
def yX4_keep : MethodName := ⟨RX4, "keep", "(IJJ)V"⟩
abbrev cX4_stonesThen : ByteArray := prog_6_method_4_code
def yX4_stonesThen : MethodName := ⟨RX4, "stonesThen", "(II)J"⟩
abbrev cX4_moverThen : ByteArray := prog_6_method_5_code
def yX4_moverThen : MethodName := ⟨RX4, "moverThen", "(I)I"⟩
abbrev cX4_stonesOf : ByteArray := prog_6_method_6_code
def yX4_stonesOf : MethodName := ⟨RX4, "stonesOf", "(I)J"⟩
abbrev cX4_mover : ByteArray := prog_6_method_7_code
def yX4_mover : MethodName := ⟨RX4, "mover", "()I"⟩
abbrev cX4_free : ByteArray := prog_6_method_8_code
def yX4_free : MethodName := ⟨RX4, "free", "()J"⟩
abbrev cX4_colourAt : ByteArray := prog_6_method_9_code
def yX4_colourAt : MethodName := ⟨RX4, "colourAt", "(I)I"⟩
abbrev cX4_actAt : ByteArray := prog_6_method_10_code
def yX4_actAt : MethodName := ⟨RX4, "actAt", "(I)I"⟩
abbrev cX4_reasonAgainst : ByteArray := prog_6_method_11_code
def yX4_reasonAgainst : MethodName := ⟨RX4, "reasonAgainst", "(I)I"⟩
abbrev cX4_isRefusedByLaw : ByteArray := prog_6_method_12_code
def yX4_isRefusedByLaw : MethodName := ⟨RX4, "isRefusedByLaw", "()Z"⟩
abbrev cX4_add : ByteArray := prog_6_method_13_code
def yX4_add : MethodName := ⟨RX4, "add", "(I)Z"⟩
abbrev cX4_takeBack : ByteArray := prog_6_method_14_code
def yX4_takeBack : MethodName := ⟨RX4, "takeBack", "()V"⟩
abbrev cX4_passesNow : ByteArray := prog_6_method_15_code
def yX4_passesNow : MethodName := ⟨RX4, "passesNow", "()I"⟩
abbrev cX4_takenBy : ByteArray := prog_6_method_16_code
def yX4_takenBy : MethodName := ⟨RX4, "takenBy", "(II)I"⟩
abbrev cX4_taken : ByteArray := prog_6_method_17_code
def yX4_taken : MethodName := ⟨RX4, "taken", "(I)I"⟩
def RX5 : String := "EyeBoard$Tries"
def TX5 : u_T := fun k => match k with
  | _ => ("EyeBoard$Tries", "made", "I", false)
def tyX5 : Nat → FieldType := fun k => match k with
  | _ => .int
abbrev wsX50 : List Cond := u_ws RX5 TX5 1
theorem nmX5 : ∀ a, a < 1 → ∀ b, b < 1 → a ≠ b → (TX5 a).2.1 ≠ (TX5 b).2.1 := by decide +kernel
theorem tyX5_ok : ∀ k, k < 1 → parseFieldDescriptor (TX5 k).2.2.1 = some (tyX5 k) := by decide +kernel
abbrev cX5_init : ByteArray := prog_7_method_1_code
def yX5_init : MethodName := ⟨RX5, "<init>", "()V"⟩
abbrev cX5_oneMore : ByteArray := prog_7_method_2_code
def yX5_oneMore : MethodName := ⟨RX5, "oneMore", "()Z"⟩
def RX6 : String := "EyeBoard"
def TX6 : u_T := fun k => match k with
  | 0 => ("EyeBoard", "grid", "LEyeBoard$Grid;", true)
  | 1 => ("EyeBoard", "row", "LEyeBoard$Row;", true)
  | 2 => ("EyeBoard", "life", "LEyeBoard$Life;", true)
  | 3 => ("EyeBoard", "tried", "LEyeBoard$Tries;", true)
  | 4 => ("EyeBoard", "hunt", "LEyeBoard$Chase;", true)
  | 5 => ("EyeBoard", "struggle", "LEyeBoard$Fight;", true)
  | _ => ("EyeBoard", "winningAct", "I", false)
def tyX6 : Nat → FieldType := fun k => match k with
  | 0 => .object "EyeBoard$Grid"
  | 1 => .object "EyeBoard$Row"
  | 2 => .object "EyeBoard$Life"
  | 3 => .object "EyeBoard$Tries"
  | 4 => .object "EyeBoard$Chase"
  | 5 => .object "EyeBoard$Fight"
  | _ => .int
abbrev wsX60 : List Cond := u_ws RX6 TX6 7
theorem nmX6 : ∀ a, a < 7 → ∀ b, b < 7 → a ≠ b → (TX6 a).2.1 ≠ (TX6 b).2.1 := by decide +kernel
theorem tyX6_ok : ∀ k, k < 7 → parseFieldDescriptor (TX6 k).2.2.1 = some (tyX6 k) := by decide +kernel
abbrev cX6_init : ByteArray := prog_1_method_1_code
def yX6_init : MethodName := ⟨RX6, "<init>", "()V"⟩
abbrev cX6_board : ByteArray := prog_1_method_2_code
def yX6_board : MethodName := ⟨RX6, "board", "(III)I"⟩
abbrev cX6_set : ByteArray := prog_1_method_3_code
def yX6_set : MethodName := ⟨RX6, "set", "(III)I"⟩
abbrev cX6_lay : ByteArray := prog_1_method_4_code
def yX6_lay : MethodName := ⟨RX6, "lay", "(I)I"⟩
abbrev cX6_pass : ByteArray := prog_1_method_5_code
def yX6_pass : MethodName := ⟨RX6, "pass", "()I"⟩
abbrev cX6_why : ByteArray := prog_1_method_6_code
def yX6_why : MethodName := ⟨RX6, "why", "(I)I"⟩
abbrev cX6_undo : ByteArray := prog_1_method_7_code
def yX6_undo : MethodName := ⟨RX6, "undo", "()I"⟩
abbrev cX6_at : ByteArray := prog_1_method_8_code
def yX6_at : MethodName := ⟨RX6, "at", "(I)I"⟩
abbrev cX6_group : ByteArray := prog_1_method_9_code
def yX6_group : MethodName := ⟨RX6, "group", "(II)I"⟩
abbrev cX6_breath : ByteArray := prog_1_method_10_code
def yX6_breath : MethodName := ⟨RX6, "breath", "(II)I"⟩
abbrev cX6_region : ByteArray := prog_1_method_11_code
def yX6_region : MethodName := ⟨RX6, "region", "(III)I"⟩
abbrev cX6_standing : ByteArray := prog_1_method_12_code
def yX6_standing : MethodName := ⟨RX6, "standing", "(I)I"⟩
abbrev cX6_chase : ByteArray := prog_1_method_13_code
def yX6_chase : MethodName := ⟨RX6, "chase", "(II)I"⟩
abbrev cX6_fight : ByteArray := prog_1_method_14_code
def yX6_fight : MethodName := ⟨RX6, "fight", "(II)I"⟩
abbrev cX6_tries : ByteArray := prog_1_method_15_code
def yX6_tries : MethodName := ⟨RX6, "tries", "()I"⟩
abbrev cX6_first : ByteArray := prog_1_method_16_code
def yX6_first : MethodName := ⟨RX6, "first", "()I"⟩
abbrev cX6_points : ByteArray := prog_1_method_17_code
def yX6_points : MethodName := ⟨RX6, "points", "(II)I"⟩
abbrev cX6_count : ByteArray := prog_1_method_18_code
def yX6_count : MethodName := ⟨RX6, "count", "(I)I"⟩
abbrev cX6_act : ByteArray := prog_1_method_19_code
def yX6_act : MethodName := ⟨RX6, "act", "(I)I"⟩
abbrev cX6_digest : ByteArray := prog_1_method_20_code
def yX6_digest : MethodName := ⟨RX6, "digest", "()J"⟩
abbrev cX6_isSide : ByteArray := prog_1_method_21_code
def yX6_isSide : MethodName := ⟨RX6, "isSide", "(I)Z"⟩
abbrev cX6_isColour : ByteArray := prog_1_method_22_code
def yX6_isColour : MethodName := ⟨RX6, "isColour", "(I)Z"⟩
abbrev cX6_other : ByteArray := prog_1_method_23_code
def yX6_other : MethodName := ⟨RX6, "other", "(I)I"⟩
def RX7 : String := "EyeBoardModel"
def TX7 : u_T := fun k => match k with
  | 0 => ("EyeBoardModel", "wide", "I", false)
  | 1 => ("EyeBoardModel", "high", "I", false)
  | 2 => ("EyeBoardModel", "law", "I", false)
  | 3 => ("EyeBoardModel", "neighbours", "[J", true)
  | 4 => ("EyeBoardModel", "acts", "I", false)
  | 5 => ("EyeBoardModel", "act", "[I", true)
  | 6 => ("EyeBoardModel", "blackAt", "[J", true)
  | 7 => ("EyeBoardModel", "whiteAt", "[J", true)
  | 8 => ("EyeBoardModel", "moveAt", "[I", true)
  | 9 => ("EyeBoardModel", "takenBlack", "[I", true)
  | 10 => ("EyeBoardModel", "takenWhite", "[I", true)
  | 11 => ("EyeBoardModel", "newBlack", "J", false)
  | 12 => ("EyeBoardModel", "newWhite", "J", false)
  | 13 => ("EyeBoardModel", "taken", "I", false)
  | 14 => ("EyeBoardModel", "triesMany", "I", false)
  | 15 => ("EyeBoardModel", "isSpent", "Z", false)
  | 16 => ("EyeBoardModel", "chaseBlack", "[J", true)
  | 17 => ("EyeBoardModel", "chaseWhite", "[J", true)
  | 18 => ("EyeBoardModel", "aheadBlack", "[J", true)
  | 19 => ("EyeBoardModel", "aheadWhite", "[J", true)
  | 20 => ("EyeBoardModel", "hasAhead", "[Z", true)
  | 21 => ("EyeBoardModel", "breathsLeft", "[J", true)
  | 22 => ("EyeBoardModel", "laidBlack", "[J", true)
  | 23 => ("EyeBoardModel", "laidWhite", "[J", true)
  | 24 => ("EyeBoardModel", "answersLeft", "[J", true)
  | 25 => ("EyeBoardModel", "firstAnswer", "[I", true)
  | 26 => ("EyeBoardModel", "answering", "[Z", true)
  | 27 => ("EyeBoardModel", "found", "I", false)
  | _ => ("EyeBoardModel", "next", "[I", true)
def tyX7 : Nat → FieldType := fun k => match k with
  | 0 => .int
  | 1 => .int
  | 2 => .int
  | 3 => .array .long
  | 4 => .int
  | 5 => .array .int
  | 6 => .array .long
  | 7 => .array .long
  | 8 => .array .int
  | 9 => .array .int
  | 10 => .array .int
  | 11 => .long
  | 12 => .long
  | 13 => .int
  | 14 => .int
  | 15 => .boolean
  | 16 => .array .long
  | 17 => .array .long
  | 18 => .array .long
  | 19 => .array .long
  | 20 => .array .boolean
  | 21 => .array .long
  | 22 => .array .long
  | 23 => .array .long
  | 24 => .array .long
  | 25 => .array .int
  | 26 => .array .boolean
  | 27 => .int
  | _ => .array .int
abbrev wsX70 : List Cond := u_ws RX7 TX7 29
theorem nmX7 : ∀ a, a < 29 → ∀ b, b < 29 → a ≠ b → (TX7 a).2.1 ≠ (TX7 b).2.1 := by decide +kernel
theorem tyX7_ok : ∀ k, k < 29 → parseFieldDescriptor (TX7 k).2.2.1 = some (tyX7 k) := by decide +kernel
abbrev cX7_in : ByteArray := prog_9_method_2_code
def yX7_in : MethodName := ⟨RX7, "in", "(III)Z"⟩
abbrev cX7_init : ByteArray := prog_9_method_3_code
def yX7_init : MethodName := ⟨RX7, "<init>", "()V"⟩
abbrev cX7_lays : ByteArray := prog_9_method_4_code
def yX7_lays : MethodName := ⟨RX7, "lays", "(III)V"⟩
abbrev cX7_size : ByteArray := prog_9_method_5_code
def yX7_size : MethodName := ⟨RX7, "size", "()I"⟩
abbrev cX7_isCrossing : ByteArray := prog_9_method_6_code
def yX7_isCrossing : MethodName := ⟨RX7, "isCrossing", "(I)Z"⟩
abbrev cX7_many : ByteArray := prog_9_method_7_code
def yX7_many : MethodName := ⟨RX7, "many", "(J)I"⟩
abbrev cX7_least : ByteArray := prog_9_method_8_code
def yX7_least : MethodName := ⟨RX7, "least", "(JI)I"⟩
abbrev cX7_around : ByteArray := prog_9_method_9_code
def yX7_around : MethodName := ⟨RX7, "around", "(J)J"⟩
abbrev cX7_spread : ByteArray := prog_9_method_10_code
def yX7_spread : MethodName := ⟨RX7, "spread", "(JJ)J"⟩
abbrev cX7_all : ByteArray := prog_9_method_11_code
def yX7_all : MethodName := ⟨RX7, "all", "()J"⟩
abbrev cX7_free : ByteArray := prog_9_method_12_code
def yX7_free : MethodName := ⟨RX7, "free", "(JJ)J"⟩
abbrev cX7_other : ByteArray := prog_9_method_13_code
def yX7_other : MethodName := ⟨RX7, "other", "(I)I"⟩
abbrev cX7_laid : ByteArray := prog_9_method_14_code
def yX7_laid : MethodName := ⟨RX7, "laid", "(JJII)I"⟩
abbrev cX7_isAgainst : ByteArray := prog_9_method_15_code
def yX7_isAgainst : MethodName := ⟨RX7, "isAgainst", "(II)Z"⟩
abbrev cX7_reason : ByteArray := prog_9_method_16_code
def yX7_reason : MethodName := ⟨RX7, "reason", "(III)I"⟩
abbrev cX7_board : ByteArray := prog_9_method_17_code
def yX7_board : MethodName := ⟨RX7, "board", "(III)I"⟩
abbrev cX7_set : ByteArray := prog_9_method_18_code
def yX7_set : MethodName := ⟨RX7, "set", "(III)I"⟩
abbrev cX7_acted : ByteArray := prog_9_method_19_code
def yX7_acted : MethodName := ⟨RX7, "acted", "(IJJ)V"⟩
abbrev cX7_lay : ByteArray := prog_9_method_20_code
def yX7_lay : MethodName := ⟨RX7, "lay", "(I)I"⟩
abbrev cX7_passes : ByteArray := prog_9_method_21_code
def yX7_passes : MethodName := ⟨RX7, "passes", "()I"⟩
abbrev cX7_pass : ByteArray := prog_9_method_22_code
def yX7_pass : MethodName := ⟨RX7, "pass", "()I"⟩
abbrev cX7_why : ByteArray := prog_9_method_23_code
def yX7_why : MethodName := ⟨RX7, "why", "(I)I"⟩
abbrev cX7_undo : ByteArray := prog_9_method_24_code
def yX7_undo : MethodName := ⟨RX7, "undo", "()I"⟩
abbrev cX7_atOf : ByteArray := prog_9_method_25_code
def yX7_atOf : MethodName := ⟨RX7, "atOf", "(I)I"⟩
abbrev cX7_at : ByteArray := prog_9_method_26_code
def yX7_at : MethodName := ⟨RX7, "at", "(I)I"⟩
abbrev cX7_stones : ByteArray := prog_9_method_27_code
def yX7_stones : MethodName := ⟨RX7, "stones", "(I)J"⟩
abbrev cX7_breaths : ByteArray := prog_9_method_28_code
def yX7_breaths : MethodName := ⟨RX7, "breaths", "(J)J"⟩
abbrev cX7_isVital : ByteArray := prog_9_method_29_code
def yX7_isVital : MethodName := ⟨RX7, "isVital", "(JJ)Z"⟩
abbrev cX7_vital : ByteArray := prog_9_method_30_code
def yX7_vital : MethodName := ⟨RX7, "vital", "(IJJ)I"⟩
abbrev cX7_stand : ByteArray := prog_9_method_31_code
def yX7_stand : MethodName := ⟨RX7, "stand", "(I)J"⟩
abbrev cX7_groupAt : ByteArray := prog_9_method_32_code
def yX7_groupAt : MethodName := ⟨RX7, "groupAt", "(I)J"⟩
abbrev cX7_group : ByteArray := prog_9_method_33_code
def yX7_group : MethodName := ⟨RX7, "group", "(II)I"⟩
abbrev cX7_breath : ByteArray := prog_9_method_34_code
def yX7_breath : MethodName := ⟨RX7, "breath", "(II)I"⟩
abbrev cX7_region : ByteArray := prog_9_method_35_code
def yX7_region : MethodName := ⟨RX7, "region", "(III)I"⟩
abbrev cX7_standing : ByteArray := prog_9_method_36_code
def yX7_standing : MethodName := ⟨RX7, "standing", "(I)I"⟩
abbrev cX7_counts : ByteArray := prog_9_method_37_code
def yX7_counts : MethodName := ⟨RX7, "counts", "()V"⟩
abbrev cX7_chaseBreaths : ByteArray := prog_9_method_38_code
def yX7_chaseBreaths : MethodName := ⟨RX7, "chaseBreaths", "(JJII)J"⟩
abbrev cX7_isAt : ByteArray := prog_9_method_39_code
def yX7_isAt : MethodName := ⟨RX7, "isAt", "(JJ)Z"⟩
abbrev cX7_comes : ByteArray := prog_9_method_40_code
def yX7_comes : MethodName := ⟨RX7, "comes", "(IJJII)V"⟩
abbrev cX7_mayChase : ByteArray := prog_9_method_41_code
def yX7_mayChase : MethodName := ⟨RX7, "mayChase", "(III)Z"⟩
abbrev cX7_findAnswers : ByteArray := prog_9_method_42_code
def yX7_findAnswers : MethodName := ⟨RX7, "findAnswers", "(III)V"⟩
abbrev cX7_isCaught : ByteArray := prog_9_method_43_code
def yX7_isCaught : MethodName := ⟨RX7, "isCaught", "(III)Z"⟩
abbrev cX7_nextAnswer : ByteArray := prog_9_method_44_code
def yX7_nextAnswer : MethodName := ⟨RX7, "nextAnswer", "(I)I"⟩
abbrev cX7_mayAnswer : ByteArray := prog_9_method_45_code
def yX7_mayAnswer : MethodName := ⟨RX7, "mayAnswer", "(III)Z"⟩
abbrev cX7_chase : ByteArray := prog_9_method_46_code
def yX7_chase : MethodName := ⟨RX7, "chase", "(II)I"⟩
abbrev cX7_isGone : ByteArray := prog_9_method_47_code
def yX7_isGone : MethodName := ⟨RX7, "isGone", "(III)Z"⟩
abbrev cX7_isTaken : ByteArray := prog_9_method_48_code
def yX7_isTaken : MethodName := ⟨RX7, "isTaken", "(III)Z"⟩
abbrev cX7_fight : ByteArray := prog_9_method_49_code
def yX7_fight : MethodName := ⟨RX7, "fight", "(II)I"⟩
abbrev cX7_tries : ByteArray := prog_9_method_50_code
def yX7_tries : MethodName := ⟨RX7, "tries", "()I"⟩
abbrev cX7_first : ByteArray := prog_9_method_51_code
def yX7_first : MethodName := ⟨RX7, "first", "()I"⟩
abbrev cX7_pointsOf : ByteArray := prog_9_method_52_code
def yX7_pointsOf : MethodName := ⟨RX7, "pointsOf", "(II)I"⟩
abbrev cX7_points : ByteArray := prog_9_method_53_code
def yX7_points : MethodName := ⟨RX7, "points", "(II)I"⟩
abbrev cX7_count : ByteArray := prog_9_method_54_code
def yX7_count : MethodName := ⟨RX7, "count", "(I)I"⟩
abbrev cX7_act : ByteArray := prog_9_method_55_code
def yX7_act : MethodName := ⟨RX7, "act", "(I)I"⟩
abbrev cX7_digest : ByteArray := prog_9_method_56_code
def yX7_digest : MethodName := ⟨RX7, "digest", "()J"⟩
def RJ13 : String := "java/lang/Long"
def TJ13 : u_T := fun k => match k with
  | _ => ("", "", "", false)
def tyJ13 : Nat → FieldType := fun k => match k with
  | _ => .int
abbrev wsJ130 : List Cond := u_ws RJ13 TJ13 0
theorem nmJ13 : ∀ a, a < 0 → ∀ b, b < 0 → a ≠ b → (TJ13 a).2.1 ≠ (TJ13 b).2.1 := by decide +kernel
theorem tyJ13_ok : ∀ k, k < 0 → parseFieldDescriptor (TJ13 k).2.2.1 = some (tyJ13 k) := by decide +kernel
abbrev cJ13_bitCount_95d88 : ByteArray := prog_10_method_50_code
def yJ13_bitCount_95d88 : MethodName := ⟨RJ13, "bitCount", "(J)I"⟩
def RJ9 : String := "java/lang/Math"
def TJ9 : u_T := fun k => match k with
  | _ => ("", "", "", false)
def tyJ9 : Nat → FieldType := fun k => match k with
  | _ => .int
abbrev wsJ90 : List Cond := u_ws RJ9 TJ9 0
theorem nmJ9 : ∀ a, a < 0 → ∀ b, b < 0 → a ≠ b → (TJ9 a).2.1 ≠ (TJ9 b).2.1 := by decide +kernel
theorem tyJ9_ok : ∀ k, k < 0 → parseFieldDescriptor (TJ9 k).2.2.1 = some (tyJ9 k) := by decide +kernel
abbrev cJ9_max_7cf53 : ByteArray := prog_11_method_65_code
def yJ9_max_7cf53 : MethodName := ⟨RJ9, "max", "(II)I"⟩
def RL : String := "EyeBoardLaw"
abbrev cL_law : ByteArray := code
def yL_law : MethodName := ⟨RL, "law", "([I)Z"⟩
def wsX0_init : List Cond := .code yX0_init cX0_init 4 none :: ([.methodLink RX0 3 objectInit, .instanceMethod objectInit, .code objectInit ⟨#[0xb1]⟩ 1 none, .fieldLink RX0 9 "EyeBoard$Chase" "grid" "LEyeBoard$Grid;", .fieldLink RX0 15 "EyeBoard$Chase" "row" "LEyeBoard$Row;", .fieldLink RX0 19 "EyeBoard$Chase" "tried" "LEyeBoard$Tries;"] ++ wsX00)
def wsX4_stonesThen : List Cond := .code yX4_stonesThen cX4_stonesThen 4 (some .long) :: ([.fieldLink RX4 21 "EyeBoard$Row" "black" "[J", .fieldLink RX4 25 "EyeBoard$Row" "white" "[J"] ++ wsX40)
def wsX4_stonesOf : List Cond := .code yX4_stonesOf cX4_stonesOf 2 (some .long) :: ([.fieldLink RX4 36 "EyeBoard$Row" "latest" "I", .methodLink RX4 46 yX4_stonesThen, .instanceMethod yX4_stonesThen, .selects RX4 yX4_stonesThen yX4_stonesThen, .initialized RX4, .code yX4_stonesThen cX4_stonesThen 4 (some .long), .fieldLink RX4 21 "EyeBoard$Row" "black" "[J", .fieldLink RX4 25 "EyeBoard$Row" "white" "[J"] ++ wsX40)
def wsX2_holds : List Cond := .code yX2_holds cX2_holds 3 (some .boolean) :: ([])
def wsX4_colourAt : List Cond := .code yX4_colourAt cX4_colourAt 2 (some .int) :: ([.methodLink RX4 62 yX4_stonesOf, .instanceMethod yX4_stonesOf, .selects RX4 yX4_stonesOf yX4_stonesOf, .initialized RX4, .code yX4_stonesOf cX4_stonesOf 2 (some .long), .fieldLink RX4 36 "EyeBoard$Row" "latest" "I", .methodLink RX4 46 yX4_stonesThen, .instanceMethod yX4_stonesThen, .selects RX4 yX4_stonesThen yX4_stonesThen, .code yX4_stonesThen cX4_stonesThen 4 (some .long), .fieldLink RX4 21 "EyeBoard$Row" "black" "[J", .fieldLink RX4 25 "EyeBoard$Row" "white" "[J", .methodLink RX4 66 yX2_holds, .static yX2_holds, .initialized RX2, .code yX2_holds cX2_holds 3 (some .boolean)] ++ wsX40)
def wsX6_other : List Cond := .code yX6_other cX6_other 1 (some .int) :: ([])
def wsX4_keep : List Cond := .code yX4_keep cX4_keep 6 none :: ([.fieldLink RX4 21 "EyeBoard$Row" "black" "[J", .fieldLink RX4 25 "EyeBoard$Row" "white" "[J"] ++ wsX40)
def wsX4_begin : List Cond := .code yX4_begin cX4_begin 7 none :: ([.fieldLink RX4 32 "EyeBoard$Row" "law" "I", .fieldLink RX4 36 "EyeBoard$Row" "latest" "I", .fieldLink RX4 39 "EyeBoard$Row" "opener" "I", .methodLink RX4 42 yX4_keep, .instanceMethod yX4_keep, .selects RX4 yX4_keep yX4_keep, .initialized RX4, .code yX4_keep cX4_keep 6 none, .fieldLink RX4 21 "EyeBoard$Row" "black" "[J", .fieldLink RX4 25 "EyeBoard$Row" "white" "[J"] ++ wsX40)
def wsX2_beside : List Cond := .code yX2_beside cX2_beside 5 (some .long) :: ([.fieldLink RX2 30 "EyeBoard$Grid" "notLastColumn" "J", .fieldLink RX2 27 "EyeBoard$Grid" "notFirstColumn" "J", .fieldLink RX2 9 "EyeBoard$Grid" "width" "I", .fieldLink RX2 21 "EyeBoard$Grid" "all" "J"] ++ wsX20)
def wsX2_spread : List Cond := .code yX2_spread cX2_spread 10 (some .long) :: ([.methodLink RX2 33 yX2_beside, .instanceMethod yX2_beside, .selects RX2 yX2_beside yX2_beside, .initialized RX2, .code yX2_beside cX2_beside 5 (some .long), .fieldLink RX2 30 "EyeBoard$Grid" "notLastColumn" "J", .fieldLink RX2 27 "EyeBoard$Grid" "notFirstColumn" "J", .fieldLink RX2 9 "EyeBoard$Grid" "width" "I", .fieldLink RX2 21 "EyeBoard$Grid" "all" "J"] ++ wsX20)
def wsX0_targetGroup_r1 : List Cond := [Cond.fieldLink RX0 9 "EyeBoard$Chase" "grid" "LEyeBoard$Grid;", Cond.fieldLink RX0 23 "EyeBoard$Chase" "target" "I", Cond.fieldLink RX0 15 "EyeBoard$Chase" "row" "LEyeBoard$Row;", Cond.fieldLink RX0 33 "EyeBoard$Chase" "chased" "I", Cond.methodLink RX0 41 yX4_stonesOf, Cond.instanceMethod yX4_stonesOf, Cond.selects RX4 yX4_stonesOf yX4_stonesOf, Cond.initialized RX4, Cond.code yX4_stonesOf cX4_stonesOf 2 (some .long), Cond.fieldLink RX4 36 "EyeBoard$Row" "latest" "I", Cond.methodLink RX4 46 yX4_stonesThen, Cond.instanceMethod yX4_stonesThen, Cond.selects RX4 yX4_stonesThen yX4_stonesThen, Cond.code yX4_stonesThen cX4_stonesThen 4 (some .long), Cond.fieldLink RX4 21 "EyeBoard$Row" "black" "[J", Cond.fieldLink RX4 25 "EyeBoard$Row" "white" "[J", Cond.methodLink RX0 55 yX2_spread, Cond.instanceMethod yX2_spread, Cond.selects RX2 yX2_spread yX2_spread, Cond.initialized RX2, Cond.code yX2_spread cX2_spread 10 (some .long), Cond.methodLink RX2 33 yX2_beside, Cond.instanceMethod yX2_beside, Cond.selects RX2 yX2_beside yX2_beside]
def wsX0_targetGroup_r2 : List Cond := [Cond.code yX2_beside cX2_beside 5 (some .long), Cond.fieldLink RX2 30 "EyeBoard$Grid" "notLastColumn" "J", Cond.fieldLink RX2 27 "EyeBoard$Grid" "notFirstColumn" "J", Cond.fieldLink RX2 9 "EyeBoard$Grid" "width" "I", Cond.fieldLink RX2 21 "EyeBoard$Grid" "all" "J"]
def wsX0_targetGroup : List Cond := .code yX0_targetGroup cX0_targetGroup 1 (some .long) :: ((wsX0_targetGroup_r1 ++ wsX0_targetGroup_r2) ++ wsX00 ++ wsX40 ++ wsX20)
def wsX4_free : List Cond := .code yX4_free cX4_free 1 (some .long) :: ([.fieldLink RX4 9 "EyeBoard$Row" "grid" "LEyeBoard$Grid;", .fieldLink RX4 54 "EyeBoard$Grid" "all" "J", .fieldLink RX4 36 "EyeBoard$Row" "latest" "I", .constantLong RX4 60 (-1), .methodLink RX4 46 yX4_stonesThen, .instanceMethod yX4_stonesThen, .selects RX4 yX4_stonesThen yX4_stonesThen, .initialized RX4, .code yX4_stonesThen cX4_stonesThen 4 (some .long), .fieldLink RX4 21 "EyeBoard$Row" "black" "[J", .fieldLink RX4 25 "EyeBoard$Row" "white" "[J"] ++ wsX40 ++ wsX20)
def wsX2_partFrom : List Cond := .code yX2_partFrom cX2_partFrom 10 (some .long) :: ([.methodLink RX2 33 yX2_beside, .instanceMethod yX2_beside, .selects RX2 yX2_beside yX2_beside, .initialized RX2, .code yX2_beside cX2_beside 5 (some .long), .fieldLink RX2 30 "EyeBoard$Grid" "notLastColumn" "J", .fieldLink RX2 27 "EyeBoard$Grid" "notFirstColumn" "J", .fieldLink RX2 9 "EyeBoard$Grid" "width" "I", .fieldLink RX2 21 "EyeBoard$Grid" "all" "J", .methodLink RX2 37 yX2_spread, .instanceMethod yX2_spread, .selects RX2 yX2_spread yX2_spread, .code yX2_spread cX2_spread 10 (some .long)] ++ wsX20)
def wsJ13_bitCount_95d88 : List Cond := .code yJ13_bitCount_95d88 cJ13_bitCount_95d88 2 (some .int) :: ([.constantLong RJ13 314 (6148914691236517205), .constantLong RJ13 316 (3689348814741910323), .constantLong RJ13 318 (1085102592571150095)])
def wsX0_takingCrossings_r1 : List Cond := [Cond.fieldLink RX0 9 "EyeBoard$Chase" "grid" "LEyeBoard$Grid;", Cond.fieldLink RX0 15 "EyeBoard$Chase" "row" "LEyeBoard$Row;", Cond.fieldLink RX0 33 "EyeBoard$Chase" "chased" "I", Cond.fieldLink RX0 78 "EyeBoard$Grid" "size" "I", Cond.methodLink RX0 65 yX2_beside, Cond.instanceMethod yX2_beside, Cond.selects RX2 yX2_beside yX2_beside, Cond.initialized RX2, Cond.code yX2_beside cX2_beside 5 (some .long), Cond.fieldLink RX2 30 "EyeBoard$Grid" "notLastColumn" "J", Cond.fieldLink RX2 27 "EyeBoard$Grid" "notFirstColumn" "J", Cond.fieldLink RX2 9 "EyeBoard$Grid" "width" "I", Cond.fieldLink RX2 21 "EyeBoard$Grid" "all" "J", Cond.static yX6_other, Cond.initialized RX6, Cond.code yX6_other cX6_other 1 (some .int), Cond.methodLink RX0 41 yX4_stonesOf, Cond.instanceMethod yX4_stonesOf, Cond.selects RX4 yX4_stonesOf yX4_stonesOf, Cond.initialized RX4, Cond.code yX4_stonesOf cX4_stonesOf 2 (some .long), Cond.fieldLink RX4 36 "EyeBoard$Row" "latest" "I", Cond.methodLink RX4 46 yX4_stonesThen, Cond.instanceMethod yX4_stonesThen]
def wsX0_takingCrossings_r2 : List Cond := [Cond.selects RX4 yX4_stonesThen yX4_stonesThen, Cond.code yX4_stonesThen cX4_stonesThen 4 (some .long), Cond.fieldLink RX4 21 "EyeBoard$Row" "black" "[J", Cond.fieldLink RX4 25 "EyeBoard$Row" "white" "[J", Cond.methodLink RX0 55 yX2_spread, Cond.instanceMethod yX2_spread, Cond.selects RX2 yX2_spread yX2_spread, Cond.code yX2_spread cX2_spread 10 (some .long), Cond.methodLink RX2 33 yX2_beside, Cond.methodLink RX0 108 yX2_partFrom, Cond.instanceMethod yX2_partFrom, Cond.selects RX2 yX2_partFrom yX2_partFrom, Cond.code yX2_partFrom cX2_partFrom 10 (some .long), Cond.methodLink RX2 37 yX2_spread, Cond.methodLink RX0 69 yX4_free, Cond.instanceMethod yX4_free, Cond.selects RX4 yX4_free yX4_free, Cond.code yX4_free cX4_free 1 (some .long), Cond.fieldLink RX4 9 "EyeBoard$Row" "grid" "LEyeBoard$Grid;", Cond.fieldLink RX4 54 "EyeBoard$Grid" "all" "J", Cond.constantLong RX4 60 (-1), Cond.methodLink RX0 72 yJ13_bitCount_95d88, Cond.static yJ13_bitCount_95d88, Cond.initialized RJ13]
def wsX0_takingCrossings_r3 : List Cond := [Cond.code yJ13_bitCount_95d88 cJ13_bitCount_95d88 2 (some .int), Cond.constantLong RJ13 314 (6148914691236517205), Cond.constantLong RJ13 316 (3689348814741910323), Cond.constantLong RJ13 318 (1085102592571150095)]
def wsX0_takingCrossings : List Cond := .code yX0_takingCrossings cX0_takingCrossings 10 (some .long) :: ((wsX0_takingCrossings_r1 ++ (wsX0_takingCrossings_r2 ++ wsX0_takingCrossings_r3)) ++ wsX00 ++ wsX20 ++ wsX40)
def wsX2_nth : List Cond := .code yX2_nth cX2_nth 6 (some .int) :: ([.fieldLink RX2 18 "EyeBoard$Grid" "size" "I", .methodLink RX2 41 yX2_holds, .static yX2_holds, .initialized RX2, .code yX2_holds cX2_holds 3 (some .boolean)] ++ wsX20)
def wsX2_has : List Cond := .code yX2_has cX2_has 2 (some .boolean) :: ([.fieldLink RX2 18 "EyeBoard$Grid" "size" "I"] ++ wsX20)
def wsX4_moverThen : List Cond := .code yX4_moverThen cX4_moverThen 2 (some .int) :: ([.fieldLink RX4 39 "EyeBoard$Row" "opener" "I"] ++ wsX40)
def wsX4_mover : List Cond := .code yX4_mover cX4_mover 1 (some .int) :: ([.fieldLink RX4 36 "EyeBoard$Row" "latest" "I", .methodLink RX4 50 yX4_moverThen, .instanceMethod yX4_moverThen, .selects RX4 yX4_moverThen yX4_moverThen, .initialized RX4, .code yX4_moverThen cX4_moverThen 2 (some .int), .fieldLink RX4 39 "EyeBoard$Row" "opener" "I"] ++ wsX40)
def wsX4_isRefusedByLaw : List Cond := .code yX4_isRefusedByLaw cX4_isRefusedByLaw 4 (some .boolean) :: ([.fieldLink RX4 32 "EyeBoard$Row" "law" "I", .fieldLink RX4 36 "EyeBoard$Row" "latest" "I", .fieldLink RX4 89 "EyeBoard$Row" "blackThen" "J", .fieldLink RX4 92 "EyeBoard$Row" "whiteThen" "J", .methodLink RX4 50 yX4_moverThen, .instanceMethod yX4_moverThen, .selects RX4 yX4_moverThen yX4_moverThen, .initialized RX4, .code yX4_moverThen cX4_moverThen 2 (some .int), .fieldLink RX4 39 "EyeBoard$Row" "opener" "I", .methodLink RX4 46 yX4_stonesThen, .instanceMethod yX4_stonesThen, .selects RX4 yX4_stonesThen yX4_stonesThen, .code yX4_stonesThen cX4_stonesThen 4 (some .long), .fieldLink RX4 21 "EyeBoard$Row" "black" "[J", .fieldLink RX4 25 "EyeBoard$Row" "white" "[J"] ++ wsX40)
def wsX4_reasonAgainst_r1 : List Cond := [Cond.fieldLink RX4 9 "EyeBoard$Row" "grid" "LEyeBoard$Grid;", Cond.fieldLink RX4 54 "EyeBoard$Grid" "all" "J", Cond.constantLong RX4 60 (-1), Cond.fieldLink RX4 89 "EyeBoard$Row" "blackThen" "J", Cond.fieldLink RX4 92 "EyeBoard$Row" "whiteThen" "J", Cond.methodLink RX4 70 yX4_free, Cond.instanceMethod yX4_free, Cond.selects RX4 yX4_free yX4_free, Cond.initialized RX4, Cond.code yX4_free cX4_free 1 (some .long), Cond.fieldLink RX4 36 "EyeBoard$Row" "latest" "I", Cond.methodLink RX4 46 yX4_stonesThen, Cond.instanceMethod yX4_stonesThen, Cond.selects RX4 yX4_stonesThen yX4_stonesThen, Cond.code yX4_stonesThen cX4_stonesThen 4 (some .long), Cond.fieldLink RX4 21 "EyeBoard$Row" "black" "[J", Cond.fieldLink RX4 25 "EyeBoard$Row" "white" "[J", Cond.methodLink RX4 66 yX2_holds, Cond.static yX2_holds, Cond.initialized RX2, Cond.code yX2_holds cX2_holds 3 (some .boolean), Cond.methodLink RX4 74 yX4_mover, Cond.instanceMethod yX4_mover, Cond.selects RX4 yX4_mover yX4_mover]
def wsX4_reasonAgainst_r2 : List Cond := [Cond.code yX4_mover cX4_mover 1 (some .int), Cond.methodLink RX4 50 yX4_moverThen, Cond.instanceMethod yX4_moverThen, Cond.selects RX4 yX4_moverThen yX4_moverThen, Cond.code yX4_moverThen cX4_moverThen 2 (some .int), Cond.fieldLink RX4 39 "EyeBoard$Row" "opener" "I", Cond.methodLink RX4 62 yX4_stonesOf, Cond.instanceMethod yX4_stonesOf, Cond.selects RX4 yX4_stonesOf yX4_stonesOf, Cond.code yX4_stonesOf cX4_stonesOf 2 (some .long), Cond.static yX6_other, Cond.initialized RX6, Cond.code yX6_other cX6_other 1 (some .int), Cond.methodLink RX4 81 yX2_beside, Cond.instanceMethod yX2_beside, Cond.selects RX2 yX2_beside yX2_beside, Cond.code yX2_beside cX2_beside 5 (some .long), Cond.fieldLink RX2 30 "EyeBoard$Grid" "notLastColumn" "J", Cond.fieldLink RX2 27 "EyeBoard$Grid" "notFirstColumn" "J", Cond.fieldLink RX2 9 "EyeBoard$Grid" "width" "I", Cond.fieldLink RX2 21 "EyeBoard$Grid" "all" "J", Cond.methodLink RX4 85 yX2_spread, Cond.instanceMethod yX2_spread, Cond.selects RX2 yX2_spread yX2_spread]
def wsX4_reasonAgainst_r3 : List Cond := [Cond.code yX2_spread cX2_spread 10 (some .long), Cond.methodLink RX2 33 yX2_beside, Cond.methodLink RX4 95 yX4_isRefusedByLaw, Cond.instanceMethod yX4_isRefusedByLaw, Cond.selects RX4 yX4_isRefusedByLaw yX4_isRefusedByLaw, Cond.code yX4_isRefusedByLaw cX4_isRefusedByLaw 4 (some .boolean), Cond.fieldLink RX4 32 "EyeBoard$Row" "law" "I"]
def wsX4_reasonAgainst : List Cond := .code yX4_reasonAgainst cX4_reasonAgainst 11 (some .int) :: ((wsX4_reasonAgainst_r1 ++ (wsX4_reasonAgainst_r2 ++ wsX4_reasonAgainst_r3)) ++ wsX40 ++ wsX20)
def wsX4_add_r1 : List Cond := [Cond.fieldLink RX4 36 "EyeBoard$Row" "latest" "I", Cond.fieldLink RX4 21 "EyeBoard$Row" "black" "[J", Cond.fieldLink RX4 28 "EyeBoard$Row" "acts" "[I", Cond.fieldLink RX4 9 "EyeBoard$Row" "grid" "LEyeBoard$Grid;", Cond.fieldLink RX4 99 "EyeBoard$Grid" "size" "I", Cond.fieldLink RX4 89 "EyeBoard$Row" "blackThen" "J", Cond.fieldLink RX4 92 "EyeBoard$Row" "whiteThen" "J", Cond.methodLink RX4 62 yX4_stonesOf, Cond.instanceMethod yX4_stonesOf, Cond.selects RX4 yX4_stonesOf yX4_stonesOf, Cond.initialized RX4, Cond.code yX4_stonesOf cX4_stonesOf 2 (some .long), Cond.methodLink RX4 46 yX4_stonesThen, Cond.instanceMethod yX4_stonesThen, Cond.selects RX4 yX4_stonesThen yX4_stonesThen, Cond.code yX4_stonesThen cX4_stonesThen 4 (some .long), Cond.fieldLink RX4 25 "EyeBoard$Row" "white" "[J", Cond.methodLink RX4 42 yX4_keep, Cond.instanceMethod yX4_keep, Cond.selects RX4 yX4_keep yX4_keep, Cond.code yX4_keep cX4_keep 6 none, Cond.methodLink RX4 102 yX2_has, Cond.instanceMethod yX2_has, Cond.selects RX2 yX2_has yX2_has]
def wsX4_add_r2 : List Cond := [Cond.initialized RX2, Cond.code yX2_has cX2_has 2 (some .boolean), Cond.fieldLink RX2 18 "EyeBoard$Grid" "size" "I", Cond.methodLink RX4 106 yX4_reasonAgainst, Cond.instanceMethod yX4_reasonAgainst, Cond.selects RX4 yX4_reasonAgainst yX4_reasonAgainst, Cond.code yX4_reasonAgainst cX4_reasonAgainst 11 (some .int), Cond.fieldLink RX4 54 "EyeBoard$Grid" "all" "J", Cond.constantLong RX4 60 (-1), Cond.methodLink RX4 70 yX4_free, Cond.instanceMethod yX4_free, Cond.selects RX4 yX4_free yX4_free, Cond.code yX4_free cX4_free 1 (some .long), Cond.methodLink RX4 66 yX2_holds, Cond.static yX2_holds, Cond.code yX2_holds cX2_holds 3 (some .boolean), Cond.methodLink RX4 74 yX4_mover, Cond.instanceMethod yX4_mover, Cond.selects RX4 yX4_mover yX4_mover, Cond.code yX4_mover cX4_mover 1 (some .int), Cond.methodLink RX4 50 yX4_moverThen, Cond.instanceMethod yX4_moverThen, Cond.selects RX4 yX4_moverThen yX4_moverThen, Cond.code yX4_moverThen cX4_moverThen 2 (some .int)]
def wsX4_add_r3 : List Cond := [Cond.fieldLink RX4 39 "EyeBoard$Row" "opener" "I", Cond.static yX6_other, Cond.initialized RX6, Cond.code yX6_other cX6_other 1 (some .int), Cond.methodLink RX4 81 yX2_beside, Cond.instanceMethod yX2_beside, Cond.selects RX2 yX2_beside yX2_beside, Cond.code yX2_beside cX2_beside 5 (some .long), Cond.fieldLink RX2 30 "EyeBoard$Grid" "notLastColumn" "J", Cond.fieldLink RX2 27 "EyeBoard$Grid" "notFirstColumn" "J", Cond.fieldLink RX2 9 "EyeBoard$Grid" "width" "I", Cond.fieldLink RX2 21 "EyeBoard$Grid" "all" "J", Cond.methodLink RX4 85 yX2_spread, Cond.instanceMethod yX2_spread, Cond.selects RX2 yX2_spread yX2_spread, Cond.code yX2_spread cX2_spread 10 (some .long), Cond.methodLink RX2 33 yX2_beside, Cond.methodLink RX4 95 yX4_isRefusedByLaw, Cond.instanceMethod yX4_isRefusedByLaw, Cond.selects RX4 yX4_isRefusedByLaw yX4_isRefusedByLaw, Cond.code yX4_isRefusedByLaw cX4_isRefusedByLaw 4 (some .boolean), Cond.fieldLink RX4 32 "EyeBoard$Row" "law" "I"]
def wsX4_add : List Cond := .code yX4_add cX4_add 2 (some .boolean) :: ((wsX4_add_r1 ++ (wsX4_add_r2 ++ wsX4_add_r3)) ++ wsX40 ++ wsX20)
def wsX5_oneMore : List Cond := .code yX5_oneMore cX5_oneMore 1 (some .boolean) :: ([.fieldLink RX5 9 "EyeBoard$Tries" "made" "I"] ++ wsX50)
def wsX4_takeBack : List Cond := .code yX4_takeBack cX4_takeBack 1 none :: ([.fieldLink RX4 36 "EyeBoard$Row" "latest" "I", .methodLink RX4 15 Lib.Math.max.name, .static Lib.Math.max.name, .initialized "java/lang/Math", .code Lib.Math.max.name Lib.Math.max.code 2 (some .int)] ++ wsX40)
def wsX0_answersFail_r1 : List Cond := [Cond.fieldLink RX0 9 "EyeBoard$Chase" "grid" "LEyeBoard$Grid;", Cond.fieldLink RX0 15 "EyeBoard$Chase" "row" "LEyeBoard$Row;", Cond.constantLong RX0 102 (-1), Cond.fieldLink RX0 78 "EyeBoard$Grid" "size" "I", Cond.fieldLink RX0 19 "EyeBoard$Chase" "tried" "LEyeBoard$Tries;", Cond.methodLink RX0 61 yX0_targetGroup, Cond.instanceMethod yX0_targetGroup, Cond.selects RX0 yX0_targetGroup yX0_targetGroup, Cond.initialized RX0, Cond.code yX0_targetGroup cX0_targetGroup 1 (some .long), Cond.fieldLink RX0 23 "EyeBoard$Chase" "target" "I", Cond.fieldLink RX0 33 "EyeBoard$Chase" "chased" "I", Cond.methodLink RX0 41 yX4_stonesOf, Cond.instanceMethod yX4_stonesOf, Cond.selects RX4 yX4_stonesOf yX4_stonesOf, Cond.initialized RX4, Cond.code yX4_stonesOf cX4_stonesOf 2 (some .long), Cond.fieldLink RX4 36 "EyeBoard$Row" "latest" "I", Cond.methodLink RX4 46 yX4_stonesThen, Cond.instanceMethod yX4_stonesThen, Cond.selects RX4 yX4_stonesThen yX4_stonesThen, Cond.code yX4_stonesThen cX4_stonesThen 4 (some .long), Cond.fieldLink RX4 21 "EyeBoard$Row" "black" "[J", Cond.fieldLink RX4 25 "EyeBoard$Row" "white" "[J"]
def wsX0_answersFail_r2 : List Cond := [Cond.methodLink RX0 55 yX2_spread, Cond.instanceMethod yX2_spread, Cond.selects RX2 yX2_spread yX2_spread, Cond.initialized RX2, Cond.code yX2_spread cX2_spread 10 (some .long), Cond.methodLink RX2 33 yX2_beside, Cond.instanceMethod yX2_beside, Cond.selects RX2 yX2_beside yX2_beside, Cond.code yX2_beside cX2_beside 5 (some .long), Cond.fieldLink RX2 30 "EyeBoard$Grid" "notLastColumn" "J", Cond.fieldLink RX2 27 "EyeBoard$Grid" "notFirstColumn" "J", Cond.fieldLink RX2 9 "EyeBoard$Grid" "width" "I", Cond.fieldLink RX2 21 "EyeBoard$Grid" "all" "J", Cond.methodLink RX0 65 yX2_beside, Cond.methodLink RX0 69 yX4_free, Cond.instanceMethod yX4_free, Cond.selects RX4 yX4_free yX4_free, Cond.code yX4_free cX4_free 1 (some .long), Cond.fieldLink RX4 9 "EyeBoard$Row" "grid" "LEyeBoard$Grid;", Cond.fieldLink RX4 54 "EyeBoard$Grid" "all" "J", Cond.constantLong RX4 60 (-1), Cond.methodLink RX0 99 yX0_takingCrossings, Cond.instanceMethod yX0_takingCrossings, Cond.selects RX0 yX0_takingCrossings yX0_takingCrossings]
def wsX0_answersFail_r3 : List Cond := [Cond.code yX0_takingCrossings cX0_takingCrossings 10 (some .long), Cond.static yX6_other, Cond.initialized RX6, Cond.code yX6_other cX6_other 1 (some .int), Cond.methodLink RX0 108 yX2_partFrom, Cond.instanceMethod yX2_partFrom, Cond.selects RX2 yX2_partFrom yX2_partFrom, Cond.code yX2_partFrom cX2_partFrom 10 (some .long), Cond.methodLink RX2 37 yX2_spread, Cond.methodLink RX0 72 yJ13_bitCount_95d88, Cond.static yJ13_bitCount_95d88, Cond.initialized RJ13, Cond.code yJ13_bitCount_95d88 cJ13_bitCount_95d88 2 (some .int), Cond.constantLong RJ13 314 (6148914691236517205), Cond.constantLong RJ13 316 (3689348814741910323), Cond.constantLong RJ13 318 (1085102592571150095), Cond.methodLink RX0 104 yX2_nth, Cond.instanceMethod yX2_nth, Cond.selects RX2 yX2_nth yX2_nth, Cond.code yX2_nth cX2_nth 6 (some .int), Cond.fieldLink RX2 18 "EyeBoard$Grid" "size" "I", Cond.methodLink RX2 41 yX2_holds, Cond.static yX2_holds, Cond.code yX2_holds cX2_holds 3 (some .boolean)]
def wsX0_answersFail_r4 : List Cond := [Cond.methodLink RX0 81 yX2_holds, Cond.methodLink RX0 85 yX4_add, Cond.instanceMethod yX4_add, Cond.selects RX4 yX4_add yX4_add, Cond.code yX4_add cX4_add 2 (some .boolean), Cond.fieldLink RX4 28 "EyeBoard$Row" "acts" "[I", Cond.fieldLink RX4 99 "EyeBoard$Grid" "size" "I", Cond.fieldLink RX4 89 "EyeBoard$Row" "blackThen" "J", Cond.fieldLink RX4 92 "EyeBoard$Row" "whiteThen" "J", Cond.methodLink RX4 62 yX4_stonesOf, Cond.methodLink RX4 42 yX4_keep, Cond.instanceMethod yX4_keep, Cond.selects RX4 yX4_keep yX4_keep, Cond.code yX4_keep cX4_keep 6 none, Cond.methodLink RX4 102 yX2_has, Cond.instanceMethod yX2_has, Cond.selects RX2 yX2_has yX2_has, Cond.code yX2_has cX2_has 2 (some .boolean), Cond.methodLink RX4 106 yX4_reasonAgainst, Cond.instanceMethod yX4_reasonAgainst, Cond.selects RX4 yX4_reasonAgainst yX4_reasonAgainst, Cond.code yX4_reasonAgainst cX4_reasonAgainst 11 (some .int), Cond.methodLink RX4 70 yX4_free, Cond.methodLink RX4 66 yX2_holds]
def wsX0_answersFail_r5 : List Cond := [Cond.methodLink RX4 74 yX4_mover, Cond.instanceMethod yX4_mover, Cond.selects RX4 yX4_mover yX4_mover, Cond.code yX4_mover cX4_mover 1 (some .int), Cond.methodLink RX4 50 yX4_moverThen, Cond.instanceMethod yX4_moverThen, Cond.selects RX4 yX4_moverThen yX4_moverThen, Cond.code yX4_moverThen cX4_moverThen 2 (some .int), Cond.fieldLink RX4 39 "EyeBoard$Row" "opener" "I", Cond.methodLink RX4 81 yX2_beside, Cond.methodLink RX4 85 yX2_spread, Cond.methodLink RX4 95 yX4_isRefusedByLaw, Cond.instanceMethod yX4_isRefusedByLaw, Cond.selects RX4 yX4_isRefusedByLaw yX4_isRefusedByLaw, Cond.code yX4_isRefusedByLaw cX4_isRefusedByLaw 4 (some .boolean), Cond.fieldLink RX4 32 "EyeBoard$Row" "law" "I", Cond.methodLink RX0 89 yX5_oneMore, Cond.instanceMethod yX5_oneMore, Cond.selects RX5 yX5_oneMore yX5_oneMore, Cond.initialized RX5, Cond.code yX5_oneMore cX5_oneMore 1 (some .boolean), Cond.fieldLink RX5 9 "EyeBoard$Tries" "made" "I", Cond.methodLink RX0 52 yX0_caughtIn, Cond.instanceMethod yX0_caughtIn]
def wsX0_answersFail_r6 : List Cond := [Cond.selects RX0 yX0_caughtIn yX0_caughtIn, Cond.methodLink RX0 96 yX4_takeBack, Cond.instanceMethod yX4_takeBack, Cond.selects RX4 yX4_takeBack yX4_takeBack, Cond.code yX4_takeBack cX4_takeBack 1 none, Cond.methodLink RX4 15 Lib.Math.max.name, Cond.static Lib.Math.max.name, Cond.initialized "java/lang/Math", Cond.code Lib.Math.max.name Lib.Math.max.code 2 (some .int), Cond.code yX0_caughtIn cX0_caughtIn 7 (some .int), Cond.methodLink RX0 93 yX0_answersFail, Cond.instanceMethod yX0_answersFail, Cond.selects RX0 yX0_answersFail yX0_answersFail]
def wsX0_answersFail : List Cond := .code yX0_answersFail cX0_answersFail 12 (some .int) :: ((wsX0_answersFail_r1 ++ (wsX0_answersFail_r2 ++ (wsX0_answersFail_r3 ++ (wsX0_answersFail_r4 ++ (wsX0_answersFail_r5 ++ wsX0_answersFail_r6))))) ++ wsX00 ++ wsX20 ++ wsX40 ++ wsX50)
def wsX0_caughtIn_r1 : List Cond := [Cond.fieldLink RX0 9 "EyeBoard$Chase" "grid" "LEyeBoard$Grid;", Cond.fieldLink RX0 15 "EyeBoard$Chase" "row" "LEyeBoard$Row;", Cond.fieldLink RX0 78 "EyeBoard$Grid" "size" "I", Cond.fieldLink RX0 19 "EyeBoard$Chase" "tried" "LEyeBoard$Tries;", Cond.methodLink RX0 61 yX0_targetGroup, Cond.instanceMethod yX0_targetGroup, Cond.selects RX0 yX0_targetGroup yX0_targetGroup, Cond.initialized RX0, Cond.code yX0_targetGroup cX0_targetGroup 1 (some .long), Cond.fieldLink RX0 23 "EyeBoard$Chase" "target" "I", Cond.fieldLink RX0 33 "EyeBoard$Chase" "chased" "I", Cond.methodLink RX0 41 yX4_stonesOf, Cond.instanceMethod yX4_stonesOf, Cond.selects RX4 yX4_stonesOf yX4_stonesOf, Cond.initialized RX4, Cond.code yX4_stonesOf cX4_stonesOf 2 (some .long), Cond.fieldLink RX4 36 "EyeBoard$Row" "latest" "I", Cond.methodLink RX4 46 yX4_stonesThen, Cond.instanceMethod yX4_stonesThen, Cond.selects RX4 yX4_stonesThen yX4_stonesThen, Cond.code yX4_stonesThen cX4_stonesThen 4 (some .long), Cond.fieldLink RX4 21 "EyeBoard$Row" "black" "[J", Cond.fieldLink RX4 25 "EyeBoard$Row" "white" "[J", Cond.methodLink RX0 55 yX2_spread]
def wsX0_caughtIn_r2 : List Cond := [Cond.instanceMethod yX2_spread, Cond.selects RX2 yX2_spread yX2_spread, Cond.initialized RX2, Cond.code yX2_spread cX2_spread 10 (some .long), Cond.methodLink RX2 33 yX2_beside, Cond.instanceMethod yX2_beside, Cond.selects RX2 yX2_beside yX2_beside, Cond.code yX2_beside cX2_beside 5 (some .long), Cond.fieldLink RX2 30 "EyeBoard$Grid" "notLastColumn" "J", Cond.fieldLink RX2 27 "EyeBoard$Grid" "notFirstColumn" "J", Cond.fieldLink RX2 9 "EyeBoard$Grid" "width" "I", Cond.fieldLink RX2 21 "EyeBoard$Grid" "all" "J", Cond.methodLink RX0 65 yX2_beside, Cond.methodLink RX0 69 yX4_free, Cond.instanceMethod yX4_free, Cond.selects RX4 yX4_free yX4_free, Cond.code yX4_free cX4_free 1 (some .long), Cond.fieldLink RX4 9 "EyeBoard$Row" "grid" "LEyeBoard$Grid;", Cond.fieldLink RX4 54 "EyeBoard$Grid" "all" "J", Cond.constantLong RX4 60 (-1), Cond.methodLink RX0 72 yJ13_bitCount_95d88, Cond.static yJ13_bitCount_95d88, Cond.initialized RJ13, Cond.code yJ13_bitCount_95d88 cJ13_bitCount_95d88 2 (some .int)]
def wsX0_caughtIn_r3 : List Cond := [Cond.constantLong RJ13 314 (6148914691236517205), Cond.constantLong RJ13 316 (3689348814741910323), Cond.constantLong RJ13 318 (1085102592571150095), Cond.methodLink RX0 81 yX2_holds, Cond.static yX2_holds, Cond.code yX2_holds cX2_holds 3 (some .boolean), Cond.methodLink RX0 85 yX4_add, Cond.instanceMethod yX4_add, Cond.selects RX4 yX4_add yX4_add, Cond.code yX4_add cX4_add 2 (some .boolean), Cond.fieldLink RX4 28 "EyeBoard$Row" "acts" "[I", Cond.fieldLink RX4 99 "EyeBoard$Grid" "size" "I", Cond.fieldLink RX4 89 "EyeBoard$Row" "blackThen" "J", Cond.fieldLink RX4 92 "EyeBoard$Row" "whiteThen" "J", Cond.methodLink RX4 62 yX4_stonesOf, Cond.methodLink RX4 42 yX4_keep, Cond.instanceMethod yX4_keep, Cond.selects RX4 yX4_keep yX4_keep, Cond.code yX4_keep cX4_keep 6 none, Cond.methodLink RX4 102 yX2_has, Cond.instanceMethod yX2_has, Cond.selects RX2 yX2_has yX2_has, Cond.code yX2_has cX2_has 2 (some .boolean), Cond.fieldLink RX2 18 "EyeBoard$Grid" "size" "I"]
def wsX0_caughtIn_r4 : List Cond := [Cond.methodLink RX4 106 yX4_reasonAgainst, Cond.instanceMethod yX4_reasonAgainst, Cond.selects RX4 yX4_reasonAgainst yX4_reasonAgainst, Cond.code yX4_reasonAgainst cX4_reasonAgainst 11 (some .int), Cond.methodLink RX4 70 yX4_free, Cond.methodLink RX4 66 yX2_holds, Cond.methodLink RX4 74 yX4_mover, Cond.instanceMethod yX4_mover, Cond.selects RX4 yX4_mover yX4_mover, Cond.code yX4_mover cX4_mover 1 (some .int), Cond.methodLink RX4 50 yX4_moverThen, Cond.instanceMethod yX4_moverThen, Cond.selects RX4 yX4_moverThen yX4_moverThen, Cond.code yX4_moverThen cX4_moverThen 2 (some .int), Cond.fieldLink RX4 39 "EyeBoard$Row" "opener" "I", Cond.static yX6_other, Cond.initialized RX6, Cond.code yX6_other cX6_other 1 (some .int), Cond.methodLink RX4 81 yX2_beside, Cond.methodLink RX4 85 yX2_spread, Cond.methodLink RX4 95 yX4_isRefusedByLaw, Cond.instanceMethod yX4_isRefusedByLaw, Cond.selects RX4 yX4_isRefusedByLaw yX4_isRefusedByLaw, Cond.code yX4_isRefusedByLaw cX4_isRefusedByLaw 4 (some .boolean)]
def wsX0_caughtIn_r5 : List Cond := [Cond.fieldLink RX4 32 "EyeBoard$Row" "law" "I", Cond.methodLink RX0 89 yX5_oneMore, Cond.instanceMethod yX5_oneMore, Cond.selects RX5 yX5_oneMore yX5_oneMore, Cond.initialized RX5, Cond.code yX5_oneMore cX5_oneMore 1 (some .boolean), Cond.fieldLink RX5 9 "EyeBoard$Tries" "made" "I", Cond.methodLink RX0 93 yX0_answersFail, Cond.instanceMethod yX0_answersFail, Cond.selects RX0 yX0_answersFail yX0_answersFail, Cond.methodLink RX0 96 yX4_takeBack, Cond.instanceMethod yX4_takeBack, Cond.selects RX4 yX4_takeBack yX4_takeBack, Cond.code yX4_takeBack cX4_takeBack 1 none, Cond.methodLink RX4 15 Lib.Math.max.name, Cond.static Lib.Math.max.name, Cond.initialized "java/lang/Math", Cond.code Lib.Math.max.name Lib.Math.max.code 2 (some .int), Cond.code yX0_answersFail cX0_answersFail 12 (some .int), Cond.constantLong RX0 102 (-1), Cond.methodLink RX0 99 yX0_takingCrossings, Cond.instanceMethod yX0_takingCrossings, Cond.selects RX0 yX0_takingCrossings yX0_takingCrossings, Cond.code yX0_takingCrossings cX0_takingCrossings 10 (some .long)]
def wsX0_caughtIn_r6 : List Cond := [Cond.methodLink RX0 108 yX2_partFrom, Cond.instanceMethod yX2_partFrom, Cond.selects RX2 yX2_partFrom yX2_partFrom, Cond.code yX2_partFrom cX2_partFrom 10 (some .long), Cond.methodLink RX2 37 yX2_spread, Cond.methodLink RX0 104 yX2_nth, Cond.instanceMethod yX2_nth, Cond.selects RX2 yX2_nth yX2_nth, Cond.code yX2_nth cX2_nth 6 (some .int), Cond.methodLink RX2 41 yX2_holds, Cond.methodLink RX0 52 yX0_caughtIn, Cond.instanceMethod yX0_caughtIn, Cond.selects RX0 yX0_caughtIn yX0_caughtIn]
def wsX0_caughtIn : List Cond := .code yX0_caughtIn cX0_caughtIn 7 (some .int) :: ((wsX0_caughtIn_r1 ++ (wsX0_caughtIn_r2 ++ (wsX0_caughtIn_r3 ++ (wsX0_caughtIn_r4 ++ (wsX0_caughtIn_r5 ++ wsX0_caughtIn_r6))))) ++ wsX00 ++ wsX20 ++ wsX40 ++ wsX50)
def wsX0_read_r1 : List Cond := [Cond.fieldLink RX0 23 "EyeBoard$Chase" "target" "I", Cond.fieldLink RX0 33 "EyeBoard$Chase" "chased" "I", Cond.fieldLink RX0 19 "EyeBoard$Chase" "tried" "LEyeBoard$Tries;", Cond.fieldLink RX0 36 "EyeBoard$Tries" "made" "I", Cond.fieldLink RX0 15 "EyeBoard$Chase" "row" "LEyeBoard$Row;", Cond.methodLink RX0 27 yX4_colourAt, Cond.instanceMethod yX4_colourAt, Cond.selects RX4 yX4_colourAt yX4_colourAt, Cond.initialized RX4, Cond.code yX4_colourAt cX4_colourAt 2 (some .int), Cond.methodLink RX4 62 yX4_stonesOf, Cond.instanceMethod yX4_stonesOf, Cond.selects RX4 yX4_stonesOf yX4_stonesOf, Cond.code yX4_stonesOf cX4_stonesOf 2 (some .long), Cond.fieldLink RX4 36 "EyeBoard$Row" "latest" "I", Cond.methodLink RX4 46 yX4_stonesThen, Cond.instanceMethod yX4_stonesThen, Cond.selects RX4 yX4_stonesThen yX4_stonesThen, Cond.code yX4_stonesThen cX4_stonesThen 4 (some .long), Cond.fieldLink RX4 21 "EyeBoard$Row" "black" "[J", Cond.fieldLink RX4 25 "EyeBoard$Row" "white" "[J", Cond.methodLink RX4 66 yX2_holds, Cond.static yX2_holds, Cond.initialized RX2]
def wsX0_read_r2 : List Cond := [Cond.code yX2_holds cX2_holds 3 (some .boolean), Cond.methodLink RX0 41 yX4_stonesOf, Cond.static yX6_other, Cond.initialized RX6, Cond.code yX6_other cX6_other 1 (some .int), Cond.methodLink RX0 48 yX4_begin, Cond.instanceMethod yX4_begin, Cond.selects RX4 yX4_begin yX4_begin, Cond.code yX4_begin cX4_begin 7 none, Cond.fieldLink RX4 32 "EyeBoard$Row" "law" "I", Cond.fieldLink RX4 39 "EyeBoard$Row" "opener" "I", Cond.methodLink RX4 42 yX4_keep, Cond.instanceMethod yX4_keep, Cond.selects RX4 yX4_keep yX4_keep, Cond.code yX4_keep cX4_keep 6 none, Cond.methodLink RX0 52 yX0_caughtIn, Cond.instanceMethod yX0_caughtIn, Cond.selects RX0 yX0_caughtIn yX0_caughtIn, Cond.initialized RX0, Cond.code yX0_caughtIn cX0_caughtIn 7 (some .int), Cond.fieldLink RX0 9 "EyeBoard$Chase" "grid" "LEyeBoard$Grid;", Cond.fieldLink RX0 78 "EyeBoard$Grid" "size" "I", Cond.methodLink RX0 61 yX0_targetGroup, Cond.instanceMethod yX0_targetGroup]
def wsX0_read_r3 : List Cond := [Cond.selects RX0 yX0_targetGroup yX0_targetGroup, Cond.code yX0_targetGroup cX0_targetGroup 1 (some .long), Cond.methodLink RX0 55 yX2_spread, Cond.instanceMethod yX2_spread, Cond.selects RX2 yX2_spread yX2_spread, Cond.code yX2_spread cX2_spread 10 (some .long), Cond.methodLink RX2 33 yX2_beside, Cond.instanceMethod yX2_beside, Cond.selects RX2 yX2_beside yX2_beside, Cond.code yX2_beside cX2_beside 5 (some .long), Cond.fieldLink RX2 30 "EyeBoard$Grid" "notLastColumn" "J", Cond.fieldLink RX2 27 "EyeBoard$Grid" "notFirstColumn" "J", Cond.fieldLink RX2 9 "EyeBoard$Grid" "width" "I", Cond.fieldLink RX2 21 "EyeBoard$Grid" "all" "J", Cond.methodLink RX0 65 yX2_beside, Cond.methodLink RX0 69 yX4_free, Cond.instanceMethod yX4_free, Cond.selects RX4 yX4_free yX4_free, Cond.code yX4_free cX4_free 1 (some .long), Cond.fieldLink RX4 9 "EyeBoard$Row" "grid" "LEyeBoard$Grid;", Cond.fieldLink RX4 54 "EyeBoard$Grid" "all" "J", Cond.constantLong RX4 60 (-1), Cond.methodLink RX0 72 yJ13_bitCount_95d88, Cond.static yJ13_bitCount_95d88]
def wsX0_read_r4 : List Cond := [Cond.initialized RJ13, Cond.code yJ13_bitCount_95d88 cJ13_bitCount_95d88 2 (some .int), Cond.constantLong RJ13 314 (6148914691236517205), Cond.constantLong RJ13 316 (3689348814741910323), Cond.constantLong RJ13 318 (1085102592571150095), Cond.methodLink RX0 81 yX2_holds, Cond.methodLink RX0 85 yX4_add, Cond.instanceMethod yX4_add, Cond.selects RX4 yX4_add yX4_add, Cond.code yX4_add cX4_add 2 (some .boolean), Cond.fieldLink RX4 28 "EyeBoard$Row" "acts" "[I", Cond.fieldLink RX4 99 "EyeBoard$Grid" "size" "I", Cond.fieldLink RX4 89 "EyeBoard$Row" "blackThen" "J", Cond.fieldLink RX4 92 "EyeBoard$Row" "whiteThen" "J", Cond.methodLink RX4 102 yX2_has, Cond.instanceMethod yX2_has, Cond.selects RX2 yX2_has yX2_has, Cond.code yX2_has cX2_has 2 (some .boolean), Cond.fieldLink RX2 18 "EyeBoard$Grid" "size" "I", Cond.methodLink RX4 106 yX4_reasonAgainst, Cond.instanceMethod yX4_reasonAgainst, Cond.selects RX4 yX4_reasonAgainst yX4_reasonAgainst, Cond.code yX4_reasonAgainst cX4_reasonAgainst 11 (some .int), Cond.methodLink RX4 70 yX4_free]
def wsX0_read_r5 : List Cond := [Cond.methodLink RX4 74 yX4_mover, Cond.instanceMethod yX4_mover, Cond.selects RX4 yX4_mover yX4_mover, Cond.code yX4_mover cX4_mover 1 (some .int), Cond.methodLink RX4 50 yX4_moverThen, Cond.instanceMethod yX4_moverThen, Cond.selects RX4 yX4_moverThen yX4_moverThen, Cond.code yX4_moverThen cX4_moverThen 2 (some .int), Cond.methodLink RX4 81 yX2_beside, Cond.methodLink RX4 85 yX2_spread, Cond.methodLink RX4 95 yX4_isRefusedByLaw, Cond.instanceMethod yX4_isRefusedByLaw, Cond.selects RX4 yX4_isRefusedByLaw yX4_isRefusedByLaw, Cond.code yX4_isRefusedByLaw cX4_isRefusedByLaw 4 (some .boolean), Cond.methodLink RX0 89 yX5_oneMore, Cond.instanceMethod yX5_oneMore, Cond.selects RX5 yX5_oneMore yX5_oneMore, Cond.initialized RX5, Cond.code yX5_oneMore cX5_oneMore 1 (some .boolean), Cond.fieldLink RX5 9 "EyeBoard$Tries" "made" "I", Cond.methodLink RX0 93 yX0_answersFail, Cond.instanceMethod yX0_answersFail, Cond.selects RX0 yX0_answersFail yX0_answersFail, Cond.methodLink RX0 96 yX4_takeBack]
def wsX0_read_r6 : List Cond := [Cond.instanceMethod yX4_takeBack, Cond.selects RX4 yX4_takeBack yX4_takeBack, Cond.code yX4_takeBack cX4_takeBack 1 none, Cond.methodLink RX4 15 Lib.Math.max.name, Cond.static Lib.Math.max.name, Cond.initialized "java/lang/Math", Cond.code Lib.Math.max.name Lib.Math.max.code 2 (some .int), Cond.code yX0_answersFail cX0_answersFail 12 (some .int), Cond.constantLong RX0 102 (-1), Cond.methodLink RX0 99 yX0_takingCrossings, Cond.instanceMethod yX0_takingCrossings, Cond.selects RX0 yX0_takingCrossings yX0_takingCrossings, Cond.code yX0_takingCrossings cX0_takingCrossings 10 (some .long), Cond.methodLink RX0 108 yX2_partFrom, Cond.instanceMethod yX2_partFrom, Cond.selects RX2 yX2_partFrom yX2_partFrom, Cond.code yX2_partFrom cX2_partFrom 10 (some .long), Cond.methodLink RX2 37 yX2_spread, Cond.methodLink RX0 104 yX2_nth, Cond.instanceMethod yX2_nth, Cond.selects RX2 yX2_nth yX2_nth, Cond.code yX2_nth cX2_nth 6 (some .int), Cond.methodLink RX2 41 yX2_holds]
def wsX0_read : List Cond := .code yX0_read cX0_read 4 (some .int) :: ((wsX0_read_r1 ++ (wsX0_read_r2 ++ (wsX0_read_r3 ++ (wsX0_read_r4 ++ (wsX0_read_r5 ++ wsX0_read_r6))))) ++ wsX00 ++ wsX50 ++ wsX40 ++ wsX20)
def wsX1_init : List Cond := .code yX1_init cX1_init 4 none :: ([.methodLink RX1 3 objectInit, .instanceMethod objectInit, .code objectInit ⟨#[0xb1]⟩ 1 none, .fieldLink RX1 9 "EyeBoard$Fight" "grid" "LEyeBoard$Grid;", .fieldLink RX1 15 "EyeBoard$Fight" "row" "LEyeBoard$Row;", .fieldLink RX1 19 "EyeBoard$Fight" "tried" "LEyeBoard$Tries;"] ++ wsX10)
def wsX1_takenBehindAct_r1 : List Cond := [Cond.fieldLink RX1 15 "EyeBoard$Fight" "row" "LEyeBoard$Row;", Cond.fieldLink RX1 23 "EyeBoard$Fight" "target" "I", Cond.fieldLink RX1 33 "EyeBoard$Fight" "attacked" "I", Cond.methodLink RX1 27 yX4_colourAt, Cond.instanceMethod yX4_colourAt, Cond.selects RX4 yX4_colourAt yX4_colourAt, Cond.initialized RX4, Cond.code yX4_colourAt cX4_colourAt 2 (some .int), Cond.methodLink RX4 62 yX4_stonesOf, Cond.instanceMethod yX4_stonesOf, Cond.selects RX4 yX4_stonesOf yX4_stonesOf, Cond.code yX4_stonesOf cX4_stonesOf 2 (some .long), Cond.fieldLink RX4 36 "EyeBoard$Row" "latest" "I", Cond.methodLink RX4 46 yX4_stonesThen, Cond.instanceMethod yX4_stonesThen, Cond.selects RX4 yX4_stonesThen yX4_stonesThen, Cond.code yX4_stonesThen cX4_stonesThen 4 (some .long), Cond.fieldLink RX4 21 "EyeBoard$Row" "black" "[J", Cond.fieldLink RX4 25 "EyeBoard$Row" "white" "[J", Cond.methodLink RX4 66 yX2_holds, Cond.static yX2_holds, Cond.initialized RX2, Cond.code yX2_holds cX2_holds 3 (some .boolean), Cond.methodLink RX1 44 yX1_takenIn]
def wsX1_takenBehindAct_r2 : List Cond := [Cond.instanceMethod yX1_takenIn, Cond.selects RX1 yX1_takenIn yX1_takenIn, Cond.initialized RX1, Cond.code yX1_takenIn cX1_takenIn 5 (some .int), Cond.fieldLink RX1 9 "EyeBoard$Fight" "grid" "LEyeBoard$Grid;", Cond.fieldLink RX1 51 "EyeBoard$Grid" "size" "I", Cond.fieldLink RX1 19 "EyeBoard$Fight" "tried" "LEyeBoard$Tries;", Cond.fieldLink RX1 36 "EyeBoard$Fight" "decidingAct" "I", Cond.methodLink RX1 47 yX4_mover, Cond.instanceMethod yX4_mover, Cond.selects RX4 yX4_mover yX4_mover, Cond.code yX4_mover cX4_mover 1 (some .int), Cond.methodLink RX4 50 yX4_moverThen, Cond.instanceMethod yX4_moverThen, Cond.selects RX4 yX4_moverThen yX4_moverThen, Cond.code yX4_moverThen cX4_moverThen 2 (some .int), Cond.fieldLink RX4 39 "EyeBoard$Row" "opener" "I", Cond.methodLink RX1 56 yX4_add, Cond.instanceMethod yX4_add, Cond.selects RX4 yX4_add yX4_add, Cond.code yX4_add cX4_add 2 (some .boolean), Cond.fieldLink RX4 28 "EyeBoard$Row" "acts" "[I", Cond.fieldLink RX4 9 "EyeBoard$Row" "grid" "LEyeBoard$Grid;", Cond.fieldLink RX4 99 "EyeBoard$Grid" "size" "I"]
def wsX1_takenBehindAct_r3 : List Cond := [Cond.fieldLink RX4 89 "EyeBoard$Row" "blackThen" "J", Cond.fieldLink RX4 92 "EyeBoard$Row" "whiteThen" "J", Cond.methodLink RX4 42 yX4_keep, Cond.instanceMethod yX4_keep, Cond.selects RX4 yX4_keep yX4_keep, Cond.code yX4_keep cX4_keep 6 none, Cond.methodLink RX4 102 yX2_has, Cond.instanceMethod yX2_has, Cond.selects RX2 yX2_has yX2_has, Cond.code yX2_has cX2_has 2 (some .boolean), Cond.fieldLink RX2 18 "EyeBoard$Grid" "size" "I", Cond.methodLink RX4 106 yX4_reasonAgainst, Cond.instanceMethod yX4_reasonAgainst, Cond.selects RX4 yX4_reasonAgainst yX4_reasonAgainst, Cond.code yX4_reasonAgainst cX4_reasonAgainst 11 (some .int), Cond.fieldLink RX4 54 "EyeBoard$Grid" "all" "J", Cond.constantLong RX4 60 (-1), Cond.methodLink RX4 70 yX4_free, Cond.instanceMethod yX4_free, Cond.selects RX4 yX4_free yX4_free, Cond.code yX4_free cX4_free 1 (some .long), Cond.methodLink RX4 74 yX4_mover, Cond.static yX6_other, Cond.initialized RX6]
def wsX1_takenBehindAct_r4 : List Cond := [Cond.code yX6_other cX6_other 1 (some .int), Cond.methodLink RX4 81 yX2_beside, Cond.instanceMethod yX2_beside, Cond.selects RX2 yX2_beside yX2_beside, Cond.code yX2_beside cX2_beside 5 (some .long), Cond.fieldLink RX2 30 "EyeBoard$Grid" "notLastColumn" "J", Cond.fieldLink RX2 27 "EyeBoard$Grid" "notFirstColumn" "J", Cond.fieldLink RX2 9 "EyeBoard$Grid" "width" "I", Cond.fieldLink RX2 21 "EyeBoard$Grid" "all" "J", Cond.methodLink RX4 85 yX2_spread, Cond.instanceMethod yX2_spread, Cond.selects RX2 yX2_spread yX2_spread, Cond.code yX2_spread cX2_spread 10 (some .long), Cond.methodLink RX2 33 yX2_beside, Cond.methodLink RX4 95 yX4_isRefusedByLaw, Cond.instanceMethod yX4_isRefusedByLaw, Cond.selects RX4 yX4_isRefusedByLaw yX4_isRefusedByLaw, Cond.code yX4_isRefusedByLaw cX4_isRefusedByLaw 4 (some .boolean), Cond.fieldLink RX4 32 "EyeBoard$Row" "law" "I", Cond.methodLink RX1 60 yX5_oneMore, Cond.instanceMethod yX5_oneMore, Cond.selects RX5 yX5_oneMore yX5_oneMore, Cond.initialized RX5, Cond.code yX5_oneMore cX5_oneMore 1 (some .boolean)]
def wsX1_takenBehindAct_r5 : List Cond := [Cond.fieldLink RX5 9 "EyeBoard$Tries" "made" "I", Cond.methodLink RX1 64 yX1_takenBehindAct, Cond.instanceMethod yX1_takenBehindAct, Cond.selects RX1 yX1_takenBehindAct yX1_takenBehindAct, Cond.methodLink RX1 67 yX4_takeBack, Cond.instanceMethod yX4_takeBack, Cond.selects RX4 yX4_takeBack yX4_takeBack, Cond.code yX4_takeBack cX4_takeBack 1 none, Cond.methodLink RX4 15 Lib.Math.max.name, Cond.static Lib.Math.max.name, Cond.initialized "java/lang/Math", Cond.code Lib.Math.max.name Lib.Math.max.code 2 (some .int)]
def wsX1_takenBehindAct : List Cond := .code yX1_takenBehindAct cX1_takenBehindAct 2 (some .int) :: ((wsX1_takenBehindAct_r1 ++ (wsX1_takenBehindAct_r2 ++ (wsX1_takenBehindAct_r3 ++ (wsX1_takenBehindAct_r4 ++ wsX1_takenBehindAct_r5)))) ++ wsX10 ++ wsX40 ++ wsX20 ++ wsX50)
def wsX1_takenIn_r1 : List Cond := [Cond.fieldLink RX1 15 "EyeBoard$Fight" "row" "LEyeBoard$Row;", Cond.fieldLink RX1 33 "EyeBoard$Fight" "attacked" "I", Cond.fieldLink RX1 9 "EyeBoard$Fight" "grid" "LEyeBoard$Grid;", Cond.fieldLink RX1 51 "EyeBoard$Grid" "size" "I", Cond.fieldLink RX1 19 "EyeBoard$Fight" "tried" "LEyeBoard$Tries;", Cond.fieldLink RX1 36 "EyeBoard$Fight" "decidingAct" "I", Cond.methodLink RX1 47 yX4_mover, Cond.instanceMethod yX4_mover, Cond.selects RX4 yX4_mover yX4_mover, Cond.initialized RX4, Cond.code yX4_mover cX4_mover 1 (some .int), Cond.fieldLink RX4 36 "EyeBoard$Row" "latest" "I", Cond.methodLink RX4 50 yX4_moverThen, Cond.instanceMethod yX4_moverThen, Cond.selects RX4 yX4_moverThen yX4_moverThen, Cond.code yX4_moverThen cX4_moverThen 2 (some .int), Cond.fieldLink RX4 39 "EyeBoard$Row" "opener" "I", Cond.methodLink RX1 56 yX4_add, Cond.instanceMethod yX4_add, Cond.selects RX4 yX4_add yX4_add, Cond.code yX4_add cX4_add 2 (some .boolean), Cond.fieldLink RX4 21 "EyeBoard$Row" "black" "[J", Cond.fieldLink RX4 28 "EyeBoard$Row" "acts" "[I", Cond.fieldLink RX4 9 "EyeBoard$Row" "grid" "LEyeBoard$Grid;"]
def wsX1_takenIn_r2 : List Cond := [Cond.fieldLink RX4 99 "EyeBoard$Grid" "size" "I", Cond.fieldLink RX4 89 "EyeBoard$Row" "blackThen" "J", Cond.fieldLink RX4 92 "EyeBoard$Row" "whiteThen" "J", Cond.methodLink RX4 62 yX4_stonesOf, Cond.instanceMethod yX4_stonesOf, Cond.selects RX4 yX4_stonesOf yX4_stonesOf, Cond.code yX4_stonesOf cX4_stonesOf 2 (some .long), Cond.methodLink RX4 46 yX4_stonesThen, Cond.instanceMethod yX4_stonesThen, Cond.selects RX4 yX4_stonesThen yX4_stonesThen, Cond.code yX4_stonesThen cX4_stonesThen 4 (some .long), Cond.fieldLink RX4 25 "EyeBoard$Row" "white" "[J", Cond.methodLink RX4 42 yX4_keep, Cond.instanceMethod yX4_keep, Cond.selects RX4 yX4_keep yX4_keep, Cond.code yX4_keep cX4_keep 6 none, Cond.methodLink RX4 102 yX2_has, Cond.instanceMethod yX2_has, Cond.selects RX2 yX2_has yX2_has, Cond.initialized RX2, Cond.code yX2_has cX2_has 2 (some .boolean), Cond.fieldLink RX2 18 "EyeBoard$Grid" "size" "I", Cond.methodLink RX4 106 yX4_reasonAgainst, Cond.instanceMethod yX4_reasonAgainst]
def wsX1_takenIn_r3 : List Cond := [Cond.selects RX4 yX4_reasonAgainst yX4_reasonAgainst, Cond.code yX4_reasonAgainst cX4_reasonAgainst 11 (some .int), Cond.fieldLink RX4 54 "EyeBoard$Grid" "all" "J", Cond.constantLong RX4 60 (-1), Cond.methodLink RX4 70 yX4_free, Cond.instanceMethod yX4_free, Cond.selects RX4 yX4_free yX4_free, Cond.code yX4_free cX4_free 1 (some .long), Cond.methodLink RX4 66 yX2_holds, Cond.static yX2_holds, Cond.code yX2_holds cX2_holds 3 (some .boolean), Cond.methodLink RX4 74 yX4_mover, Cond.static yX6_other, Cond.initialized RX6, Cond.code yX6_other cX6_other 1 (some .int), Cond.methodLink RX4 81 yX2_beside, Cond.instanceMethod yX2_beside, Cond.selects RX2 yX2_beside yX2_beside, Cond.code yX2_beside cX2_beside 5 (some .long), Cond.fieldLink RX2 30 "EyeBoard$Grid" "notLastColumn" "J", Cond.fieldLink RX2 27 "EyeBoard$Grid" "notFirstColumn" "J", Cond.fieldLink RX2 9 "EyeBoard$Grid" "width" "I", Cond.fieldLink RX2 21 "EyeBoard$Grid" "all" "J", Cond.methodLink RX4 85 yX2_spread]
def wsX1_takenIn_r4 : List Cond := [Cond.instanceMethod yX2_spread, Cond.selects RX2 yX2_spread yX2_spread, Cond.code yX2_spread cX2_spread 10 (some .long), Cond.methodLink RX2 33 yX2_beside, Cond.methodLink RX4 95 yX4_isRefusedByLaw, Cond.instanceMethod yX4_isRefusedByLaw, Cond.selects RX4 yX4_isRefusedByLaw yX4_isRefusedByLaw, Cond.code yX4_isRefusedByLaw cX4_isRefusedByLaw 4 (some .boolean), Cond.fieldLink RX4 32 "EyeBoard$Row" "law" "I", Cond.methodLink RX1 60 yX5_oneMore, Cond.instanceMethod yX5_oneMore, Cond.selects RX5 yX5_oneMore yX5_oneMore, Cond.initialized RX5, Cond.code yX5_oneMore cX5_oneMore 1 (some .boolean), Cond.fieldLink RX5 9 "EyeBoard$Tries" "made" "I", Cond.methodLink RX1 64 yX1_takenBehindAct, Cond.instanceMethod yX1_takenBehindAct, Cond.selects RX1 yX1_takenBehindAct yX1_takenBehindAct, Cond.initialized RX1, Cond.methodLink RX1 67 yX4_takeBack, Cond.instanceMethod yX4_takeBack, Cond.selects RX4 yX4_takeBack yX4_takeBack, Cond.code yX4_takeBack cX4_takeBack 1 none, Cond.methodLink RX4 15 Lib.Math.max.name]
def wsX1_takenIn_r5 : List Cond := [Cond.static Lib.Math.max.name, Cond.initialized "java/lang/Math", Cond.code Lib.Math.max.name Lib.Math.max.code 2 (some .int), Cond.code yX1_takenBehindAct cX1_takenBehindAct 2 (some .int), Cond.fieldLink RX1 23 "EyeBoard$Fight" "target" "I", Cond.methodLink RX1 27 yX4_colourAt, Cond.instanceMethod yX4_colourAt, Cond.selects RX4 yX4_colourAt yX4_colourAt, Cond.code yX4_colourAt cX4_colourAt 2 (some .int), Cond.methodLink RX1 44 yX1_takenIn, Cond.instanceMethod yX1_takenIn, Cond.selects RX1 yX1_takenIn yX1_takenIn]
def wsX1_takenIn : List Cond := .code yX1_takenIn cX1_takenIn 5 (some .int) :: ((wsX1_takenIn_r1 ++ (wsX1_takenIn_r2 ++ (wsX1_takenIn_r3 ++ (wsX1_takenIn_r4 ++ wsX1_takenIn_r5)))) ++ wsX10 ++ wsX40 ++ wsX20 ++ wsX50)
def wsX1_read_r1 : List Cond := [Cond.fieldLink RX1 23 "EyeBoard$Fight" "target" "I", Cond.fieldLink RX1 15 "EyeBoard$Fight" "row" "LEyeBoard$Row;", Cond.fieldLink RX1 33 "EyeBoard$Fight" "attacked" "I", Cond.fieldLink RX1 36 "EyeBoard$Fight" "decidingAct" "I", Cond.fieldLink RX1 19 "EyeBoard$Fight" "tried" "LEyeBoard$Tries;", Cond.fieldLink RX1 39 "EyeBoard$Tries" "made" "I", Cond.methodLink RX1 27 yX4_colourAt, Cond.instanceMethod yX4_colourAt, Cond.selects RX4 yX4_colourAt yX4_colourAt, Cond.initialized RX4, Cond.code yX4_colourAt cX4_colourAt 2 (some .int), Cond.methodLink RX4 62 yX4_stonesOf, Cond.instanceMethod yX4_stonesOf, Cond.selects RX4 yX4_stonesOf yX4_stonesOf, Cond.code yX4_stonesOf cX4_stonesOf 2 (some .long), Cond.fieldLink RX4 36 "EyeBoard$Row" "latest" "I", Cond.methodLink RX4 46 yX4_stonesThen, Cond.instanceMethod yX4_stonesThen, Cond.selects RX4 yX4_stonesThen yX4_stonesThen, Cond.code yX4_stonesThen cX4_stonesThen 4 (some .long), Cond.fieldLink RX4 21 "EyeBoard$Row" "black" "[J", Cond.fieldLink RX4 25 "EyeBoard$Row" "white" "[J", Cond.methodLink RX4 66 yX2_holds, Cond.static yX2_holds]
def wsX1_read_r2 : List Cond := [Cond.initialized RX2, Cond.code yX2_holds cX2_holds 3 (some .boolean), Cond.methodLink RX1 44 yX1_takenIn, Cond.instanceMethod yX1_takenIn, Cond.selects RX1 yX1_takenIn yX1_takenIn, Cond.initialized RX1, Cond.code yX1_takenIn cX1_takenIn 5 (some .int), Cond.fieldLink RX1 9 "EyeBoard$Fight" "grid" "LEyeBoard$Grid;", Cond.fieldLink RX1 51 "EyeBoard$Grid" "size" "I", Cond.methodLink RX1 47 yX4_mover, Cond.instanceMethod yX4_mover, Cond.selects RX4 yX4_mover yX4_mover, Cond.code yX4_mover cX4_mover 1 (some .int), Cond.methodLink RX4 50 yX4_moverThen, Cond.instanceMethod yX4_moverThen, Cond.selects RX4 yX4_moverThen yX4_moverThen, Cond.code yX4_moverThen cX4_moverThen 2 (some .int), Cond.fieldLink RX4 39 "EyeBoard$Row" "opener" "I", Cond.methodLink RX1 56 yX4_add, Cond.instanceMethod yX4_add, Cond.selects RX4 yX4_add yX4_add, Cond.code yX4_add cX4_add 2 (some .boolean), Cond.fieldLink RX4 28 "EyeBoard$Row" "acts" "[I", Cond.fieldLink RX4 9 "EyeBoard$Row" "grid" "LEyeBoard$Grid;"]
def wsX1_read_r3 : List Cond := [Cond.fieldLink RX4 99 "EyeBoard$Grid" "size" "I", Cond.fieldLink RX4 89 "EyeBoard$Row" "blackThen" "J", Cond.fieldLink RX4 92 "EyeBoard$Row" "whiteThen" "J", Cond.methodLink RX4 42 yX4_keep, Cond.instanceMethod yX4_keep, Cond.selects RX4 yX4_keep yX4_keep, Cond.code yX4_keep cX4_keep 6 none, Cond.methodLink RX4 102 yX2_has, Cond.instanceMethod yX2_has, Cond.selects RX2 yX2_has yX2_has, Cond.code yX2_has cX2_has 2 (some .boolean), Cond.fieldLink RX2 18 "EyeBoard$Grid" "size" "I", Cond.methodLink RX4 106 yX4_reasonAgainst, Cond.instanceMethod yX4_reasonAgainst, Cond.selects RX4 yX4_reasonAgainst yX4_reasonAgainst, Cond.code yX4_reasonAgainst cX4_reasonAgainst 11 (some .int), Cond.fieldLink RX4 54 "EyeBoard$Grid" "all" "J", Cond.constantLong RX4 60 (-1), Cond.methodLink RX4 70 yX4_free, Cond.instanceMethod yX4_free, Cond.selects RX4 yX4_free yX4_free, Cond.code yX4_free cX4_free 1 (some .long), Cond.methodLink RX4 74 yX4_mover, Cond.static yX6_other]
def wsX1_read_r4 : List Cond := [Cond.initialized RX6, Cond.code yX6_other cX6_other 1 (some .int), Cond.methodLink RX4 81 yX2_beside, Cond.instanceMethod yX2_beside, Cond.selects RX2 yX2_beside yX2_beside, Cond.code yX2_beside cX2_beside 5 (some .long), Cond.fieldLink RX2 30 "EyeBoard$Grid" "notLastColumn" "J", Cond.fieldLink RX2 27 "EyeBoard$Grid" "notFirstColumn" "J", Cond.fieldLink RX2 9 "EyeBoard$Grid" "width" "I", Cond.fieldLink RX2 21 "EyeBoard$Grid" "all" "J", Cond.methodLink RX4 85 yX2_spread, Cond.instanceMethod yX2_spread, Cond.selects RX2 yX2_spread yX2_spread, Cond.code yX2_spread cX2_spread 10 (some .long), Cond.methodLink RX2 33 yX2_beside, Cond.methodLink RX4 95 yX4_isRefusedByLaw, Cond.instanceMethod yX4_isRefusedByLaw, Cond.selects RX4 yX4_isRefusedByLaw yX4_isRefusedByLaw, Cond.code yX4_isRefusedByLaw cX4_isRefusedByLaw 4 (some .boolean), Cond.fieldLink RX4 32 "EyeBoard$Row" "law" "I", Cond.methodLink RX1 60 yX5_oneMore, Cond.instanceMethod yX5_oneMore, Cond.selects RX5 yX5_oneMore yX5_oneMore, Cond.initialized RX5]
def wsX1_read_r5 : List Cond := [Cond.code yX5_oneMore cX5_oneMore 1 (some .boolean), Cond.fieldLink RX5 9 "EyeBoard$Tries" "made" "I", Cond.methodLink RX1 64 yX1_takenBehindAct, Cond.instanceMethod yX1_takenBehindAct, Cond.selects RX1 yX1_takenBehindAct yX1_takenBehindAct, Cond.methodLink RX1 67 yX4_takeBack, Cond.instanceMethod yX4_takeBack, Cond.selects RX4 yX4_takeBack yX4_takeBack, Cond.code yX4_takeBack cX4_takeBack 1 none, Cond.methodLink RX4 15 Lib.Math.max.name, Cond.static Lib.Math.max.name, Cond.initialized "java/lang/Math", Cond.code Lib.Math.max.name Lib.Math.max.code 2 (some .int), Cond.code yX1_takenBehindAct cX1_takenBehindAct 2 (some .int)]
def wsX1_read : List Cond := .code yX1_read cX1_read 3 (some .int) :: ((wsX1_read_r1 ++ (wsX1_read_r2 ++ (wsX1_read_r3 ++ (wsX1_read_r4 ++ wsX1_read_r5)))) ++ wsX10 ++ wsX50 ++ wsX40 ++ wsX20)
def wsX2_init : List Cond := .code yX2_init cX2_init 1 none :: ([.methodLink RX2 3 objectInit, .instanceMethod objectInit, .code objectInit ⟨#[0xb1]⟩ 1 none])
def wsX2_measure : List Cond := .code yX2_measure cX2_measure 6 none :: ([.fieldLink RX2 9 "EyeBoard$Grid" "width" "I", .fieldLink RX2 15 "EyeBoard$Grid" "height" "I", .fieldLink RX2 18 "EyeBoard$Grid" "size" "I", .fieldLink RX2 21 "EyeBoard$Grid" "all" "J", .constantLong RX2 25 (-1), .fieldLink RX2 27 "EyeBoard$Grid" "notFirstColumn" "J", .fieldLink RX2 30 "EyeBoard$Grid" "notLastColumn" "J"] ++ wsX20)
def wsX2_allBreathe : List Cond := .code yX2_allBreathe cX2_allBreathe 5 (some .boolean) :: ([.methodLink RX2 33 yX2_beside, .instanceMethod yX2_beside, .selects RX2 yX2_beside yX2_beside, .initialized RX2, .code yX2_beside cX2_beside 5 (some .long), .fieldLink RX2 30 "EyeBoard$Grid" "notLastColumn" "J", .fieldLink RX2 27 "EyeBoard$Grid" "notFirstColumn" "J", .fieldLink RX2 9 "EyeBoard$Grid" "width" "I", .fieldLink RX2 21 "EyeBoard$Grid" "all" "J", .methodLink RX2 37 yX2_spread, .instanceMethod yX2_spread, .selects RX2 yX2_spread yX2_spread, .code yX2_spread cX2_spread 10 (some .long)] ++ wsX20)
def wsX2_freeOf : List Cond := .code yX2_freeOf cX2_freeOf 14 (some .long) :: ([.fieldLink RX2 21 "EyeBoard$Grid" "all" "J", .constantLong RX2 25 (-1), .fieldLink RX2 18 "EyeBoard$Grid" "size" "I", .methodLink RX2 45 yX2_partFrom, .instanceMethod yX2_partFrom, .selects RX2 yX2_partFrom yX2_partFrom, .initialized RX2, .code yX2_partFrom cX2_partFrom 10 (some .long), .methodLink RX2 33 yX2_beside, .instanceMethod yX2_beside, .selects RX2 yX2_beside yX2_beside, .code yX2_beside cX2_beside 5 (some .long), .fieldLink RX2 30 "EyeBoard$Grid" "notLastColumn" "J", .fieldLink RX2 27 "EyeBoard$Grid" "notFirstColumn" "J", .fieldLink RX2 9 "EyeBoard$Grid" "width" "I", .methodLink RX2 37 yX2_spread, .instanceMethod yX2_spread, .selects RX2 yX2_spread yX2_spread, .code yX2_spread cX2_spread 10 (some .long)] ++ wsX20)
def wsX3_init : List Cond := .code yX3_init cX3_init 2 none :: ([.methodLink RX3 3 objectInit, .instanceMethod objectInit, .code objectInit ⟨#[0xb1]⟩ 1 none, .fieldLink RX3 9 "EyeBoard$Life" "grid" "LEyeBoard$Grid;"] ++ wsX30)
def wsX3_isVital : List Cond := .code yX3_isVital cX3_isVital 9 (some .boolean) :: ([.fieldLink RX3 9 "EyeBoard$Life" "grid" "LEyeBoard$Grid;", .constantLong RX3 21 (-1), .methodLink RX3 15 yX2_beside, .instanceMethod yX2_beside, .selects RX2 yX2_beside yX2_beside, .initialized RX2, .code yX2_beside cX2_beside 5 (some .long), .fieldLink RX2 30 "EyeBoard$Grid" "notLastColumn" "J", .fieldLink RX2 27 "EyeBoard$Grid" "notFirstColumn" "J", .fieldLink RX2 9 "EyeBoard$Grid" "width" "I", .fieldLink RX2 21 "EyeBoard$Grid" "all" "J"] ++ wsX30 ++ wsX20)
def wsX3_vitalRegions_r1 : List Cond := [Cond.fieldLink RX3 9 "EyeBoard$Life" "grid" "LEyeBoard$Grid;", Cond.fieldLink RX3 23 "EyeBoard$Grid" "size" "I", Cond.methodLink RX3 27 yX2_partFrom, Cond.instanceMethod yX2_partFrom, Cond.selects RX2 yX2_partFrom yX2_partFrom, Cond.initialized RX2, Cond.code yX2_partFrom cX2_partFrom 10 (some .long), Cond.methodLink RX2 33 yX2_beside, Cond.instanceMethod yX2_beside, Cond.selects RX2 yX2_beside yX2_beside, Cond.code yX2_beside cX2_beside 5 (some .long), Cond.fieldLink RX2 30 "EyeBoard$Grid" "notLastColumn" "J", Cond.fieldLink RX2 27 "EyeBoard$Grid" "notFirstColumn" "J", Cond.fieldLink RX2 9 "EyeBoard$Grid" "width" "I", Cond.fieldLink RX2 21 "EyeBoard$Grid" "all" "J", Cond.methodLink RX2 37 yX2_spread, Cond.instanceMethod yX2_spread, Cond.selects RX2 yX2_spread yX2_spread, Cond.code yX2_spread cX2_spread 10 (some .long), Cond.methodLink RX3 31 yX3_isVital, Cond.instanceMethod yX3_isVital, Cond.selects RX3 yX3_isVital yX3_isVital, Cond.initialized RX3, Cond.code yX3_isVital cX3_isVital 9 (some .boolean)]
def wsX3_vitalRegions_r2 : List Cond := [Cond.constantLong RX3 21 (-1), Cond.methodLink RX3 15 yX2_beside]
def wsX3_vitalRegions : List Cond := .code yX3_vitalRegions cX3_vitalRegions 9 (some .int) :: ((wsX3_vitalRegions_r1 ++ wsX3_vitalRegions_r2) ++ wsX30 ++ wsX20)
def wsX3_groupsTouched : List Cond := .code yX3_groupsTouched cX3_groupsTouched 9 (some .int) :: ([.fieldLink RX3 9 "EyeBoard$Life" "grid" "LEyeBoard$Grid;", .fieldLink RX3 23 "EyeBoard$Grid" "size" "I", .methodLink RX3 15 yX2_beside, .instanceMethod yX2_beside, .selects RX2 yX2_beside yX2_beside, .initialized RX2, .code yX2_beside cX2_beside 5 (some .long), .fieldLink RX2 30 "EyeBoard$Grid" "notLastColumn" "J", .fieldLink RX2 27 "EyeBoard$Grid" "notFirstColumn" "J", .fieldLink RX2 9 "EyeBoard$Grid" "width" "I", .fieldLink RX2 21 "EyeBoard$Grid" "all" "J", .methodLink RX3 27 yX2_partFrom, .instanceMethod yX2_partFrom, .selects RX2 yX2_partFrom yX2_partFrom, .code yX2_partFrom cX2_partFrom 10 (some .long), .methodLink RX2 33 yX2_beside, .methodLink RX2 37 yX2_spread, .instanceMethod yX2_spread, .selects RX2 yX2_spread yX2_spread, .code yX2_spread cX2_spread 10 (some .long)] ++ wsX30 ++ wsX20)
def wsX3_groupsItIsVitalTo_r1 : List Cond := [Cond.fieldLink RX3 9 "EyeBoard$Life" "grid" "LEyeBoard$Grid;", Cond.fieldLink RX3 23 "EyeBoard$Grid" "size" "I", Cond.methodLink RX3 27 yX2_partFrom, Cond.instanceMethod yX2_partFrom, Cond.selects RX2 yX2_partFrom yX2_partFrom, Cond.initialized RX2, Cond.code yX2_partFrom cX2_partFrom 10 (some .long), Cond.methodLink RX2 33 yX2_beside, Cond.instanceMethod yX2_beside, Cond.selects RX2 yX2_beside yX2_beside, Cond.code yX2_beside cX2_beside 5 (some .long), Cond.fieldLink RX2 30 "EyeBoard$Grid" "notLastColumn" "J", Cond.fieldLink RX2 27 "EyeBoard$Grid" "notFirstColumn" "J", Cond.fieldLink RX2 9 "EyeBoard$Grid" "width" "I", Cond.fieldLink RX2 21 "EyeBoard$Grid" "all" "J", Cond.methodLink RX2 37 yX2_spread, Cond.instanceMethod yX2_spread, Cond.selects RX2 yX2_spread yX2_spread, Cond.code yX2_spread cX2_spread 10 (some .long), Cond.methodLink RX3 31 yX3_isVital, Cond.instanceMethod yX3_isVital, Cond.selects RX3 yX3_isVital yX3_isVital, Cond.initialized RX3, Cond.code yX3_isVital cX3_isVital 9 (some .boolean)]
def wsX3_groupsItIsVitalTo_r2 : List Cond := [Cond.constantLong RX3 21 (-1), Cond.methodLink RX3 15 yX2_beside]
def wsX3_groupsItIsVitalTo : List Cond := .code yX3_groupsItIsVitalTo cX3_groupsItIsVitalTo 9 (some .int) :: ((wsX3_groupsItIsVitalTo_r1 ++ wsX3_groupsItIsVitalTo_r2) ++ wsX30 ++ wsX20)
def wsX3_groupsWithoutTwo_r1 : List Cond := [Cond.fieldLink RX3 9 "EyeBoard$Life" "grid" "LEyeBoard$Grid;", Cond.fieldLink RX3 23 "EyeBoard$Grid" "size" "I", Cond.methodLink RX3 27 yX2_partFrom, Cond.instanceMethod yX2_partFrom, Cond.selects RX2 yX2_partFrom yX2_partFrom, Cond.initialized RX2, Cond.code yX2_partFrom cX2_partFrom 10 (some .long), Cond.methodLink RX2 33 yX2_beside, Cond.instanceMethod yX2_beside, Cond.selects RX2 yX2_beside yX2_beside, Cond.code yX2_beside cX2_beside 5 (some .long), Cond.fieldLink RX2 30 "EyeBoard$Grid" "notLastColumn" "J", Cond.fieldLink RX2 27 "EyeBoard$Grid" "notFirstColumn" "J", Cond.fieldLink RX2 9 "EyeBoard$Grid" "width" "I", Cond.fieldLink RX2 21 "EyeBoard$Grid" "all" "J", Cond.methodLink RX2 37 yX2_spread, Cond.instanceMethod yX2_spread, Cond.selects RX2 yX2_spread yX2_spread, Cond.code yX2_spread cX2_spread 10 (some .long), Cond.methodLink RX3 47 yX3_vitalRegions, Cond.instanceMethod yX3_vitalRegions, Cond.selects RX3 yX3_vitalRegions yX3_vitalRegions, Cond.initialized RX3, Cond.code yX3_vitalRegions cX3_vitalRegions 9 (some .int)]
def wsX3_groupsWithoutTwo_r2 : List Cond := [Cond.methodLink RX3 31 yX3_isVital, Cond.instanceMethod yX3_isVital, Cond.selects RX3 yX3_isVital yX3_isVital, Cond.code yX3_isVital cX3_isVital 9 (some .boolean), Cond.constantLong RX3 21 (-1), Cond.methodLink RX3 15 yX2_beside]
def wsX3_groupsWithoutTwo : List Cond := .code yX3_groupsWithoutTwo cX3_groupsWithoutTwo 12 (some .long) :: ((wsX3_groupsWithoutTwo_r1 ++ wsX3_groupsWithoutTwo_r2) ++ wsX30 ++ wsX20)
def wsX3_standingStones_r1 : List Cond := [Cond.fieldLink RX3 9 "EyeBoard$Life" "grid" "LEyeBoard$Grid;", Cond.fieldLink RX3 35 "EyeBoard$Grid" "all" "J", Cond.constantLong RX3 21 (-1), Cond.methodLink RX3 39 yX3_groupsWithoutTwo, Cond.instanceMethod yX3_groupsWithoutTwo, Cond.selects RX3 yX3_groupsWithoutTwo yX3_groupsWithoutTwo, Cond.initialized RX3, Cond.code yX3_groupsWithoutTwo cX3_groupsWithoutTwo 12 (some .long), Cond.fieldLink RX3 23 "EyeBoard$Grid" "size" "I", Cond.methodLink RX3 27 yX2_partFrom, Cond.instanceMethod yX2_partFrom, Cond.selects RX2 yX2_partFrom yX2_partFrom, Cond.initialized RX2, Cond.code yX2_partFrom cX2_partFrom 10 (some .long), Cond.methodLink RX2 33 yX2_beside, Cond.instanceMethod yX2_beside, Cond.selects RX2 yX2_beside yX2_beside, Cond.code yX2_beside cX2_beside 5 (some .long), Cond.fieldLink RX2 30 "EyeBoard$Grid" "notLastColumn" "J", Cond.fieldLink RX2 27 "EyeBoard$Grid" "notFirstColumn" "J", Cond.fieldLink RX2 9 "EyeBoard$Grid" "width" "I", Cond.fieldLink RX2 21 "EyeBoard$Grid" "all" "J", Cond.methodLink RX2 37 yX2_spread, Cond.instanceMethod yX2_spread]
def wsX3_standingStones_r2 : List Cond := [Cond.selects RX2 yX2_spread yX2_spread, Cond.code yX2_spread cX2_spread 10 (some .long), Cond.methodLink RX3 47 yX3_vitalRegions, Cond.instanceMethod yX3_vitalRegions, Cond.selects RX3 yX3_vitalRegions yX3_vitalRegions, Cond.code yX3_vitalRegions cX3_vitalRegions 9 (some .int), Cond.methodLink RX3 31 yX3_isVital, Cond.instanceMethod yX3_isVital, Cond.selects RX3 yX3_isVital yX3_isVital, Cond.code yX3_isVital cX3_isVital 9 (some .boolean), Cond.methodLink RX3 15 yX2_beside, Cond.methodLink RX3 43 yX2_spread]
def wsX3_standingStones : List Cond := .code yX3_standingStones cX3_standingStones 12 (some .long) :: ((wsX3_standingStones_r1 ++ wsX3_standingStones_r2) ++ wsX30 ++ wsX20)
def wsX4_init : List Cond := .code yX4_init cX4_init 4 none :: ([.methodLink RX4 3 objectInit, .instanceMethod objectInit, .code objectInit ⟨#[0xb1]⟩ 1 none, .fieldLink RX4 9 "EyeBoard$Row" "grid" "LEyeBoard$Grid;", .methodLink RX4 15 Lib.Math.max.name, .static Lib.Math.max.name, .initialized "java/lang/Math", .code Lib.Math.max.name Lib.Math.max.code 2 (some .int), .arrayClass .long, .fieldLink RX4 21 "EyeBoard$Row" "black" "[J", .fieldLink RX4 25 "EyeBoard$Row" "white" "[J", .arrayClass .int, .fieldLink RX4 28 "EyeBoard$Row" "acts" "[I"] ++ wsX40)
def wsX4_actAt : List Cond := .code yX4_actAt cX4_actAt 2 (some .int) :: ([.fieldLink RX4 36 "EyeBoard$Row" "latest" "I", .fieldLink RX4 28 "EyeBoard$Row" "acts" "[I"] ++ wsX40)
def wsX4_passesNow : List Cond := .code yX4_passesNow cX4_passesNow 3 (some .int) :: ([.fieldLink RX4 36 "EyeBoard$Row" "latest" "I", .fieldLink RX4 9 "EyeBoard$Row" "grid" "LEyeBoard$Grid;", .fieldLink RX4 99 "EyeBoard$Grid" "size" "I", .methodLink RX4 109 yX4_actAt, .instanceMethod yX4_actAt, .selects RX4 yX4_actAt yX4_actAt, .initialized RX4, .code yX4_actAt cX4_actAt 2 (some .int), .fieldLink RX4 28 "EyeBoard$Row" "acts" "[I"] ++ wsX40 ++ wsX20)
def wsX4_takenBy : List Cond := .code yX4_takenBy cX4_takenBy 3 (some .int) :: ([.constantLong RX4 60 (-1), .methodLink RX4 46 yX4_stonesThen, .instanceMethod yX4_stonesThen, .selects RX4 yX4_stonesThen yX4_stonesThen, .initialized RX4, .code yX4_stonesThen cX4_stonesThen 4 (some .long), .fieldLink RX4 21 "EyeBoard$Row" "black" "[J", .fieldLink RX4 25 "EyeBoard$Row" "white" "[J", .methodLink RX4 112 yJ13_bitCount_95d88, .static yJ13_bitCount_95d88, .initialized RJ13, .code yJ13_bitCount_95d88 cJ13_bitCount_95d88 2 (some .int), .constantLong RJ13 314 (6148914691236517205), .constantLong RJ13 316 (3689348814741910323), .constantLong RJ13 318 (1085102592571150095)] ++ wsX40)
def wsX4_taken : List Cond := .code yX4_taken cX4_taken 4 (some .int) :: ([.fieldLink RX4 36 "EyeBoard$Row" "latest" "I", .methodLink RX4 118 yX4_takenBy, .instanceMethod yX4_takenBy, .selects RX4 yX4_takenBy yX4_takenBy, .initialized RX4, .code yX4_takenBy cX4_takenBy 3 (some .int), .constantLong RX4 60 (-1), .methodLink RX4 46 yX4_stonesThen, .instanceMethod yX4_stonesThen, .selects RX4 yX4_stonesThen yX4_stonesThen, .code yX4_stonesThen cX4_stonesThen 4 (some .long), .fieldLink RX4 21 "EyeBoard$Row" "black" "[J", .fieldLink RX4 25 "EyeBoard$Row" "white" "[J", .methodLink RX4 112 yJ13_bitCount_95d88, .static yJ13_bitCount_95d88, .initialized RJ13, .code yJ13_bitCount_95d88 cJ13_bitCount_95d88 2 (some .int), .constantLong RJ13 314 (6148914691236517205), .constantLong RJ13 316 (3689348814741910323), .constantLong RJ13 318 (1085102592571150095)] ++ wsX40)
def wsX5_init : List Cond := .code yX5_init cX5_init 1 none :: ([.methodLink RX5 3 objectInit, .instanceMethod objectInit, .code objectInit ⟨#[0xb1]⟩ 1 none])
def wsX6_init_r1 : List Cond := [Cond.methodLink RX6 3 objectInit, Cond.instanceMethod objectInit, Cond.code objectInit ⟨#[0xb1]⟩ 1 none, Cond.classLink RX6 9 RX2, Cond.instantiable RX2 6, Cond.initialized RX2, Cond.fieldLink RX6 12 "EyeBoard" "grid" "LEyeBoard$Grid;", Cond.classLink RX6 20 RX4, Cond.instantiable RX4 9, Cond.initialized RX4, Cond.fieldLink RX6 25 "EyeBoard" "row" "LEyeBoard$Row;", Cond.classLink RX6 33 RX3, Cond.instantiable RX3 1, Cond.initialized RX3, Cond.fieldLink RX6 38 "EyeBoard" "life" "LEyeBoard$Life;", Cond.classLink RX6 42 RX5, Cond.instantiable RX5 1, Cond.initialized RX5, Cond.fieldLink RX6 45 "EyeBoard" "tried" "LEyeBoard$Tries;", Cond.classLink RX6 49 RX0, Cond.instantiable RX0 5, Cond.initialized RX0, Cond.fieldLink RX6 54 "EyeBoard" "hunt" "LEyeBoard$Chase;", Cond.classLink RX6 58 RX1]
def wsX6_init_r2 : List Cond := [Cond.instantiable RX1 6, Cond.initialized RX1, Cond.fieldLink RX6 61 "EyeBoard" "struggle" "LEyeBoard$Fight;", Cond.fieldLink RX6 65 "EyeBoard" "winningAct" "I", Cond.instanceMethod yX2_init, Cond.code yX2_init cX2_init 1 none, Cond.methodLink RX2 3 objectInit, Cond.methodLink RX6 16 yX2_measure, Cond.instanceMethod yX2_measure, Cond.selects RX2 yX2_measure yX2_measure, Cond.code yX2_measure cX2_measure 6 none, Cond.fieldLink RX2 9 "EyeBoard$Grid" "width" "I", Cond.fieldLink RX2 15 "EyeBoard$Grid" "height" "I", Cond.fieldLink RX2 18 "EyeBoard$Grid" "size" "I", Cond.fieldLink RX2 21 "EyeBoard$Grid" "all" "J", Cond.constantLong RX2 25 (-1), Cond.fieldLink RX2 27 "EyeBoard$Grid" "notFirstColumn" "J", Cond.fieldLink RX2 30 "EyeBoard$Grid" "notLastColumn" "J", Cond.methodLink RX6 22 yX4_init, Cond.instanceMethod yX4_init, Cond.code yX4_init cX4_init 4 none, Cond.methodLink RX4 3 objectInit, Cond.fieldLink RX4 9 "EyeBoard$Row" "grid" "LEyeBoard$Grid;", Cond.methodLink RX4 15 Lib.Math.max.name]
def wsX6_init_r3 : List Cond := [Cond.static Lib.Math.max.name, Cond.initialized "java/lang/Math", Cond.code Lib.Math.max.name Lib.Math.max.code 2 (some .int), Cond.arrayClass .long, Cond.fieldLink RX4 21 "EyeBoard$Row" "black" "[J", Cond.fieldLink RX4 25 "EyeBoard$Row" "white" "[J", Cond.arrayClass .int, Cond.fieldLink RX4 28 "EyeBoard$Row" "acts" "[I", Cond.methodLink RX6 29 yX4_begin, Cond.instanceMethod yX4_begin, Cond.selects RX4 yX4_begin yX4_begin, Cond.code yX4_begin cX4_begin 7 none, Cond.fieldLink RX4 32 "EyeBoard$Row" "law" "I", Cond.fieldLink RX4 36 "EyeBoard$Row" "latest" "I", Cond.fieldLink RX4 39 "EyeBoard$Row" "opener" "I", Cond.methodLink RX4 42 yX4_keep, Cond.instanceMethod yX4_keep, Cond.selects RX4 yX4_keep yX4_keep, Cond.code yX4_keep cX4_keep 6 none, Cond.methodLink RX6 35 yX3_init, Cond.instanceMethod yX3_init, Cond.code yX3_init cX3_init 2 none, Cond.methodLink RX3 3 objectInit, Cond.fieldLink RX3 9 "EyeBoard$Life" "grid" "LEyeBoard$Grid;"]
def wsX6_init_r4 : List Cond := [Cond.instanceMethod yX5_init, Cond.code yX5_init cX5_init 1 none, Cond.methodLink RX5 3 objectInit, Cond.methodLink RX6 51 yX0_init, Cond.instanceMethod yX0_init, Cond.code yX0_init cX0_init 4 none, Cond.methodLink RX0 3 objectInit, Cond.fieldLink RX0 9 "EyeBoard$Chase" "grid" "LEyeBoard$Grid;", Cond.fieldLink RX0 15 "EyeBoard$Chase" "row" "LEyeBoard$Row;", Cond.fieldLink RX0 19 "EyeBoard$Chase" "tried" "LEyeBoard$Tries;", Cond.methodLink RX6 60 yX1_init, Cond.instanceMethod yX1_init, Cond.code yX1_init cX1_init 4 none, Cond.methodLink RX1 3 objectInit, Cond.fieldLink RX1 9 "EyeBoard$Fight" "grid" "LEyeBoard$Grid;", Cond.fieldLink RX1 15 "EyeBoard$Fight" "row" "LEyeBoard$Row;", Cond.fieldLink RX1 19 "EyeBoard$Fight" "tried" "LEyeBoard$Tries;"]
def wsX6_init : List Cond := .code yX6_init cX6_init 1 none :: ((wsX6_init_r1 ++ (wsX6_init_r2 ++ (wsX6_init_r3 ++ wsX6_init_r4))) ++ wsX20 ++ wsX60 ++ wsX40 ++ wsX30 ++ wsX50 ++ wsX00 ++ wsX10)
def wsX6_isSide : List Cond := .code yX6_isSide cX6_isSide 1 (some .boolean) :: ([])
def wsX6_board_r1 : List Cond := [Cond.fieldLink RX6 25 "EyeBoard" "row" "LEyeBoard$Row;", Cond.fieldLink RX6 73 "EyeBoard$Row" "latest" "I", Cond.fieldLink RX6 12 "EyeBoard" "grid" "LEyeBoard$Grid;", Cond.methodLink RX6 69 yX6_isSide, Cond.static yX6_isSide, Cond.initialized RX6, Cond.code yX6_isSide cX6_isSide 1 (some .boolean), Cond.methodLink RX6 16 yX2_measure, Cond.instanceMethod yX2_measure, Cond.selects RX2 yX2_measure yX2_measure, Cond.initialized RX2, Cond.code yX2_measure cX2_measure 6 none, Cond.fieldLink RX2 9 "EyeBoard$Grid" "width" "I", Cond.fieldLink RX2 15 "EyeBoard$Grid" "height" "I", Cond.fieldLink RX2 18 "EyeBoard$Grid" "size" "I", Cond.fieldLink RX2 21 "EyeBoard$Grid" "all" "J", Cond.constantLong RX2 25 (-1), Cond.fieldLink RX2 27 "EyeBoard$Grid" "notFirstColumn" "J", Cond.fieldLink RX2 30 "EyeBoard$Grid" "notLastColumn" "J", Cond.methodLink RX6 29 yX4_begin, Cond.instanceMethod yX4_begin, Cond.selects RX4 yX4_begin yX4_begin, Cond.initialized RX4, Cond.code yX4_begin cX4_begin 7 none]
def wsX6_board_r2 : List Cond := [Cond.fieldLink RX4 32 "EyeBoard$Row" "law" "I", Cond.fieldLink RX4 36 "EyeBoard$Row" "latest" "I", Cond.fieldLink RX4 39 "EyeBoard$Row" "opener" "I", Cond.methodLink RX4 42 yX4_keep, Cond.instanceMethod yX4_keep, Cond.selects RX4 yX4_keep yX4_keep, Cond.code yX4_keep cX4_keep 6 none, Cond.fieldLink RX4 21 "EyeBoard$Row" "black" "[J", Cond.fieldLink RX4 25 "EyeBoard$Row" "white" "[J"]
def wsX6_board : List Cond := .code yX6_board cX6_board 5 (some .int) :: ((wsX6_board_r1 ++ wsX6_board_r2) ++ wsX60 ++ wsX40 ++ wsX20)
def wsX6_isColour : List Cond := .code yX6_isColour cX6_isColour 1 (some .boolean) :: ([])
def wsX6_set_r1 : List Cond := [Cond.fieldLink RX6 12 "EyeBoard" "grid" "LEyeBoard$Grid;", Cond.fieldLink RX6 25 "EyeBoard" "row" "LEyeBoard$Row;", Cond.constantLong RX6 86 (-1), Cond.fieldLink RX6 88 "EyeBoard$Grid" "all" "J", Cond.fieldLink RX6 73 "EyeBoard$Row" "latest" "I", Cond.fieldLink RX6 96 "EyeBoard$Row" "law" "I", Cond.methodLink RX6 76 yX2_has, Cond.instanceMethod yX2_has, Cond.selects RX2 yX2_has yX2_has, Cond.initialized RX2, Cond.code yX2_has cX2_has 2 (some .boolean), Cond.fieldLink RX2 18 "EyeBoard$Grid" "size" "I", Cond.methodLink RX6 79 yX6_isColour, Cond.static yX6_isColour, Cond.initialized RX6, Cond.code yX6_isColour cX6_isColour 1 (some .boolean), Cond.methodLink RX6 82 yX4_stonesOf, Cond.instanceMethod yX4_stonesOf, Cond.selects RX4 yX4_stonesOf yX4_stonesOf, Cond.initialized RX4, Cond.code yX4_stonesOf cX4_stonesOf 2 (some .long), Cond.fieldLink RX4 36 "EyeBoard$Row" "latest" "I", Cond.methodLink RX4 46 yX4_stonesThen, Cond.instanceMethod yX4_stonesThen]
def wsX6_set_r2 : List Cond := [Cond.selects RX4 yX4_stonesThen yX4_stonesThen, Cond.code yX4_stonesThen cX4_stonesThen 4 (some .long), Cond.fieldLink RX4 21 "EyeBoard$Row" "black" "[J", Cond.fieldLink RX4 25 "EyeBoard$Row" "white" "[J", Cond.methodLink RX6 92 yX2_allBreathe, Cond.instanceMethod yX2_allBreathe, Cond.selects RX2 yX2_allBreathe yX2_allBreathe, Cond.code yX2_allBreathe cX2_allBreathe 5 (some .boolean), Cond.methodLink RX2 33 yX2_beside, Cond.instanceMethod yX2_beside, Cond.selects RX2 yX2_beside yX2_beside, Cond.code yX2_beside cX2_beside 5 (some .long), Cond.fieldLink RX2 30 "EyeBoard$Grid" "notLastColumn" "J", Cond.fieldLink RX2 27 "EyeBoard$Grid" "notFirstColumn" "J", Cond.fieldLink RX2 9 "EyeBoard$Grid" "width" "I", Cond.fieldLink RX2 21 "EyeBoard$Grid" "all" "J", Cond.methodLink RX2 37 yX2_spread, Cond.instanceMethod yX2_spread, Cond.selects RX2 yX2_spread yX2_spread, Cond.code yX2_spread cX2_spread 10 (some .long), Cond.methodLink RX6 29 yX4_begin, Cond.instanceMethod yX4_begin, Cond.selects RX4 yX4_begin yX4_begin, Cond.code yX4_begin cX4_begin 7 none]
def wsX6_set_r3 : List Cond := [Cond.fieldLink RX4 32 "EyeBoard$Row" "law" "I", Cond.fieldLink RX4 39 "EyeBoard$Row" "opener" "I", Cond.methodLink RX4 42 yX4_keep, Cond.instanceMethod yX4_keep, Cond.selects RX4 yX4_keep yX4_keep, Cond.code yX4_keep cX4_keep 6 none]
def wsX6_set : List Cond := .code yX6_set cX6_set 12 (some .int) :: ((wsX6_set_r1 ++ (wsX6_set_r2 ++ wsX6_set_r3)) ++ wsX60 ++ wsX20 ++ wsX40)
def wsX6_lay_r1 : List Cond := [Cond.fieldLink RX6 12 "EyeBoard" "grid" "LEyeBoard$Grid;", Cond.fieldLink RX6 25 "EyeBoard" "row" "LEyeBoard$Row;", Cond.fieldLink RX6 73 "EyeBoard$Row" "latest" "I", Cond.methodLink RX6 76 yX2_has, Cond.instanceMethod yX2_has, Cond.selects RX2 yX2_has yX2_has, Cond.initialized RX2, Cond.code yX2_has cX2_has 2 (some .boolean), Cond.fieldLink RX2 18 "EyeBoard$Grid" "size" "I", Cond.methodLink RX6 99 yX4_reasonAgainst, Cond.instanceMethod yX4_reasonAgainst, Cond.selects RX4 yX4_reasonAgainst yX4_reasonAgainst, Cond.initialized RX4, Cond.code yX4_reasonAgainst cX4_reasonAgainst 11 (some .int), Cond.fieldLink RX4 9 "EyeBoard$Row" "grid" "LEyeBoard$Grid;", Cond.fieldLink RX4 54 "EyeBoard$Grid" "all" "J", Cond.constantLong RX4 60 (-1), Cond.fieldLink RX4 89 "EyeBoard$Row" "blackThen" "J", Cond.fieldLink RX4 92 "EyeBoard$Row" "whiteThen" "J", Cond.methodLink RX4 70 yX4_free, Cond.instanceMethod yX4_free, Cond.selects RX4 yX4_free yX4_free, Cond.code yX4_free cX4_free 1 (some .long), Cond.fieldLink RX4 36 "EyeBoard$Row" "latest" "I"]
def wsX6_lay_r2 : List Cond := [Cond.methodLink RX4 46 yX4_stonesThen, Cond.instanceMethod yX4_stonesThen, Cond.selects RX4 yX4_stonesThen yX4_stonesThen, Cond.code yX4_stonesThen cX4_stonesThen 4 (some .long), Cond.fieldLink RX4 21 "EyeBoard$Row" "black" "[J", Cond.fieldLink RX4 25 "EyeBoard$Row" "white" "[J", Cond.methodLink RX4 66 yX2_holds, Cond.static yX2_holds, Cond.code yX2_holds cX2_holds 3 (some .boolean), Cond.methodLink RX4 74 yX4_mover, Cond.instanceMethod yX4_mover, Cond.selects RX4 yX4_mover yX4_mover, Cond.code yX4_mover cX4_mover 1 (some .int), Cond.methodLink RX4 50 yX4_moverThen, Cond.instanceMethod yX4_moverThen, Cond.selects RX4 yX4_moverThen yX4_moverThen, Cond.code yX4_moverThen cX4_moverThen 2 (some .int), Cond.fieldLink RX4 39 "EyeBoard$Row" "opener" "I", Cond.methodLink RX4 62 yX4_stonesOf, Cond.instanceMethod yX4_stonesOf, Cond.selects RX4 yX4_stonesOf yX4_stonesOf, Cond.code yX4_stonesOf cX4_stonesOf 2 (some .long), Cond.static yX6_other, Cond.initialized RX6]
def wsX6_lay_r3 : List Cond := [Cond.code yX6_other cX6_other 1 (some .int), Cond.methodLink RX4 81 yX2_beside, Cond.instanceMethod yX2_beside, Cond.selects RX2 yX2_beside yX2_beside, Cond.code yX2_beside cX2_beside 5 (some .long), Cond.fieldLink RX2 30 "EyeBoard$Grid" "notLastColumn" "J", Cond.fieldLink RX2 27 "EyeBoard$Grid" "notFirstColumn" "J", Cond.fieldLink RX2 9 "EyeBoard$Grid" "width" "I", Cond.fieldLink RX2 21 "EyeBoard$Grid" "all" "J", Cond.methodLink RX4 85 yX2_spread, Cond.instanceMethod yX2_spread, Cond.selects RX2 yX2_spread yX2_spread, Cond.code yX2_spread cX2_spread 10 (some .long), Cond.methodLink RX2 33 yX2_beside, Cond.methodLink RX4 95 yX4_isRefusedByLaw, Cond.instanceMethod yX4_isRefusedByLaw, Cond.selects RX4 yX4_isRefusedByLaw yX4_isRefusedByLaw, Cond.code yX4_isRefusedByLaw cX4_isRefusedByLaw 4 (some .boolean), Cond.fieldLink RX4 32 "EyeBoard$Row" "law" "I", Cond.methodLink RX6 103 yX4_add, Cond.instanceMethod yX4_add, Cond.selects RX4 yX4_add yX4_add, Cond.code yX4_add cX4_add 2 (some .boolean), Cond.fieldLink RX4 28 "EyeBoard$Row" "acts" "[I"]
def wsX6_lay_r4 : List Cond := [Cond.fieldLink RX4 99 "EyeBoard$Grid" "size" "I", Cond.methodLink RX4 42 yX4_keep, Cond.instanceMethod yX4_keep, Cond.selects RX4 yX4_keep yX4_keep, Cond.code yX4_keep cX4_keep 6 none, Cond.methodLink RX4 102 yX2_has, Cond.methodLink RX4 106 yX4_reasonAgainst, Cond.methodLink RX6 106 yX4_mover, Cond.methodLink RX6 110 yX4_takenBy, Cond.instanceMethod yX4_takenBy, Cond.selects RX4 yX4_takenBy yX4_takenBy, Cond.code yX4_takenBy cX4_takenBy 3 (some .int), Cond.methodLink RX4 112 yJ13_bitCount_95d88, Cond.static yJ13_bitCount_95d88, Cond.initialized RJ13, Cond.code yJ13_bitCount_95d88 cJ13_bitCount_95d88 2 (some .int), Cond.constantLong RJ13 314 (6148914691236517205), Cond.constantLong RJ13 316 (3689348814741910323), Cond.constantLong RJ13 318 (1085102592571150095)]
def wsX6_lay : List Cond := .code yX6_lay cX6_lay 2 (some .int) :: ((wsX6_lay_r1 ++ (wsX6_lay_r2 ++ (wsX6_lay_r3 ++ wsX6_lay_r4))) ++ wsX60 ++ wsX40 ++ wsX20)
def wsX6_pass_r1 : List Cond := [Cond.fieldLink RX6 25 "EyeBoard" "row" "LEyeBoard$Row;", Cond.fieldLink RX6 73 "EyeBoard$Row" "latest" "I", Cond.fieldLink RX6 12 "EyeBoard" "grid" "LEyeBoard$Grid;", Cond.fieldLink RX6 114 "EyeBoard$Grid" "size" "I", Cond.methodLink RX6 103 yX4_add, Cond.instanceMethod yX4_add, Cond.selects RX4 yX4_add yX4_add, Cond.initialized RX4, Cond.code yX4_add cX4_add 2 (some .boolean), Cond.fieldLink RX4 36 "EyeBoard$Row" "latest" "I", Cond.fieldLink RX4 21 "EyeBoard$Row" "black" "[J", Cond.fieldLink RX4 28 "EyeBoard$Row" "acts" "[I", Cond.fieldLink RX4 9 "EyeBoard$Row" "grid" "LEyeBoard$Grid;", Cond.fieldLink RX4 99 "EyeBoard$Grid" "size" "I", Cond.fieldLink RX4 89 "EyeBoard$Row" "blackThen" "J", Cond.fieldLink RX4 92 "EyeBoard$Row" "whiteThen" "J", Cond.methodLink RX4 62 yX4_stonesOf, Cond.instanceMethod yX4_stonesOf, Cond.selects RX4 yX4_stonesOf yX4_stonesOf, Cond.code yX4_stonesOf cX4_stonesOf 2 (some .long), Cond.methodLink RX4 46 yX4_stonesThen, Cond.instanceMethod yX4_stonesThen, Cond.selects RX4 yX4_stonesThen yX4_stonesThen, Cond.code yX4_stonesThen cX4_stonesThen 4 (some .long)]
def wsX6_pass_r2 : List Cond := [Cond.fieldLink RX4 25 "EyeBoard$Row" "white" "[J", Cond.methodLink RX4 42 yX4_keep, Cond.instanceMethod yX4_keep, Cond.selects RX4 yX4_keep yX4_keep, Cond.code yX4_keep cX4_keep 6 none, Cond.methodLink RX4 102 yX2_has, Cond.instanceMethod yX2_has, Cond.selects RX2 yX2_has yX2_has, Cond.initialized RX2, Cond.code yX2_has cX2_has 2 (some .boolean), Cond.fieldLink RX2 18 "EyeBoard$Grid" "size" "I", Cond.methodLink RX4 106 yX4_reasonAgainst, Cond.instanceMethod yX4_reasonAgainst, Cond.selects RX4 yX4_reasonAgainst yX4_reasonAgainst, Cond.code yX4_reasonAgainst cX4_reasonAgainst 11 (some .int), Cond.fieldLink RX4 54 "EyeBoard$Grid" "all" "J", Cond.constantLong RX4 60 (-1), Cond.methodLink RX4 70 yX4_free, Cond.instanceMethod yX4_free, Cond.selects RX4 yX4_free yX4_free, Cond.code yX4_free cX4_free 1 (some .long), Cond.methodLink RX4 66 yX2_holds, Cond.static yX2_holds, Cond.code yX2_holds cX2_holds 3 (some .boolean)]
def wsX6_pass_r3 : List Cond := [Cond.methodLink RX4 74 yX4_mover, Cond.instanceMethod yX4_mover, Cond.selects RX4 yX4_mover yX4_mover, Cond.code yX4_mover cX4_mover 1 (some .int), Cond.methodLink RX4 50 yX4_moverThen, Cond.instanceMethod yX4_moverThen, Cond.selects RX4 yX4_moverThen yX4_moverThen, Cond.code yX4_moverThen cX4_moverThen 2 (some .int), Cond.fieldLink RX4 39 "EyeBoard$Row" "opener" "I", Cond.static yX6_other, Cond.initialized RX6, Cond.code yX6_other cX6_other 1 (some .int), Cond.methodLink RX4 81 yX2_beside, Cond.instanceMethod yX2_beside, Cond.selects RX2 yX2_beside yX2_beside, Cond.code yX2_beside cX2_beside 5 (some .long), Cond.fieldLink RX2 30 "EyeBoard$Grid" "notLastColumn" "J", Cond.fieldLink RX2 27 "EyeBoard$Grid" "notFirstColumn" "J", Cond.fieldLink RX2 9 "EyeBoard$Grid" "width" "I", Cond.fieldLink RX2 21 "EyeBoard$Grid" "all" "J", Cond.methodLink RX4 85 yX2_spread, Cond.instanceMethod yX2_spread, Cond.selects RX2 yX2_spread yX2_spread, Cond.code yX2_spread cX2_spread 10 (some .long)]
def wsX6_pass_r4 : List Cond := [Cond.methodLink RX2 33 yX2_beside, Cond.methodLink RX4 95 yX4_isRefusedByLaw, Cond.instanceMethod yX4_isRefusedByLaw, Cond.selects RX4 yX4_isRefusedByLaw yX4_isRefusedByLaw, Cond.code yX4_isRefusedByLaw cX4_isRefusedByLaw 4 (some .boolean), Cond.fieldLink RX4 32 "EyeBoard$Row" "law" "I", Cond.methodLink RX6 117 yX4_passesNow, Cond.instanceMethod yX4_passesNow, Cond.selects RX4 yX4_passesNow yX4_passesNow, Cond.code yX4_passesNow cX4_passesNow 3 (some .int), Cond.methodLink RX4 109 yX4_actAt, Cond.instanceMethod yX4_actAt, Cond.selects RX4 yX4_actAt yX4_actAt, Cond.code yX4_actAt cX4_actAt 2 (some .int)]
def wsX6_pass : List Cond := .code yX6_pass cX6_pass 1 (some .int) :: ((wsX6_pass_r1 ++ (wsX6_pass_r2 ++ (wsX6_pass_r3 ++ wsX6_pass_r4))) ++ wsX60 ++ wsX40 ++ wsX20)
def wsX6_why_r1 : List Cond := [Cond.fieldLink RX6 12 "EyeBoard" "grid" "LEyeBoard$Grid;", Cond.fieldLink RX6 25 "EyeBoard" "row" "LEyeBoard$Row;", Cond.methodLink RX6 76 yX2_has, Cond.instanceMethod yX2_has, Cond.selects RX2 yX2_has yX2_has, Cond.initialized RX2, Cond.code yX2_has cX2_has 2 (some .boolean), Cond.fieldLink RX2 18 "EyeBoard$Grid" "size" "I", Cond.methodLink RX6 99 yX4_reasonAgainst, Cond.instanceMethod yX4_reasonAgainst, Cond.selects RX4 yX4_reasonAgainst yX4_reasonAgainst, Cond.initialized RX4, Cond.code yX4_reasonAgainst cX4_reasonAgainst 11 (some .int), Cond.fieldLink RX4 9 "EyeBoard$Row" "grid" "LEyeBoard$Grid;", Cond.fieldLink RX4 54 "EyeBoard$Grid" "all" "J", Cond.constantLong RX4 60 (-1), Cond.fieldLink RX4 89 "EyeBoard$Row" "blackThen" "J", Cond.fieldLink RX4 92 "EyeBoard$Row" "whiteThen" "J", Cond.methodLink RX4 70 yX4_free, Cond.instanceMethod yX4_free, Cond.selects RX4 yX4_free yX4_free, Cond.code yX4_free cX4_free 1 (some .long), Cond.fieldLink RX4 36 "EyeBoard$Row" "latest" "I", Cond.methodLink RX4 46 yX4_stonesThen]
def wsX6_why_r2 : List Cond := [Cond.instanceMethod yX4_stonesThen, Cond.selects RX4 yX4_stonesThen yX4_stonesThen, Cond.code yX4_stonesThen cX4_stonesThen 4 (some .long), Cond.fieldLink RX4 21 "EyeBoard$Row" "black" "[J", Cond.fieldLink RX4 25 "EyeBoard$Row" "white" "[J", Cond.methodLink RX4 66 yX2_holds, Cond.static yX2_holds, Cond.code yX2_holds cX2_holds 3 (some .boolean), Cond.methodLink RX4 74 yX4_mover, Cond.instanceMethod yX4_mover, Cond.selects RX4 yX4_mover yX4_mover, Cond.code yX4_mover cX4_mover 1 (some .int), Cond.methodLink RX4 50 yX4_moverThen, Cond.instanceMethod yX4_moverThen, Cond.selects RX4 yX4_moverThen yX4_moverThen, Cond.code yX4_moverThen cX4_moverThen 2 (some .int), Cond.fieldLink RX4 39 "EyeBoard$Row" "opener" "I", Cond.methodLink RX4 62 yX4_stonesOf, Cond.instanceMethod yX4_stonesOf, Cond.selects RX4 yX4_stonesOf yX4_stonesOf, Cond.code yX4_stonesOf cX4_stonesOf 2 (some .long), Cond.static yX6_other, Cond.initialized RX6, Cond.code yX6_other cX6_other 1 (some .int)]
def wsX6_why_r3 : List Cond := [Cond.methodLink RX4 81 yX2_beside, Cond.instanceMethod yX2_beside, Cond.selects RX2 yX2_beside yX2_beside, Cond.code yX2_beside cX2_beside 5 (some .long), Cond.fieldLink RX2 30 "EyeBoard$Grid" "notLastColumn" "J", Cond.fieldLink RX2 27 "EyeBoard$Grid" "notFirstColumn" "J", Cond.fieldLink RX2 9 "EyeBoard$Grid" "width" "I", Cond.fieldLink RX2 21 "EyeBoard$Grid" "all" "J", Cond.methodLink RX4 85 yX2_spread, Cond.instanceMethod yX2_spread, Cond.selects RX2 yX2_spread yX2_spread, Cond.code yX2_spread cX2_spread 10 (some .long), Cond.methodLink RX2 33 yX2_beside, Cond.methodLink RX4 95 yX4_isRefusedByLaw, Cond.instanceMethod yX4_isRefusedByLaw, Cond.selects RX4 yX4_isRefusedByLaw yX4_isRefusedByLaw, Cond.code yX4_isRefusedByLaw cX4_isRefusedByLaw 4 (some .boolean), Cond.fieldLink RX4 32 "EyeBoard$Row" "law" "I"]
def wsX6_why : List Cond := .code yX6_why cX6_why 2 (some .int) :: ((wsX6_why_r1 ++ (wsX6_why_r2 ++ wsX6_why_r3)) ++ wsX60 ++ wsX20 ++ wsX40)
def wsX6_undo : List Cond := .code yX6_undo cX6_undo 1 (some .int) :: ([.fieldLink RX6 25 "EyeBoard" "row" "LEyeBoard$Row;", .fieldLink RX6 73 "EyeBoard$Row" "latest" "I", .methodLink RX6 120 yX4_takeBack, .instanceMethod yX4_takeBack, .selects RX4 yX4_takeBack yX4_takeBack, .initialized RX4, .code yX4_takeBack cX4_takeBack 1 none, .fieldLink RX4 36 "EyeBoard$Row" "latest" "I", .methodLink RX4 15 Lib.Math.max.name, .static Lib.Math.max.name, .initialized "java/lang/Math", .code Lib.Math.max.name Lib.Math.max.code 2 (some .int)] ++ wsX60 ++ wsX40)
def wsX6_at_r1 : List Cond := [Cond.fieldLink RX6 12 "EyeBoard" "grid" "LEyeBoard$Grid;", Cond.fieldLink RX6 25 "EyeBoard" "row" "LEyeBoard$Row;", Cond.methodLink RX6 76 yX2_has, Cond.instanceMethod yX2_has, Cond.selects RX2 yX2_has yX2_has, Cond.initialized RX2, Cond.code yX2_has cX2_has 2 (some .boolean), Cond.fieldLink RX2 18 "EyeBoard$Grid" "size" "I", Cond.methodLink RX6 123 yX4_colourAt, Cond.instanceMethod yX4_colourAt, Cond.selects RX4 yX4_colourAt yX4_colourAt, Cond.initialized RX4, Cond.code yX4_colourAt cX4_colourAt 2 (some .int), Cond.methodLink RX4 62 yX4_stonesOf, Cond.instanceMethod yX4_stonesOf, Cond.selects RX4 yX4_stonesOf yX4_stonesOf, Cond.code yX4_stonesOf cX4_stonesOf 2 (some .long), Cond.fieldLink RX4 36 "EyeBoard$Row" "latest" "I", Cond.methodLink RX4 46 yX4_stonesThen, Cond.instanceMethod yX4_stonesThen, Cond.selects RX4 yX4_stonesThen yX4_stonesThen, Cond.code yX4_stonesThen cX4_stonesThen 4 (some .long), Cond.fieldLink RX4 21 "EyeBoard$Row" "black" "[J", Cond.fieldLink RX4 25 "EyeBoard$Row" "white" "[J"]
def wsX6_at_r2 : List Cond := [Cond.methodLink RX4 66 yX2_holds, Cond.static yX2_holds, Cond.code yX2_holds cX2_holds 3 (some .boolean)]
def wsX6_at : List Cond := .code yX6_at cX6_at 2 (some .int) :: ((wsX6_at_r1 ++ wsX6_at_r2) ++ wsX60 ++ wsX20 ++ wsX40)
def wsX6_group_r1 : List Cond := [Cond.fieldLink RX6 12 "EyeBoard" "grid" "LEyeBoard$Grid;", Cond.fieldLink RX6 25 "EyeBoard" "row" "LEyeBoard$Row;", Cond.fieldLink RX6 38 "EyeBoard" "life" "LEyeBoard$Life;", Cond.fieldLink RX6 88 "EyeBoard$Grid" "all" "J", Cond.constantLong RX6 86 (-1), Cond.methodLink RX6 76 yX2_has, Cond.instanceMethod yX2_has, Cond.selects RX2 yX2_has yX2_has, Cond.initialized RX2, Cond.code yX2_has cX2_has 2 (some .boolean), Cond.fieldLink RX2 18 "EyeBoard$Grid" "size" "I", Cond.methodLink RX6 123 yX4_colourAt, Cond.instanceMethod yX4_colourAt, Cond.selects RX4 yX4_colourAt yX4_colourAt, Cond.initialized RX4, Cond.code yX4_colourAt cX4_colourAt 2 (some .int), Cond.methodLink RX4 62 yX4_stonesOf, Cond.instanceMethod yX4_stonesOf, Cond.selects RX4 yX4_stonesOf yX4_stonesOf, Cond.code yX4_stonesOf cX4_stonesOf 2 (some .long), Cond.fieldLink RX4 36 "EyeBoard$Row" "latest" "I", Cond.methodLink RX4 46 yX4_stonesThen, Cond.instanceMethod yX4_stonesThen, Cond.selects RX4 yX4_stonesThen yX4_stonesThen]
def wsX6_group_r2 : List Cond := [Cond.code yX4_stonesThen cX4_stonesThen 4 (some .long), Cond.fieldLink RX4 21 "EyeBoard$Row" "black" "[J", Cond.fieldLink RX4 25 "EyeBoard$Row" "white" "[J", Cond.methodLink RX4 66 yX2_holds, Cond.static yX2_holds, Cond.code yX2_holds cX2_holds 3 (some .boolean), Cond.methodLink RX6 82 yX4_stonesOf, Cond.methodLink RX6 126 yX2_spread, Cond.instanceMethod yX2_spread, Cond.selects RX2 yX2_spread yX2_spread, Cond.code yX2_spread cX2_spread 10 (some .long), Cond.methodLink RX2 33 yX2_beside, Cond.instanceMethod yX2_beside, Cond.selects RX2 yX2_beside yX2_beside, Cond.code yX2_beside cX2_beside 5 (some .long), Cond.fieldLink RX2 30 "EyeBoard$Grid" "notLastColumn" "J", Cond.fieldLink RX2 27 "EyeBoard$Grid" "notFirstColumn" "J", Cond.fieldLink RX2 9 "EyeBoard$Grid" "width" "I", Cond.fieldLink RX2 21 "EyeBoard$Grid" "all" "J", Cond.methodLink RX6 130 yJ13_bitCount_95d88, Cond.static yJ13_bitCount_95d88, Cond.initialized RJ13, Cond.code yJ13_bitCount_95d88 cJ13_bitCount_95d88 2 (some .int), Cond.constantLong RJ13 314 (6148914691236517205)]
def wsX6_group_r3 : List Cond := [Cond.constantLong RJ13 316 (3689348814741910323), Cond.constantLong RJ13 318 (1085102592571150095), Cond.methodLink RX6 136 yX2_beside, Cond.methodLink RX6 140 yX4_free, Cond.instanceMethod yX4_free, Cond.selects RX4 yX4_free yX4_free, Cond.code yX4_free cX4_free 1 (some .long), Cond.fieldLink RX4 9 "EyeBoard$Row" "grid" "LEyeBoard$Grid;", Cond.fieldLink RX4 54 "EyeBoard$Grid" "all" "J", Cond.constantLong RX4 60 (-1), Cond.methodLink RX6 144 yX2_nth, Cond.instanceMethod yX2_nth, Cond.selects RX2 yX2_nth yX2_nth, Cond.code yX2_nth cX2_nth 6 (some .int), Cond.methodLink RX2 41 yX2_holds, Cond.methodLink RX6 148 yX3_vitalRegions, Cond.instanceMethod yX3_vitalRegions, Cond.selects RX3 yX3_vitalRegions yX3_vitalRegions, Cond.initialized RX3, Cond.code yX3_vitalRegions cX3_vitalRegions 9 (some .int), Cond.fieldLink RX3 9 "EyeBoard$Life" "grid" "LEyeBoard$Grid;", Cond.fieldLink RX3 23 "EyeBoard$Grid" "size" "I", Cond.methodLink RX3 27 yX2_partFrom, Cond.instanceMethod yX2_partFrom]
def wsX6_group_r4 : List Cond := [Cond.selects RX2 yX2_partFrom yX2_partFrom, Cond.code yX2_partFrom cX2_partFrom 10 (some .long), Cond.methodLink RX2 37 yX2_spread, Cond.methodLink RX3 31 yX3_isVital, Cond.instanceMethod yX3_isVital, Cond.selects RX3 yX3_isVital yX3_isVital, Cond.code yX3_isVital cX3_isVital 9 (some .boolean), Cond.constantLong RX3 21 (-1), Cond.methodLink RX3 15 yX2_beside, Cond.methodLink RX6 152 yX3_standingStones, Cond.instanceMethod yX3_standingStones, Cond.selects RX3 yX3_standingStones yX3_standingStones, Cond.code yX3_standingStones cX3_standingStones 12 (some .long), Cond.fieldLink RX3 35 "EyeBoard$Grid" "all" "J", Cond.methodLink RX3 39 yX3_groupsWithoutTwo, Cond.instanceMethod yX3_groupsWithoutTwo, Cond.selects RX3 yX3_groupsWithoutTwo yX3_groupsWithoutTwo, Cond.code yX3_groupsWithoutTwo cX3_groupsWithoutTwo 12 (some .long), Cond.methodLink RX3 47 yX3_vitalRegions, Cond.methodLink RX3 43 yX2_spread]
def wsX6_group : List Cond := .code yX6_group cX6_group 8 (some .int) :: ((wsX6_group_r1 ++ (wsX6_group_r2 ++ (wsX6_group_r3 ++ wsX6_group_r4))) ++ wsX60 ++ wsX20 ++ wsX40 ++ wsX30)
def wsX6_breath_r1 : List Cond := [Cond.fieldLink RX6 12 "EyeBoard" "grid" "LEyeBoard$Grid;", Cond.fieldLink RX6 25 "EyeBoard" "row" "LEyeBoard$Row;", Cond.methodLink RX6 76 yX2_has, Cond.instanceMethod yX2_has, Cond.selects RX2 yX2_has yX2_has, Cond.initialized RX2, Cond.code yX2_has cX2_has 2 (some .boolean), Cond.fieldLink RX2 18 "EyeBoard$Grid" "size" "I", Cond.methodLink RX6 123 yX4_colourAt, Cond.instanceMethod yX4_colourAt, Cond.selects RX4 yX4_colourAt yX4_colourAt, Cond.initialized RX4, Cond.code yX4_colourAt cX4_colourAt 2 (some .int), Cond.methodLink RX4 62 yX4_stonesOf, Cond.instanceMethod yX4_stonesOf, Cond.selects RX4 yX4_stonesOf yX4_stonesOf, Cond.code yX4_stonesOf cX4_stonesOf 2 (some .long), Cond.fieldLink RX4 36 "EyeBoard$Row" "latest" "I", Cond.methodLink RX4 46 yX4_stonesThen, Cond.instanceMethod yX4_stonesThen, Cond.selects RX4 yX4_stonesThen yX4_stonesThen, Cond.code yX4_stonesThen cX4_stonesThen 4 (some .long), Cond.fieldLink RX4 21 "EyeBoard$Row" "black" "[J", Cond.fieldLink RX4 25 "EyeBoard$Row" "white" "[J"]
def wsX6_breath_r2 : List Cond := [Cond.methodLink RX4 66 yX2_holds, Cond.static yX2_holds, Cond.code yX2_holds cX2_holds 3 (some .boolean), Cond.methodLink RX6 82 yX4_stonesOf, Cond.methodLink RX6 126 yX2_spread, Cond.instanceMethod yX2_spread, Cond.selects RX2 yX2_spread yX2_spread, Cond.code yX2_spread cX2_spread 10 (some .long), Cond.methodLink RX2 33 yX2_beside, Cond.instanceMethod yX2_beside, Cond.selects RX2 yX2_beside yX2_beside, Cond.code yX2_beside cX2_beside 5 (some .long), Cond.fieldLink RX2 30 "EyeBoard$Grid" "notLastColumn" "J", Cond.fieldLink RX2 27 "EyeBoard$Grid" "notFirstColumn" "J", Cond.fieldLink RX2 9 "EyeBoard$Grid" "width" "I", Cond.fieldLink RX2 21 "EyeBoard$Grid" "all" "J", Cond.methodLink RX6 136 yX2_beside, Cond.methodLink RX6 140 yX4_free, Cond.instanceMethod yX4_free, Cond.selects RX4 yX4_free yX4_free, Cond.code yX4_free cX4_free 1 (some .long), Cond.fieldLink RX4 9 "EyeBoard$Row" "grid" "LEyeBoard$Grid;", Cond.fieldLink RX4 54 "EyeBoard$Grid" "all" "J", Cond.constantLong RX4 60 (-1)]
def wsX6_breath_r3 : List Cond := [Cond.methodLink RX6 144 yX2_nth, Cond.instanceMethod yX2_nth, Cond.selects RX2 yX2_nth yX2_nth, Cond.code yX2_nth cX2_nth 6 (some .int), Cond.methodLink RX2 41 yX2_holds]
def wsX6_breath : List Cond := .code yX6_breath cX6_breath 6 (some .int) :: ((wsX6_breath_r1 ++ (wsX6_breath_r2 ++ wsX6_breath_r3)) ++ wsX60 ++ wsX20 ++ wsX40)
def wsX6_region_r1 : List Cond := [Cond.fieldLink RX6 12 "EyeBoard" "grid" "LEyeBoard$Grid;", Cond.fieldLink RX6 25 "EyeBoard" "row" "LEyeBoard$Row;", Cond.fieldLink RX6 88 "EyeBoard$Grid" "all" "J", Cond.constantLong RX6 86 (-1), Cond.fieldLink RX6 38 "EyeBoard" "life" "LEyeBoard$Life;", Cond.methodLink RX6 79 yX6_isColour, Cond.static yX6_isColour, Cond.initialized RX6, Cond.code yX6_isColour cX6_isColour 1 (some .boolean), Cond.methodLink RX6 76 yX2_has, Cond.instanceMethod yX2_has, Cond.selects RX2 yX2_has yX2_has, Cond.initialized RX2, Cond.code yX2_has cX2_has 2 (some .boolean), Cond.fieldLink RX2 18 "EyeBoard$Grid" "size" "I", Cond.methodLink RX6 123 yX4_colourAt, Cond.instanceMethod yX4_colourAt, Cond.selects RX4 yX4_colourAt yX4_colourAt, Cond.initialized RX4, Cond.code yX4_colourAt cX4_colourAt 2 (some .int), Cond.methodLink RX4 62 yX4_stonesOf, Cond.instanceMethod yX4_stonesOf, Cond.selects RX4 yX4_stonesOf yX4_stonesOf, Cond.code yX4_stonesOf cX4_stonesOf 2 (some .long)]
def wsX6_region_r2 : List Cond := [Cond.fieldLink RX4 36 "EyeBoard$Row" "latest" "I", Cond.methodLink RX4 46 yX4_stonesThen, Cond.instanceMethod yX4_stonesThen, Cond.selects RX4 yX4_stonesThen yX4_stonesThen, Cond.code yX4_stonesThen cX4_stonesThen 4 (some .long), Cond.fieldLink RX4 21 "EyeBoard$Row" "black" "[J", Cond.fieldLink RX4 25 "EyeBoard$Row" "white" "[J", Cond.methodLink RX4 66 yX2_holds, Cond.static yX2_holds, Cond.code yX2_holds cX2_holds 3 (some .boolean), Cond.methodLink RX6 82 yX4_stonesOf, Cond.methodLink RX6 126 yX2_spread, Cond.instanceMethod yX2_spread, Cond.selects RX2 yX2_spread yX2_spread, Cond.code yX2_spread cX2_spread 10 (some .long), Cond.methodLink RX2 33 yX2_beside, Cond.instanceMethod yX2_beside, Cond.selects RX2 yX2_beside yX2_beside, Cond.code yX2_beside cX2_beside 5 (some .long), Cond.fieldLink RX2 30 "EyeBoard$Grid" "notLastColumn" "J", Cond.fieldLink RX2 27 "EyeBoard$Grid" "notFirstColumn" "J", Cond.fieldLink RX2 9 "EyeBoard$Grid" "width" "I", Cond.fieldLink RX2 21 "EyeBoard$Grid" "all" "J", Cond.methodLink RX6 130 yJ13_bitCount_95d88]
def wsX6_region_r3 : List Cond := [Cond.static yJ13_bitCount_95d88, Cond.initialized RJ13, Cond.code yJ13_bitCount_95d88 cJ13_bitCount_95d88 2 (some .int), Cond.constantLong RJ13 314 (6148914691236517205), Cond.constantLong RJ13 316 (3689348814741910323), Cond.constantLong RJ13 318 (1085102592571150095), Cond.methodLink RX6 140 yX4_free, Cond.instanceMethod yX4_free, Cond.selects RX4 yX4_free yX4_free, Cond.code yX4_free cX4_free 1 (some .long), Cond.fieldLink RX4 9 "EyeBoard$Row" "grid" "LEyeBoard$Grid;", Cond.fieldLink RX4 54 "EyeBoard$Grid" "all" "J", Cond.constantLong RX4 60 (-1), Cond.methodLink RX6 155 yX3_groupsTouched, Cond.instanceMethod yX3_groupsTouched, Cond.selects RX3 yX3_groupsTouched yX3_groupsTouched, Cond.initialized RX3, Cond.code yX3_groupsTouched cX3_groupsTouched 9 (some .int), Cond.fieldLink RX3 9 "EyeBoard$Life" "grid" "LEyeBoard$Grid;", Cond.fieldLink RX3 23 "EyeBoard$Grid" "size" "I", Cond.methodLink RX3 15 yX2_beside, Cond.methodLink RX3 27 yX2_partFrom, Cond.instanceMethod yX2_partFrom, Cond.selects RX2 yX2_partFrom yX2_partFrom]
def wsX6_region_r4 : List Cond := [Cond.code yX2_partFrom cX2_partFrom 10 (some .long), Cond.methodLink RX2 37 yX2_spread, Cond.methodLink RX6 159 yX3_groupsItIsVitalTo, Cond.instanceMethod yX3_groupsItIsVitalTo, Cond.selects RX3 yX3_groupsItIsVitalTo yX3_groupsItIsVitalTo, Cond.code yX3_groupsItIsVitalTo cX3_groupsItIsVitalTo 9 (some .int), Cond.methodLink RX3 31 yX3_isVital, Cond.instanceMethod yX3_isVital, Cond.selects RX3 yX3_isVital yX3_isVital, Cond.code yX3_isVital cX3_isVital 9 (some .boolean), Cond.constantLong RX3 21 (-1), Cond.methodLink RX6 144 yX2_nth, Cond.instanceMethod yX2_nth, Cond.selects RX2 yX2_nth yX2_nth, Cond.code yX2_nth cX2_nth 6 (some .int), Cond.methodLink RX2 41 yX2_holds]
def wsX6_region : List Cond := .code yX6_region cX6_region 8 (some .int) :: ((wsX6_region_r1 ++ (wsX6_region_r2 ++ (wsX6_region_r3 ++ wsX6_region_r4))) ++ wsX60 ++ wsX20 ++ wsX40 ++ wsX30)
def wsX6_standing_r1 : List Cond := [Cond.fieldLink RX6 38 "EyeBoard" "life" "LEyeBoard$Life;", Cond.fieldLink RX6 25 "EyeBoard" "row" "LEyeBoard$Row;", Cond.methodLink RX6 79 yX6_isColour, Cond.static yX6_isColour, Cond.initialized RX6, Cond.code yX6_isColour cX6_isColour 1 (some .boolean), Cond.methodLink RX6 82 yX4_stonesOf, Cond.instanceMethod yX4_stonesOf, Cond.selects RX4 yX4_stonesOf yX4_stonesOf, Cond.initialized RX4, Cond.code yX4_stonesOf cX4_stonesOf 2 (some .long), Cond.fieldLink RX4 36 "EyeBoard$Row" "latest" "I", Cond.methodLink RX4 46 yX4_stonesThen, Cond.instanceMethod yX4_stonesThen, Cond.selects RX4 yX4_stonesThen yX4_stonesThen, Cond.code yX4_stonesThen cX4_stonesThen 4 (some .long), Cond.fieldLink RX4 21 "EyeBoard$Row" "black" "[J", Cond.fieldLink RX4 25 "EyeBoard$Row" "white" "[J", Cond.methodLink RX6 140 yX4_free, Cond.instanceMethod yX4_free, Cond.selects RX4 yX4_free yX4_free, Cond.code yX4_free cX4_free 1 (some .long), Cond.fieldLink RX4 9 "EyeBoard$Row" "grid" "LEyeBoard$Grid;", Cond.fieldLink RX4 54 "EyeBoard$Grid" "all" "J"]
def wsX6_standing_r2 : List Cond := [Cond.constantLong RX4 60 (-1), Cond.methodLink RX6 152 yX3_standingStones, Cond.instanceMethod yX3_standingStones, Cond.selects RX3 yX3_standingStones yX3_standingStones, Cond.initialized RX3, Cond.code yX3_standingStones cX3_standingStones 12 (some .long), Cond.fieldLink RX3 9 "EyeBoard$Life" "grid" "LEyeBoard$Grid;", Cond.fieldLink RX3 35 "EyeBoard$Grid" "all" "J", Cond.constantLong RX3 21 (-1), Cond.methodLink RX3 39 yX3_groupsWithoutTwo, Cond.instanceMethod yX3_groupsWithoutTwo, Cond.selects RX3 yX3_groupsWithoutTwo yX3_groupsWithoutTwo, Cond.code yX3_groupsWithoutTwo cX3_groupsWithoutTwo 12 (some .long), Cond.fieldLink RX3 23 "EyeBoard$Grid" "size" "I", Cond.methodLink RX3 27 yX2_partFrom, Cond.instanceMethod yX2_partFrom, Cond.selects RX2 yX2_partFrom yX2_partFrom, Cond.initialized RX2, Cond.code yX2_partFrom cX2_partFrom 10 (some .long), Cond.methodLink RX2 33 yX2_beside, Cond.instanceMethod yX2_beside, Cond.selects RX2 yX2_beside yX2_beside, Cond.code yX2_beside cX2_beside 5 (some .long), Cond.fieldLink RX2 30 "EyeBoard$Grid" "notLastColumn" "J"]
def wsX6_standing_r3 : List Cond := [Cond.fieldLink RX2 27 "EyeBoard$Grid" "notFirstColumn" "J", Cond.fieldLink RX2 9 "EyeBoard$Grid" "width" "I", Cond.fieldLink RX2 21 "EyeBoard$Grid" "all" "J", Cond.methodLink RX2 37 yX2_spread, Cond.instanceMethod yX2_spread, Cond.selects RX2 yX2_spread yX2_spread, Cond.code yX2_spread cX2_spread 10 (some .long), Cond.methodLink RX3 47 yX3_vitalRegions, Cond.instanceMethod yX3_vitalRegions, Cond.selects RX3 yX3_vitalRegions yX3_vitalRegions, Cond.code yX3_vitalRegions cX3_vitalRegions 9 (some .int), Cond.methodLink RX3 31 yX3_isVital, Cond.instanceMethod yX3_isVital, Cond.selects RX3 yX3_isVital yX3_isVital, Cond.code yX3_isVital cX3_isVital 9 (some .boolean), Cond.methodLink RX3 15 yX2_beside, Cond.methodLink RX3 43 yX2_spread, Cond.methodLink RX6 130 yJ13_bitCount_95d88, Cond.static yJ13_bitCount_95d88, Cond.initialized RJ13, Cond.code yJ13_bitCount_95d88 cJ13_bitCount_95d88 2 (some .int), Cond.constantLong RJ13 314 (6148914691236517205), Cond.constantLong RJ13 316 (3689348814741910323), Cond.constantLong RJ13 318 (1085102592571150095)]
def wsX6_standing : List Cond := .code yX6_standing cX6_standing 2 (some .int) :: ((wsX6_standing_r1 ++ (wsX6_standing_r2 ++ wsX6_standing_r3)) ++ wsX60 ++ wsX40 ++ wsX20 ++ wsX30)
def wsX6_chase_r1 : List Cond := [Cond.fieldLink RX6 12 "EyeBoard" "grid" "LEyeBoard$Grid;", Cond.fieldLink RX6 25 "EyeBoard" "row" "LEyeBoard$Row;", Cond.fieldLink RX6 54 "EyeBoard" "hunt" "LEyeBoard$Chase;", Cond.methodLink RX6 76 yX2_has, Cond.instanceMethod yX2_has, Cond.selects RX2 yX2_has yX2_has, Cond.initialized RX2, Cond.code yX2_has cX2_has 2 (some .boolean), Cond.fieldLink RX2 18 "EyeBoard$Grid" "size" "I", Cond.methodLink RX6 123 yX4_colourAt, Cond.instanceMethod yX4_colourAt, Cond.selects RX4 yX4_colourAt yX4_colourAt, Cond.initialized RX4, Cond.code yX4_colourAt cX4_colourAt 2 (some .int), Cond.methodLink RX4 62 yX4_stonesOf, Cond.instanceMethod yX4_stonesOf, Cond.selects RX4 yX4_stonesOf yX4_stonesOf, Cond.code yX4_stonesOf cX4_stonesOf 2 (some .long), Cond.fieldLink RX4 36 "EyeBoard$Row" "latest" "I", Cond.methodLink RX4 46 yX4_stonesThen, Cond.instanceMethod yX4_stonesThen, Cond.selects RX4 yX4_stonesThen yX4_stonesThen, Cond.code yX4_stonesThen cX4_stonesThen 4 (some .long), Cond.fieldLink RX4 21 "EyeBoard$Row" "black" "[J"]
def wsX6_chase_r2 : List Cond := [Cond.fieldLink RX4 25 "EyeBoard$Row" "white" "[J", Cond.methodLink RX4 66 yX2_holds, Cond.static yX2_holds, Cond.code yX2_holds cX2_holds 3 (some .boolean), Cond.methodLink RX6 162 yX0_read, Cond.instanceMethod yX0_read, Cond.selects RX0 yX0_read yX0_read, Cond.initialized RX0, Cond.code yX0_read cX0_read 4 (some .int), Cond.fieldLink RX0 23 "EyeBoard$Chase" "target" "I", Cond.fieldLink RX0 33 "EyeBoard$Chase" "chased" "I", Cond.fieldLink RX0 19 "EyeBoard$Chase" "tried" "LEyeBoard$Tries;", Cond.fieldLink RX0 36 "EyeBoard$Tries" "made" "I", Cond.fieldLink RX0 15 "EyeBoard$Chase" "row" "LEyeBoard$Row;", Cond.methodLink RX0 27 yX4_colourAt, Cond.methodLink RX0 41 yX4_stonesOf, Cond.static yX6_other, Cond.initialized RX6, Cond.code yX6_other cX6_other 1 (some .int), Cond.methodLink RX0 48 yX4_begin, Cond.instanceMethod yX4_begin, Cond.selects RX4 yX4_begin yX4_begin, Cond.code yX4_begin cX4_begin 7 none, Cond.fieldLink RX4 32 "EyeBoard$Row" "law" "I"]
def wsX6_chase_r3 : List Cond := [Cond.fieldLink RX4 39 "EyeBoard$Row" "opener" "I", Cond.methodLink RX4 42 yX4_keep, Cond.instanceMethod yX4_keep, Cond.selects RX4 yX4_keep yX4_keep, Cond.code yX4_keep cX4_keep 6 none, Cond.methodLink RX0 52 yX0_caughtIn, Cond.instanceMethod yX0_caughtIn, Cond.selects RX0 yX0_caughtIn yX0_caughtIn, Cond.code yX0_caughtIn cX0_caughtIn 7 (some .int), Cond.fieldLink RX0 9 "EyeBoard$Chase" "grid" "LEyeBoard$Grid;", Cond.fieldLink RX0 78 "EyeBoard$Grid" "size" "I", Cond.methodLink RX0 61 yX0_targetGroup, Cond.instanceMethod yX0_targetGroup, Cond.selects RX0 yX0_targetGroup yX0_targetGroup, Cond.code yX0_targetGroup cX0_targetGroup 1 (some .long), Cond.methodLink RX0 55 yX2_spread, Cond.instanceMethod yX2_spread, Cond.selects RX2 yX2_spread yX2_spread, Cond.code yX2_spread cX2_spread 10 (some .long), Cond.methodLink RX2 33 yX2_beside, Cond.instanceMethod yX2_beside, Cond.selects RX2 yX2_beside yX2_beside, Cond.code yX2_beside cX2_beside 5 (some .long), Cond.fieldLink RX2 30 "EyeBoard$Grid" "notLastColumn" "J"]
def wsX6_chase_r4 : List Cond := [Cond.fieldLink RX2 27 "EyeBoard$Grid" "notFirstColumn" "J", Cond.fieldLink RX2 9 "EyeBoard$Grid" "width" "I", Cond.fieldLink RX2 21 "EyeBoard$Grid" "all" "J", Cond.methodLink RX0 65 yX2_beside, Cond.methodLink RX0 69 yX4_free, Cond.instanceMethod yX4_free, Cond.selects RX4 yX4_free yX4_free, Cond.code yX4_free cX4_free 1 (some .long), Cond.fieldLink RX4 9 "EyeBoard$Row" "grid" "LEyeBoard$Grid;", Cond.fieldLink RX4 54 "EyeBoard$Grid" "all" "J", Cond.constantLong RX4 60 (-1), Cond.methodLink RX0 72 yJ13_bitCount_95d88, Cond.static yJ13_bitCount_95d88, Cond.initialized RJ13, Cond.code yJ13_bitCount_95d88 cJ13_bitCount_95d88 2 (some .int), Cond.constantLong RJ13 314 (6148914691236517205), Cond.constantLong RJ13 316 (3689348814741910323), Cond.constantLong RJ13 318 (1085102592571150095), Cond.methodLink RX0 81 yX2_holds, Cond.methodLink RX0 85 yX4_add, Cond.instanceMethod yX4_add, Cond.selects RX4 yX4_add yX4_add, Cond.code yX4_add cX4_add 2 (some .boolean), Cond.fieldLink RX4 28 "EyeBoard$Row" "acts" "[I"]
def wsX6_chase_r5 : List Cond := [Cond.fieldLink RX4 99 "EyeBoard$Grid" "size" "I", Cond.fieldLink RX4 89 "EyeBoard$Row" "blackThen" "J", Cond.fieldLink RX4 92 "EyeBoard$Row" "whiteThen" "J", Cond.methodLink RX4 102 yX2_has, Cond.methodLink RX4 106 yX4_reasonAgainst, Cond.instanceMethod yX4_reasonAgainst, Cond.selects RX4 yX4_reasonAgainst yX4_reasonAgainst, Cond.code yX4_reasonAgainst cX4_reasonAgainst 11 (some .int), Cond.methodLink RX4 70 yX4_free, Cond.methodLink RX4 74 yX4_mover, Cond.instanceMethod yX4_mover, Cond.selects RX4 yX4_mover yX4_mover, Cond.code yX4_mover cX4_mover 1 (some .int), Cond.methodLink RX4 50 yX4_moverThen, Cond.instanceMethod yX4_moverThen, Cond.selects RX4 yX4_moverThen yX4_moverThen, Cond.code yX4_moverThen cX4_moverThen 2 (some .int), Cond.methodLink RX4 81 yX2_beside, Cond.methodLink RX4 85 yX2_spread, Cond.methodLink RX4 95 yX4_isRefusedByLaw, Cond.instanceMethod yX4_isRefusedByLaw, Cond.selects RX4 yX4_isRefusedByLaw yX4_isRefusedByLaw, Cond.code yX4_isRefusedByLaw cX4_isRefusedByLaw 4 (some .boolean), Cond.methodLink RX0 89 yX5_oneMore]
def wsX6_chase_r6 : List Cond := [Cond.instanceMethod yX5_oneMore, Cond.selects RX5 yX5_oneMore yX5_oneMore, Cond.initialized RX5, Cond.code yX5_oneMore cX5_oneMore 1 (some .boolean), Cond.fieldLink RX5 9 "EyeBoard$Tries" "made" "I", Cond.methodLink RX0 93 yX0_answersFail, Cond.instanceMethod yX0_answersFail, Cond.selects RX0 yX0_answersFail yX0_answersFail, Cond.methodLink RX0 96 yX4_takeBack, Cond.instanceMethod yX4_takeBack, Cond.selects RX4 yX4_takeBack yX4_takeBack, Cond.code yX4_takeBack cX4_takeBack 1 none, Cond.methodLink RX4 15 Lib.Math.max.name, Cond.static Lib.Math.max.name, Cond.initialized "java/lang/Math", Cond.code Lib.Math.max.name Lib.Math.max.code 2 (some .int), Cond.code yX0_answersFail cX0_answersFail 12 (some .int), Cond.constantLong RX0 102 (-1), Cond.methodLink RX0 99 yX0_takingCrossings, Cond.instanceMethod yX0_takingCrossings, Cond.selects RX0 yX0_takingCrossings yX0_takingCrossings, Cond.code yX0_takingCrossings cX0_takingCrossings 10 (some .long), Cond.methodLink RX0 108 yX2_partFrom, Cond.instanceMethod yX2_partFrom]
def wsX6_chase_r7 : List Cond := [Cond.selects RX2 yX2_partFrom yX2_partFrom, Cond.code yX2_partFrom cX2_partFrom 10 (some .long), Cond.methodLink RX2 37 yX2_spread, Cond.methodLink RX0 104 yX2_nth, Cond.instanceMethod yX2_nth, Cond.selects RX2 yX2_nth yX2_nth, Cond.code yX2_nth cX2_nth 6 (some .int), Cond.methodLink RX2 41 yX2_holds]
def wsX6_chase : List Cond := .code yX6_chase cX6_chase 3 (some .int) :: ((wsX6_chase_r1 ++ (wsX6_chase_r2 ++ (wsX6_chase_r3 ++ (wsX6_chase_r4 ++ (wsX6_chase_r5 ++ (wsX6_chase_r6 ++ wsX6_chase_r7)))))) ++ wsX60 ++ wsX20 ++ wsX40 ++ wsX00 ++ wsX50)
def wsX6_fight_r1 : List Cond := [Cond.fieldLink RX6 12 "EyeBoard" "grid" "LEyeBoard$Grid;", Cond.fieldLink RX6 25 "EyeBoard" "row" "LEyeBoard$Row;", Cond.fieldLink RX6 61 "EyeBoard" "struggle" "LEyeBoard$Fight;", Cond.fieldLink RX6 168 "EyeBoard$Fight" "decidingAct" "I", Cond.fieldLink RX6 65 "EyeBoard" "winningAct" "I", Cond.methodLink RX6 76 yX2_has, Cond.instanceMethod yX2_has, Cond.selects RX2 yX2_has yX2_has, Cond.initialized RX2, Cond.code yX2_has cX2_has 2 (some .boolean), Cond.fieldLink RX2 18 "EyeBoard$Grid" "size" "I", Cond.methodLink RX6 123 yX4_colourAt, Cond.instanceMethod yX4_colourAt, Cond.selects RX4 yX4_colourAt yX4_colourAt, Cond.initialized RX4, Cond.code yX4_colourAt cX4_colourAt 2 (some .int), Cond.methodLink RX4 62 yX4_stonesOf, Cond.instanceMethod yX4_stonesOf, Cond.selects RX4 yX4_stonesOf yX4_stonesOf, Cond.code yX4_stonesOf cX4_stonesOf 2 (some .long), Cond.fieldLink RX4 36 "EyeBoard$Row" "latest" "I", Cond.methodLink RX4 46 yX4_stonesThen, Cond.instanceMethod yX4_stonesThen, Cond.selects RX4 yX4_stonesThen yX4_stonesThen]
def wsX6_fight_r2 : List Cond := [Cond.code yX4_stonesThen cX4_stonesThen 4 (some .long), Cond.fieldLink RX4 21 "EyeBoard$Row" "black" "[J", Cond.fieldLink RX4 25 "EyeBoard$Row" "white" "[J", Cond.methodLink RX4 66 yX2_holds, Cond.static yX2_holds, Cond.code yX2_holds cX2_holds 3 (some .boolean), Cond.methodLink RX6 166 yX1_read, Cond.instanceMethod yX1_read, Cond.selects RX1 yX1_read yX1_read, Cond.initialized RX1, Cond.code yX1_read cX1_read 3 (some .int), Cond.fieldLink RX1 23 "EyeBoard$Fight" "target" "I", Cond.fieldLink RX1 15 "EyeBoard$Fight" "row" "LEyeBoard$Row;", Cond.fieldLink RX1 33 "EyeBoard$Fight" "attacked" "I", Cond.fieldLink RX1 36 "EyeBoard$Fight" "decidingAct" "I", Cond.fieldLink RX1 19 "EyeBoard$Fight" "tried" "LEyeBoard$Tries;", Cond.fieldLink RX1 39 "EyeBoard$Tries" "made" "I", Cond.methodLink RX1 27 yX4_colourAt, Cond.methodLink RX1 44 yX1_takenIn, Cond.instanceMethod yX1_takenIn, Cond.selects RX1 yX1_takenIn yX1_takenIn, Cond.code yX1_takenIn cX1_takenIn 5 (some .int), Cond.fieldLink RX1 9 "EyeBoard$Fight" "grid" "LEyeBoard$Grid;", Cond.fieldLink RX1 51 "EyeBoard$Grid" "size" "I"]
def wsX6_fight_r3 : List Cond := [Cond.methodLink RX1 47 yX4_mover, Cond.instanceMethod yX4_mover, Cond.selects RX4 yX4_mover yX4_mover, Cond.code yX4_mover cX4_mover 1 (some .int), Cond.methodLink RX4 50 yX4_moverThen, Cond.instanceMethod yX4_moverThen, Cond.selects RX4 yX4_moverThen yX4_moverThen, Cond.code yX4_moverThen cX4_moverThen 2 (some .int), Cond.fieldLink RX4 39 "EyeBoard$Row" "opener" "I", Cond.methodLink RX1 56 yX4_add, Cond.instanceMethod yX4_add, Cond.selects RX4 yX4_add yX4_add, Cond.code yX4_add cX4_add 2 (some .boolean), Cond.fieldLink RX4 28 "EyeBoard$Row" "acts" "[I", Cond.fieldLink RX4 9 "EyeBoard$Row" "grid" "LEyeBoard$Grid;", Cond.fieldLink RX4 99 "EyeBoard$Grid" "size" "I", Cond.fieldLink RX4 89 "EyeBoard$Row" "blackThen" "J", Cond.fieldLink RX4 92 "EyeBoard$Row" "whiteThen" "J", Cond.methodLink RX4 42 yX4_keep, Cond.instanceMethod yX4_keep, Cond.selects RX4 yX4_keep yX4_keep, Cond.code yX4_keep cX4_keep 6 none, Cond.methodLink RX4 102 yX2_has, Cond.methodLink RX4 106 yX4_reasonAgainst]
def wsX6_fight_r4 : List Cond := [Cond.instanceMethod yX4_reasonAgainst, Cond.selects RX4 yX4_reasonAgainst yX4_reasonAgainst, Cond.code yX4_reasonAgainst cX4_reasonAgainst 11 (some .int), Cond.fieldLink RX4 54 "EyeBoard$Grid" "all" "J", Cond.constantLong RX4 60 (-1), Cond.methodLink RX4 70 yX4_free, Cond.instanceMethod yX4_free, Cond.selects RX4 yX4_free yX4_free, Cond.code yX4_free cX4_free 1 (some .long), Cond.methodLink RX4 74 yX4_mover, Cond.static yX6_other, Cond.initialized RX6, Cond.code yX6_other cX6_other 1 (some .int), Cond.methodLink RX4 81 yX2_beside, Cond.instanceMethod yX2_beside, Cond.selects RX2 yX2_beside yX2_beside, Cond.code yX2_beside cX2_beside 5 (some .long), Cond.fieldLink RX2 30 "EyeBoard$Grid" "notLastColumn" "J", Cond.fieldLink RX2 27 "EyeBoard$Grid" "notFirstColumn" "J", Cond.fieldLink RX2 9 "EyeBoard$Grid" "width" "I", Cond.fieldLink RX2 21 "EyeBoard$Grid" "all" "J", Cond.methodLink RX4 85 yX2_spread, Cond.instanceMethod yX2_spread, Cond.selects RX2 yX2_spread yX2_spread]
def wsX6_fight_r5 : List Cond := [Cond.code yX2_spread cX2_spread 10 (some .long), Cond.methodLink RX2 33 yX2_beside, Cond.methodLink RX4 95 yX4_isRefusedByLaw, Cond.instanceMethod yX4_isRefusedByLaw, Cond.selects RX4 yX4_isRefusedByLaw yX4_isRefusedByLaw, Cond.code yX4_isRefusedByLaw cX4_isRefusedByLaw 4 (some .boolean), Cond.fieldLink RX4 32 "EyeBoard$Row" "law" "I", Cond.methodLink RX1 60 yX5_oneMore, Cond.instanceMethod yX5_oneMore, Cond.selects RX5 yX5_oneMore yX5_oneMore, Cond.initialized RX5, Cond.code yX5_oneMore cX5_oneMore 1 (some .boolean), Cond.fieldLink RX5 9 "EyeBoard$Tries" "made" "I", Cond.methodLink RX1 64 yX1_takenBehindAct, Cond.instanceMethod yX1_takenBehindAct, Cond.selects RX1 yX1_takenBehindAct yX1_takenBehindAct, Cond.methodLink RX1 67 yX4_takeBack, Cond.instanceMethod yX4_takeBack, Cond.selects RX4 yX4_takeBack yX4_takeBack, Cond.code yX4_takeBack cX4_takeBack 1 none, Cond.methodLink RX4 15 Lib.Math.max.name, Cond.static Lib.Math.max.name, Cond.initialized "java/lang/Math", Cond.code Lib.Math.max.name Lib.Math.max.code 2 (some .int)]
def wsX6_fight_r6 : List Cond := [Cond.code yX1_takenBehindAct cX1_takenBehindAct 2 (some .int), Cond.methodLink RX6 106 yX4_mover]
def wsX6_fight : List Cond := .code yX6_fight cX6_fight 5 (some .int) :: ((wsX6_fight_r1 ++ (wsX6_fight_r2 ++ (wsX6_fight_r3 ++ (wsX6_fight_r4 ++ (wsX6_fight_r5 ++ wsX6_fight_r6))))) ++ wsX60 ++ wsX10 ++ wsX20 ++ wsX40 ++ wsX50)
def wsX6_tries : List Cond := .code yX6_tries cX6_tries 1 (some .int) :: ([.fieldLink RX6 45 "EyeBoard" "tried" "LEyeBoard$Tries;", .fieldLink RX6 171 "EyeBoard$Tries" "made" "I"] ++ wsX60 ++ wsX50)
def wsX6_first : List Cond := .code yX6_first cX6_first 1 (some .int) :: ([.fieldLink RX6 65 "EyeBoard" "winningAct" "I"] ++ wsX60)
def wsX6_points_r1 : List Cond := [Cond.fieldLink RX6 25 "EyeBoard" "row" "LEyeBoard$Row;", Cond.fieldLink RX6 12 "EyeBoard" "grid" "LEyeBoard$Grid;", Cond.methodLink RX6 79 yX6_isColour, Cond.static yX6_isColour, Cond.initialized RX6, Cond.code yX6_isColour cX6_isColour 1 (some .boolean), Cond.methodLink RX6 82 yX4_stonesOf, Cond.instanceMethod yX4_stonesOf, Cond.selects RX4 yX4_stonesOf yX4_stonesOf, Cond.initialized RX4, Cond.code yX4_stonesOf cX4_stonesOf 2 (some .long), Cond.fieldLink RX4 36 "EyeBoard$Row" "latest" "I", Cond.methodLink RX4 46 yX4_stonesThen, Cond.instanceMethod yX4_stonesThen, Cond.selects RX4 yX4_stonesThen yX4_stonesThen, Cond.code yX4_stonesThen cX4_stonesThen 4 (some .long), Cond.fieldLink RX4 21 "EyeBoard$Row" "black" "[J", Cond.fieldLink RX4 25 "EyeBoard$Row" "white" "[J", Cond.methodLink RX6 174 yX6_other, Cond.static yX6_other, Cond.code yX6_other cX6_other 1 (some .int), Cond.methodLink RX6 177 yX2_freeOf, Cond.instanceMethod yX2_freeOf, Cond.selects RX2 yX2_freeOf yX2_freeOf]
def wsX6_points_r2 : List Cond := [Cond.initialized RX2, Cond.code yX2_freeOf cX2_freeOf 14 (some .long), Cond.fieldLink RX2 21 "EyeBoard$Grid" "all" "J", Cond.constantLong RX2 25 (-1), Cond.fieldLink RX2 18 "EyeBoard$Grid" "size" "I", Cond.methodLink RX2 45 yX2_partFrom, Cond.instanceMethod yX2_partFrom, Cond.selects RX2 yX2_partFrom yX2_partFrom, Cond.code yX2_partFrom cX2_partFrom 10 (some .long), Cond.methodLink RX2 33 yX2_beside, Cond.instanceMethod yX2_beside, Cond.selects RX2 yX2_beside yX2_beside, Cond.code yX2_beside cX2_beside 5 (some .long), Cond.fieldLink RX2 30 "EyeBoard$Grid" "notLastColumn" "J", Cond.fieldLink RX2 27 "EyeBoard$Grid" "notFirstColumn" "J", Cond.fieldLink RX2 9 "EyeBoard$Grid" "width" "I", Cond.methodLink RX2 37 yX2_spread, Cond.instanceMethod yX2_spread, Cond.selects RX2 yX2_spread yX2_spread, Cond.code yX2_spread cX2_spread 10 (some .long), Cond.methodLink RX6 130 yJ13_bitCount_95d88, Cond.static yJ13_bitCount_95d88, Cond.initialized RJ13, Cond.code yJ13_bitCount_95d88 cJ13_bitCount_95d88 2 (some .int)]
def wsX6_points_r3 : List Cond := [Cond.constantLong RJ13 314 (6148914691236517205), Cond.constantLong RJ13 316 (3689348814741910323), Cond.constantLong RJ13 318 (1085102592571150095), Cond.methodLink RX6 180 yX4_taken, Cond.instanceMethod yX4_taken, Cond.selects RX4 yX4_taken yX4_taken, Cond.code yX4_taken cX4_taken 4 (some .int), Cond.methodLink RX4 118 yX4_takenBy, Cond.instanceMethod yX4_takenBy, Cond.selects RX4 yX4_takenBy yX4_takenBy, Cond.code yX4_takenBy cX4_takenBy 3 (some .int), Cond.constantLong RX4 60 (-1), Cond.methodLink RX4 112 yJ13_bitCount_95d88]
def wsX6_points : List Cond := .code yX6_points cX6_points 8 (some .int) :: ((wsX6_points_r1 ++ (wsX6_points_r2 ++ wsX6_points_r3)) ++ wsX60 ++ wsX40 ++ wsX20)
def wsX6_count_r1 : List Cond := [Cond.fieldLink RX6 25 "EyeBoard" "row" "LEyeBoard$Row;", Cond.fieldLink RX6 73 "EyeBoard$Row" "latest" "I", Cond.fieldLink RX6 12 "EyeBoard" "grid" "LEyeBoard$Grid;", Cond.fieldLink RX6 183 "EyeBoard$Grid" "width" "I", Cond.fieldLink RX6 186 "EyeBoard$Grid" "height" "I", Cond.fieldLink RX6 96 "EyeBoard$Row" "law" "I", Cond.methodLink RX6 106 yX4_mover, Cond.instanceMethod yX4_mover, Cond.selects RX4 yX4_mover yX4_mover, Cond.initialized RX4, Cond.code yX4_mover cX4_mover 1 (some .int), Cond.fieldLink RX4 36 "EyeBoard$Row" "latest" "I", Cond.methodLink RX4 50 yX4_moverThen, Cond.instanceMethod yX4_moverThen, Cond.selects RX4 yX4_moverThen yX4_moverThen, Cond.code yX4_moverThen cX4_moverThen 2 (some .int), Cond.fieldLink RX4 39 "EyeBoard$Row" "opener" "I", Cond.methodLink RX6 82 yX4_stonesOf, Cond.instanceMethod yX4_stonesOf, Cond.selects RX4 yX4_stonesOf yX4_stonesOf, Cond.code yX4_stonesOf cX4_stonesOf 2 (some .long), Cond.methodLink RX4 46 yX4_stonesThen, Cond.instanceMethod yX4_stonesThen, Cond.selects RX4 yX4_stonesThen yX4_stonesThen]
def wsX6_count_r2 : List Cond := [Cond.code yX4_stonesThen cX4_stonesThen 4 (some .long), Cond.fieldLink RX4 21 "EyeBoard$Row" "black" "[J", Cond.fieldLink RX4 25 "EyeBoard$Row" "white" "[J", Cond.methodLink RX6 130 yJ13_bitCount_95d88, Cond.static yJ13_bitCount_95d88, Cond.initialized RJ13, Cond.code yJ13_bitCount_95d88 cJ13_bitCount_95d88 2 (some .int), Cond.constantLong RJ13 314 (6148914691236517205), Cond.constantLong RJ13 316 (3689348814741910323), Cond.constantLong RJ13 318 (1085102592571150095), Cond.methodLink RX6 180 yX4_taken, Cond.instanceMethod yX4_taken, Cond.selects RX4 yX4_taken yX4_taken, Cond.code yX4_taken cX4_taken 4 (some .int), Cond.methodLink RX4 118 yX4_takenBy, Cond.instanceMethod yX4_takenBy, Cond.selects RX4 yX4_takenBy yX4_takenBy, Cond.code yX4_takenBy cX4_takenBy 3 (some .int), Cond.constantLong RX4 60 (-1), Cond.methodLink RX4 112 yJ13_bitCount_95d88, Cond.methodLink RX6 117 yX4_passesNow, Cond.instanceMethod yX4_passesNow, Cond.selects RX4 yX4_passesNow yX4_passesNow, Cond.code yX4_passesNow cX4_passesNow 3 (some .int)]
def wsX6_count_r3 : List Cond := [Cond.fieldLink RX4 9 "EyeBoard$Row" "grid" "LEyeBoard$Grid;", Cond.fieldLink RX4 99 "EyeBoard$Grid" "size" "I", Cond.methodLink RX4 109 yX4_actAt, Cond.instanceMethod yX4_actAt, Cond.selects RX4 yX4_actAt yX4_actAt, Cond.code yX4_actAt cX4_actAt 2 (some .int), Cond.fieldLink RX4 28 "EyeBoard$Row" "acts" "[I"]
def wsX6_count : List Cond := .code yX6_count cX6_count 2 (some .int) :: ((wsX6_count_r1 ++ (wsX6_count_r2 ++ wsX6_count_r3)) ++ wsX60 ++ wsX40 ++ wsX20)
def wsX6_act : List Cond := .code yX6_act cX6_act 2 (some .int) :: ([.fieldLink RX6 25 "EyeBoard" "row" "LEyeBoard$Row;", .methodLink RX6 189 yX4_actAt, .instanceMethod yX4_actAt, .selects RX4 yX4_actAt yX4_actAt, .initialized RX4, .code yX4_actAt cX4_actAt 2 (some .int), .fieldLink RX4 36 "EyeBoard$Row" "latest" "I", .fieldLink RX4 28 "EyeBoard$Row" "acts" "[I"] ++ wsX60 ++ wsX40)
def wsX6_digest_r1 : List Cond := [Cond.constantLong RX6 192 (47), Cond.constantLong RX6 194 (31), Cond.fieldLink RX6 12 "EyeBoard" "grid" "LEyeBoard$Grid;", Cond.fieldLink RX6 114 "EyeBoard$Grid" "size" "I", Cond.fieldLink RX6 25 "EyeBoard" "row" "LEyeBoard$Row;", Cond.fieldLink RX6 73 "EyeBoard$Row" "latest" "I", Cond.methodLink RX6 196 yX6_count, Cond.instanceMethod yX6_count, Cond.selects RX6 yX6_count yX6_count, Cond.initialized RX6, Cond.code yX6_count cX6_count 2 (some .int), Cond.fieldLink RX6 183 "EyeBoard$Grid" "width" "I", Cond.fieldLink RX6 186 "EyeBoard$Grid" "height" "I", Cond.fieldLink RX6 96 "EyeBoard$Row" "law" "I", Cond.methodLink RX6 106 yX4_mover, Cond.instanceMethod yX4_mover, Cond.selects RX4 yX4_mover yX4_mover, Cond.initialized RX4, Cond.code yX4_mover cX4_mover 1 (some .int), Cond.fieldLink RX4 36 "EyeBoard$Row" "latest" "I", Cond.methodLink RX4 50 yX4_moverThen, Cond.instanceMethod yX4_moverThen, Cond.selects RX4 yX4_moverThen yX4_moverThen, Cond.code yX4_moverThen cX4_moverThen 2 (some .int)]
def wsX6_digest_r2 : List Cond := [Cond.fieldLink RX4 39 "EyeBoard$Row" "opener" "I", Cond.methodLink RX6 82 yX4_stonesOf, Cond.instanceMethod yX4_stonesOf, Cond.selects RX4 yX4_stonesOf yX4_stonesOf, Cond.code yX4_stonesOf cX4_stonesOf 2 (some .long), Cond.methodLink RX4 46 yX4_stonesThen, Cond.instanceMethod yX4_stonesThen, Cond.selects RX4 yX4_stonesThen yX4_stonesThen, Cond.code yX4_stonesThen cX4_stonesThen 4 (some .long), Cond.fieldLink RX4 21 "EyeBoard$Row" "black" "[J", Cond.fieldLink RX4 25 "EyeBoard$Row" "white" "[J", Cond.methodLink RX6 130 yJ13_bitCount_95d88, Cond.static yJ13_bitCount_95d88, Cond.initialized RJ13, Cond.code yJ13_bitCount_95d88 cJ13_bitCount_95d88 2 (some .int), Cond.constantLong RJ13 314 (6148914691236517205), Cond.constantLong RJ13 316 (3689348814741910323), Cond.constantLong RJ13 318 (1085102592571150095), Cond.methodLink RX6 180 yX4_taken, Cond.instanceMethod yX4_taken, Cond.selects RX4 yX4_taken yX4_taken, Cond.code yX4_taken cX4_taken 4 (some .int), Cond.methodLink RX4 118 yX4_takenBy, Cond.instanceMethod yX4_takenBy]
def wsX6_digest_r3 : List Cond := [Cond.selects RX4 yX4_takenBy yX4_takenBy, Cond.code yX4_takenBy cX4_takenBy 3 (some .int), Cond.constantLong RX4 60 (-1), Cond.methodLink RX4 112 yJ13_bitCount_95d88, Cond.methodLink RX6 117 yX4_passesNow, Cond.instanceMethod yX4_passesNow, Cond.selects RX4 yX4_passesNow yX4_passesNow, Cond.code yX4_passesNow cX4_passesNow 3 (some .int), Cond.fieldLink RX4 9 "EyeBoard$Row" "grid" "LEyeBoard$Grid;", Cond.fieldLink RX4 99 "EyeBoard$Grid" "size" "I", Cond.methodLink RX4 109 yX4_actAt, Cond.instanceMethod yX4_actAt, Cond.selects RX4 yX4_actAt yX4_actAt, Cond.code yX4_actAt cX4_actAt 2 (some .int), Cond.fieldLink RX4 28 "EyeBoard$Row" "acts" "[I", Cond.methodLink RX6 123 yX4_colourAt, Cond.instanceMethod yX4_colourAt, Cond.selects RX4 yX4_colourAt yX4_colourAt, Cond.code yX4_colourAt cX4_colourAt 2 (some .int), Cond.methodLink RX4 62 yX4_stonesOf, Cond.methodLink RX4 66 yX2_holds, Cond.static yX2_holds, Cond.initialized RX2, Cond.code yX2_holds cX2_holds 3 (some .boolean)]
def wsX6_digest_r4 : List Cond := [Cond.methodLink RX6 189 yX4_actAt]
def wsX6_digest : List Cond := .code yX6_digest cX6_digest 4 (some .long) :: ((wsX6_digest_r1 ++ (wsX6_digest_r2 ++ (wsX6_digest_r3 ++ wsX6_digest_r4))) ++ wsX60 ++ wsX20 ++ wsX40)
def wsX7_in : List Cond := .code yX7_in cX7_in 3 (some .boolean) :: ([])
def wsX7_lays : List Cond := .code yX7_lays cX7_lays 7 none :: ([.fieldLink RX7 7 "EyeBoardModel" "wide" "I", .fieldLink RX7 13 "EyeBoardModel" "high" "I", .fieldLink RX7 83 "EyeBoardModel" "law" "I", .fieldLink RX7 86 "EyeBoardModel" "acts" "I", .fieldLink RX7 24 "EyeBoardModel" "blackAt" "[J", .fieldLink RX7 27 "EyeBoardModel" "whiteAt" "[J", .fieldLink RX7 30 "EyeBoardModel" "moveAt" "[I", .fieldLink RX7 33 "EyeBoardModel" "takenBlack" "[I", .fieldLink RX7 36 "EyeBoardModel" "takenWhite" "[I", .fieldLink RX7 16 "EyeBoardModel" "neighbours" "[J"] ++ wsX70)
def wsX7_init_r1 : List Cond := [Cond.methodLink RX7 1 objectInit, Cond.instanceMethod objectInit, Cond.code objectInit ⟨#[0xb1]⟩ 1 none, Cond.fieldLink RX7 7 "EyeBoardModel" "wide" "I", Cond.fieldLink RX7 13 "EyeBoardModel" "high" "I", Cond.arrayClass .long, Cond.fieldLink RX7 16 "EyeBoardModel" "neighbours" "[J", Cond.arrayClass .int, Cond.fieldLink RX7 20 "EyeBoardModel" "act" "[I", Cond.fieldLink RX7 24 "EyeBoardModel" "blackAt" "[J", Cond.fieldLink RX7 27 "EyeBoardModel" "whiteAt" "[J", Cond.fieldLink RX7 30 "EyeBoardModel" "moveAt" "[I", Cond.fieldLink RX7 33 "EyeBoardModel" "takenBlack" "[I", Cond.fieldLink RX7 36 "EyeBoardModel" "takenWhite" "[I", Cond.fieldLink RX7 39 "EyeBoardModel" "chaseBlack" "[J", Cond.fieldLink RX7 42 "EyeBoardModel" "chaseWhite" "[J", Cond.fieldLink RX7 45 "EyeBoardModel" "aheadBlack" "[J", Cond.fieldLink RX7 48 "EyeBoardModel" "aheadWhite" "[J", Cond.arrayClass .boolean, Cond.fieldLink RX7 51 "EyeBoardModel" "hasAhead" "[Z", Cond.fieldLink RX7 55 "EyeBoardModel" "breathsLeft" "[J", Cond.fieldLink RX7 58 "EyeBoardModel" "laidBlack" "[J", Cond.fieldLink RX7 61 "EyeBoardModel" "laidWhite" "[J", Cond.fieldLink RX7 64 "EyeBoardModel" "answersLeft" "[J"]
def wsX7_init_r2 : List Cond := [Cond.fieldLink RX7 67 "EyeBoardModel" "firstAnswer" "[I", Cond.fieldLink RX7 70 "EyeBoardModel" "answering" "[Z", Cond.fieldLink RX7 73 "EyeBoardModel" "found" "I", Cond.fieldLink RX7 76 "EyeBoardModel" "next" "[I", Cond.methodLink RX7 79 yX7_lays, Cond.instanceMethod yX7_lays, Cond.selects RX7 yX7_lays yX7_lays, Cond.initialized RX7, Cond.code yX7_lays cX7_lays 7 none, Cond.fieldLink RX7 83 "EyeBoardModel" "law" "I", Cond.fieldLink RX7 86 "EyeBoardModel" "acts" "I"]
def wsX7_init : List Cond := .code yX7_init cX7_init 1 none :: ((wsX7_init_r1 ++ wsX7_init_r2) ++ wsX70)
def wsX7_size : List Cond := .code yX7_size cX7_size 1 (some .int) :: ([.fieldLink RX7 7 "EyeBoardModel" "wide" "I", .fieldLink RX7 13 "EyeBoardModel" "high" "I"] ++ wsX70)
def wsX7_isCrossing : List Cond := .code yX7_isCrossing cX7_isCrossing 2 (some .boolean) :: ([.methodLink RX7 89 yX7_size, .instanceMethod yX7_size, .selects RX7 yX7_size yX7_size, .initialized RX7, .code yX7_size cX7_size 1 (some .int), .fieldLink RX7 7 "EyeBoardModel" "wide" "I", .fieldLink RX7 13 "EyeBoardModel" "high" "I", .methodLink RX7 93 yX7_in, .static yX7_in, .code yX7_in cX7_in 3 (some .boolean)] ++ wsX70)
def wsX7_many : List Cond := .code yX7_many cX7_many 5 (some .int) :: ([])
def wsX7_least : List Cond := .code yX7_least cX7_least 4 (some .int) :: ([])
def wsX7_around : List Cond := .code yX7_around cX7_around 6 (some .long) :: ([.fieldLink RX7 16 "EyeBoardModel" "neighbours" "[J", .methodLink RX7 89 yX7_size, .instanceMethod yX7_size, .selects RX7 yX7_size yX7_size, .initialized RX7, .code yX7_size cX7_size 1 (some .int), .fieldLink RX7 7 "EyeBoardModel" "wide" "I", .fieldLink RX7 13 "EyeBoardModel" "high" "I"] ++ wsX70)
def wsX7_spread : List Cond := .code yX7_spread cX7_spread 9 (some .long) :: ([.methodLink RX7 97 yX7_around, .instanceMethod yX7_around, .selects RX7 yX7_around yX7_around, .initialized RX7, .code yX7_around cX7_around 6 (some .long), .fieldLink RX7 16 "EyeBoardModel" "neighbours" "[J", .methodLink RX7 89 yX7_size, .instanceMethod yX7_size, .selects RX7 yX7_size yX7_size, .code yX7_size cX7_size 1 (some .int), .fieldLink RX7 7 "EyeBoardModel" "wide" "I", .fieldLink RX7 13 "EyeBoardModel" "high" "I"] ++ wsX70)
def wsX7_all : List Cond := .code yX7_all cX7_all 1 (some .long) :: ([.methodLink RX7 89 yX7_size, .instanceMethod yX7_size, .selects RX7 yX7_size yX7_size, .initialized RX7, .code yX7_size cX7_size 1 (some .int), .fieldLink RX7 7 "EyeBoardModel" "wide" "I", .fieldLink RX7 13 "EyeBoardModel" "high" "I"] ++ wsX70)
def wsX7_free : List Cond := .code yX7_free cX7_free 5 (some .long) :: ([.constantLong RX7 105 (-1), .methodLink RX7 101 yX7_all, .instanceMethod yX7_all, .selects RX7 yX7_all yX7_all, .initialized RX7, .code yX7_all cX7_all 1 (some .long), .methodLink RX7 89 yX7_size, .instanceMethod yX7_size, .selects RX7 yX7_size yX7_size, .code yX7_size cX7_size 1 (some .int), .fieldLink RX7 7 "EyeBoardModel" "wide" "I", .fieldLink RX7 13 "EyeBoardModel" "high" "I"] ++ wsX70)
def wsX7_other : List Cond := .code yX7_other cX7_other 1 (some .int) :: ([])
def wsX7_laid_r1 : List Cond := [Cond.fieldLink RX7 16 "EyeBoardModel" "neighbours" "[J", Cond.constantLong RX7 105 (-1), Cond.fieldLink RX7 119 "EyeBoardModel" "taken" "I", Cond.fieldLink RX7 122 "EyeBoardModel" "newBlack" "J", Cond.fieldLink RX7 126 "EyeBoardModel" "newWhite" "J", Cond.methodLink RX7 107 yX7_least, Cond.static yX7_least, Cond.initialized RX7, Cond.code yX7_least cX7_least 4 (some .int), Cond.methodLink RX7 111 yX7_spread, Cond.instanceMethod yX7_spread, Cond.selects RX7 yX7_spread yX7_spread, Cond.code yX7_spread cX7_spread 9 (some .long), Cond.methodLink RX7 97 yX7_around, Cond.instanceMethod yX7_around, Cond.selects RX7 yX7_around yX7_around, Cond.code yX7_around cX7_around 6 (some .long), Cond.methodLink RX7 89 yX7_size, Cond.instanceMethod yX7_size, Cond.selects RX7 yX7_size yX7_size, Cond.code yX7_size cX7_size 1 (some .int), Cond.fieldLink RX7 7 "EyeBoardModel" "wide" "I", Cond.fieldLink RX7 13 "EyeBoardModel" "high" "I", Cond.methodLink RX7 101 yX7_all]
def wsX7_laid_r2 : List Cond := [Cond.instanceMethod yX7_all, Cond.selects RX7 yX7_all yX7_all, Cond.code yX7_all cX7_all 1 (some .long), Cond.methodLink RX7 115 yX7_many, Cond.static yX7_many, Cond.code yX7_many cX7_many 5 (some .int), Cond.methodLink RX7 129 yX7_free, Cond.instanceMethod yX7_free, Cond.selects RX7 yX7_free yX7_free, Cond.code yX7_free cX7_free 5 (some .long)]
def wsX7_laid : List Cond := .code yX7_laid cX7_laid 18 (some .int) :: ((wsX7_laid_r1 ++ wsX7_laid_r2) ++ wsX70)
def wsX7_isAgainst : List Cond := .code yX7_isAgainst cX7_isAgainst 4 (some .boolean) :: ([.fieldLink RX7 83 "EyeBoardModel" "law" "I", .fieldLink RX7 24 "EyeBoardModel" "blackAt" "[J", .fieldLink RX7 122 "EyeBoardModel" "newBlack" "J", .fieldLink RX7 27 "EyeBoardModel" "whiteAt" "[J", .fieldLink RX7 126 "EyeBoardModel" "newWhite" "J", .fieldLink RX7 30 "EyeBoardModel" "moveAt" "[I", .methodLink RX7 132 yX7_other, .static yX7_other, .initialized RX7, .code yX7_other cX7_other 1 (some .int)] ++ wsX70)
def wsX7_reason_r1 : List Cond := [Cond.fieldLink RX7 24 "EyeBoardModel" "blackAt" "[J", Cond.fieldLink RX7 27 "EyeBoardModel" "whiteAt" "[J", Cond.methodLink RX7 136 yX7_laid, Cond.instanceMethod yX7_laid, Cond.selects RX7 yX7_laid yX7_laid, Cond.initialized RX7, Cond.code yX7_laid cX7_laid 18 (some .int), Cond.fieldLink RX7 16 "EyeBoardModel" "neighbours" "[J", Cond.constantLong RX7 105 (-1), Cond.fieldLink RX7 119 "EyeBoardModel" "taken" "I", Cond.fieldLink RX7 122 "EyeBoardModel" "newBlack" "J", Cond.fieldLink RX7 126 "EyeBoardModel" "newWhite" "J", Cond.methodLink RX7 107 yX7_least, Cond.static yX7_least, Cond.code yX7_least cX7_least 4 (some .int), Cond.methodLink RX7 111 yX7_spread, Cond.instanceMethod yX7_spread, Cond.selects RX7 yX7_spread yX7_spread, Cond.code yX7_spread cX7_spread 9 (some .long), Cond.methodLink RX7 97 yX7_around, Cond.instanceMethod yX7_around, Cond.selects RX7 yX7_around yX7_around, Cond.code yX7_around cX7_around 6 (some .long), Cond.methodLink RX7 89 yX7_size]
def wsX7_reason_r2 : List Cond := [Cond.instanceMethod yX7_size, Cond.selects RX7 yX7_size yX7_size, Cond.code yX7_size cX7_size 1 (some .int), Cond.fieldLink RX7 7 "EyeBoardModel" "wide" "I", Cond.fieldLink RX7 13 "EyeBoardModel" "high" "I", Cond.methodLink RX7 101 yX7_all, Cond.instanceMethod yX7_all, Cond.selects RX7 yX7_all yX7_all, Cond.code yX7_all cX7_all 1 (some .long), Cond.methodLink RX7 115 yX7_many, Cond.static yX7_many, Cond.code yX7_many cX7_many 5 (some .int), Cond.methodLink RX7 129 yX7_free, Cond.instanceMethod yX7_free, Cond.selects RX7 yX7_free yX7_free, Cond.code yX7_free cX7_free 5 (some .long), Cond.methodLink RX7 140 yX7_isAgainst, Cond.instanceMethod yX7_isAgainst, Cond.selects RX7 yX7_isAgainst yX7_isAgainst, Cond.code yX7_isAgainst cX7_isAgainst 4 (some .boolean), Cond.fieldLink RX7 83 "EyeBoardModel" "law" "I", Cond.fieldLink RX7 30 "EyeBoardModel" "moveAt" "[I", Cond.methodLink RX7 132 yX7_other, Cond.static yX7_other]
def wsX7_reason_r3 : List Cond := [Cond.code yX7_other cX7_other 1 (some .int)]
def wsX7_reason : List Cond := .code yX7_reason cX7_reason 5 (some .int) :: ((wsX7_reason_r1 ++ (wsX7_reason_r2 ++ wsX7_reason_r3)) ++ wsX70)
def wsX7_board : List Cond := .code yX7_board cX7_board 5 (some .int) :: ([.fieldLink RX7 86 "EyeBoardModel" "acts" "I", .methodLink RX7 93 yX7_in, .static yX7_in, .initialized RX7, .code yX7_in cX7_in 3 (some .boolean), .methodLink RX7 79 yX7_lays, .instanceMethod yX7_lays, .selects RX7 yX7_lays yX7_lays, .code yX7_lays cX7_lays 7 none, .fieldLink RX7 7 "EyeBoardModel" "wide" "I", .fieldLink RX7 13 "EyeBoardModel" "high" "I", .fieldLink RX7 83 "EyeBoardModel" "law" "I", .fieldLink RX7 24 "EyeBoardModel" "blackAt" "[J", .fieldLink RX7 27 "EyeBoardModel" "whiteAt" "[J", .fieldLink RX7 30 "EyeBoardModel" "moveAt" "[I", .fieldLink RX7 33 "EyeBoardModel" "takenBlack" "[I", .fieldLink RX7 36 "EyeBoardModel" "takenWhite" "[I", .fieldLink RX7 16 "EyeBoardModel" "neighbours" "[J"] ++ wsX70)
def wsX7_set_r1 : List Cond := [Cond.fieldLink RX7 24 "EyeBoardModel" "blackAt" "[J", Cond.constantLong RX7 105 (-1), Cond.fieldLink RX7 27 "EyeBoardModel" "whiteAt" "[J", Cond.fieldLink RX7 86 "EyeBoardModel" "acts" "I", Cond.fieldLink RX7 30 "EyeBoardModel" "moveAt" "[I", Cond.methodLink RX7 144 yX7_isCrossing, Cond.instanceMethod yX7_isCrossing, Cond.selects RX7 yX7_isCrossing yX7_isCrossing, Cond.initialized RX7, Cond.code yX7_isCrossing cX7_isCrossing 2 (some .boolean), Cond.methodLink RX7 89 yX7_size, Cond.instanceMethod yX7_size, Cond.selects RX7 yX7_size yX7_size, Cond.code yX7_size cX7_size 1 (some .int), Cond.fieldLink RX7 7 "EyeBoardModel" "wide" "I", Cond.fieldLink RX7 13 "EyeBoardModel" "high" "I", Cond.methodLink RX7 93 yX7_in, Cond.static yX7_in, Cond.code yX7_in cX7_in 3 (some .boolean), Cond.methodLink RX7 111 yX7_spread, Cond.instanceMethod yX7_spread, Cond.selects RX7 yX7_spread yX7_spread, Cond.code yX7_spread cX7_spread 9 (some .long), Cond.methodLink RX7 97 yX7_around]
def wsX7_set_r2 : List Cond := [Cond.instanceMethod yX7_around, Cond.selects RX7 yX7_around yX7_around, Cond.code yX7_around cX7_around 6 (some .long), Cond.fieldLink RX7 16 "EyeBoardModel" "neighbours" "[J", Cond.methodLink RX7 129 yX7_free, Cond.instanceMethod yX7_free, Cond.selects RX7 yX7_free yX7_free, Cond.code yX7_free cX7_free 5 (some .long), Cond.methodLink RX7 101 yX7_all, Cond.instanceMethod yX7_all, Cond.selects RX7 yX7_all yX7_all, Cond.code yX7_all cX7_all 1 (some .long)]
def wsX7_set : List Cond := .code yX7_set cX7_set 16 (some .int) :: ((wsX7_set_r1 ++ wsX7_set_r2) ++ wsX70)
def wsX7_acted : List Cond := .code yX7_acted cX7_acted 7 none :: ([.fieldLink RX7 20 "EyeBoardModel" "act" "[I", .fieldLink RX7 86 "EyeBoardModel" "acts" "I", .fieldLink RX7 30 "EyeBoardModel" "moveAt" "[I", .fieldLink RX7 33 "EyeBoardModel" "takenBlack" "[I", .fieldLink RX7 119 "EyeBoardModel" "taken" "I", .fieldLink RX7 36 "EyeBoardModel" "takenWhite" "[I", .fieldLink RX7 24 "EyeBoardModel" "blackAt" "[J", .fieldLink RX7 27 "EyeBoardModel" "whiteAt" "[J", .methodLink RX7 89 yX7_size, .instanceMethod yX7_size, .selects RX7 yX7_size yX7_size, .initialized RX7, .code yX7_size cX7_size 1 (some .int), .fieldLink RX7 7 "EyeBoardModel" "wide" "I", .fieldLink RX7 13 "EyeBoardModel" "high" "I", .methodLink RX7 132 yX7_other, .static yX7_other, .code yX7_other cX7_other 1 (some .int)] ++ wsX70)
def wsX7_lay_r1 : List Cond := [Cond.fieldLink RX7 86 "EyeBoardModel" "acts" "I", Cond.fieldLink RX7 30 "EyeBoardModel" "moveAt" "[I", Cond.fieldLink RX7 119 "EyeBoardModel" "taken" "I", Cond.fieldLink RX7 122 "EyeBoardModel" "newBlack" "J", Cond.fieldLink RX7 126 "EyeBoardModel" "newWhite" "J", Cond.methodLink RX7 144 yX7_isCrossing, Cond.instanceMethod yX7_isCrossing, Cond.selects RX7 yX7_isCrossing yX7_isCrossing, Cond.initialized RX7, Cond.code yX7_isCrossing cX7_isCrossing 2 (some .boolean), Cond.methodLink RX7 89 yX7_size, Cond.instanceMethod yX7_size, Cond.selects RX7 yX7_size yX7_size, Cond.code yX7_size cX7_size 1 (some .int), Cond.fieldLink RX7 7 "EyeBoardModel" "wide" "I", Cond.fieldLink RX7 13 "EyeBoardModel" "high" "I", Cond.methodLink RX7 93 yX7_in, Cond.static yX7_in, Cond.code yX7_in cX7_in 3 (some .boolean), Cond.methodLink RX7 148 yX7_reason, Cond.instanceMethod yX7_reason, Cond.selects RX7 yX7_reason yX7_reason, Cond.code yX7_reason cX7_reason 5 (some .int), Cond.fieldLink RX7 24 "EyeBoardModel" "blackAt" "[J"]
def wsX7_lay_r2 : List Cond := [Cond.fieldLink RX7 27 "EyeBoardModel" "whiteAt" "[J", Cond.methodLink RX7 136 yX7_laid, Cond.instanceMethod yX7_laid, Cond.selects RX7 yX7_laid yX7_laid, Cond.code yX7_laid cX7_laid 18 (some .int), Cond.fieldLink RX7 16 "EyeBoardModel" "neighbours" "[J", Cond.constantLong RX7 105 (-1), Cond.methodLink RX7 107 yX7_least, Cond.static yX7_least, Cond.code yX7_least cX7_least 4 (some .int), Cond.methodLink RX7 111 yX7_spread, Cond.instanceMethod yX7_spread, Cond.selects RX7 yX7_spread yX7_spread, Cond.code yX7_spread cX7_spread 9 (some .long), Cond.methodLink RX7 97 yX7_around, Cond.instanceMethod yX7_around, Cond.selects RX7 yX7_around yX7_around, Cond.code yX7_around cX7_around 6 (some .long), Cond.methodLink RX7 101 yX7_all, Cond.instanceMethod yX7_all, Cond.selects RX7 yX7_all yX7_all, Cond.code yX7_all cX7_all 1 (some .long), Cond.methodLink RX7 115 yX7_many, Cond.static yX7_many]
def wsX7_lay_r3 : List Cond := [Cond.code yX7_many cX7_many 5 (some .int), Cond.methodLink RX7 129 yX7_free, Cond.instanceMethod yX7_free, Cond.selects RX7 yX7_free yX7_free, Cond.code yX7_free cX7_free 5 (some .long), Cond.methodLink RX7 140 yX7_isAgainst, Cond.instanceMethod yX7_isAgainst, Cond.selects RX7 yX7_isAgainst yX7_isAgainst, Cond.code yX7_isAgainst cX7_isAgainst 4 (some .boolean), Cond.fieldLink RX7 83 "EyeBoardModel" "law" "I", Cond.methodLink RX7 132 yX7_other, Cond.static yX7_other, Cond.code yX7_other cX7_other 1 (some .int), Cond.methodLink RX7 152 yX7_acted, Cond.instanceMethod yX7_acted, Cond.selects RX7 yX7_acted yX7_acted, Cond.code yX7_acted cX7_acted 7 none, Cond.fieldLink RX7 20 "EyeBoardModel" "act" "[I", Cond.fieldLink RX7 33 "EyeBoardModel" "takenBlack" "[I", Cond.fieldLink RX7 36 "EyeBoardModel" "takenWhite" "[I"]
def wsX7_lay : List Cond := .code yX7_lay cX7_lay 3 (some .int) :: ((wsX7_lay_r1 ++ (wsX7_lay_r2 ++ wsX7_lay_r3)) ++ wsX70)
def wsX7_passes : List Cond := .code yX7_passes cX7_passes 2 (some .int) :: ([.fieldLink RX7 86 "EyeBoardModel" "acts" "I", .fieldLink RX7 20 "EyeBoardModel" "act" "[I", .methodLink RX7 89 yX7_size, .instanceMethod yX7_size, .selects RX7 yX7_size yX7_size, .initialized RX7, .code yX7_size cX7_size 1 (some .int), .fieldLink RX7 7 "EyeBoardModel" "wide" "I", .fieldLink RX7 13 "EyeBoardModel" "high" "I"] ++ wsX70)
def wsX7_pass_r1 : List Cond := [Cond.fieldLink RX7 86 "EyeBoardModel" "acts" "I", Cond.fieldLink RX7 24 "EyeBoardModel" "blackAt" "[J", Cond.fieldLink RX7 27 "EyeBoardModel" "whiteAt" "[J", Cond.methodLink RX7 89 yX7_size, Cond.instanceMethod yX7_size, Cond.selects RX7 yX7_size yX7_size, Cond.initialized RX7, Cond.code yX7_size cX7_size 1 (some .int), Cond.fieldLink RX7 7 "EyeBoardModel" "wide" "I", Cond.fieldLink RX7 13 "EyeBoardModel" "high" "I", Cond.methodLink RX7 152 yX7_acted, Cond.instanceMethod yX7_acted, Cond.selects RX7 yX7_acted yX7_acted, Cond.code yX7_acted cX7_acted 7 none, Cond.fieldLink RX7 20 "EyeBoardModel" "act" "[I", Cond.fieldLink RX7 30 "EyeBoardModel" "moveAt" "[I", Cond.fieldLink RX7 33 "EyeBoardModel" "takenBlack" "[I", Cond.fieldLink RX7 119 "EyeBoardModel" "taken" "I", Cond.fieldLink RX7 36 "EyeBoardModel" "takenWhite" "[I", Cond.methodLink RX7 132 yX7_other, Cond.static yX7_other, Cond.code yX7_other cX7_other 1 (some .int), Cond.methodLink RX7 156 yX7_passes, Cond.instanceMethod yX7_passes]
def wsX7_pass_r2 : List Cond := [Cond.selects RX7 yX7_passes yX7_passes, Cond.code yX7_passes cX7_passes 2 (some .int)]
def wsX7_pass : List Cond := .code yX7_pass cX7_pass 1 (some .int) :: ((wsX7_pass_r1 ++ wsX7_pass_r2) ++ wsX70)
def wsX7_why_r1 : List Cond := [Cond.fieldLink RX7 86 "EyeBoardModel" "acts" "I", Cond.fieldLink RX7 30 "EyeBoardModel" "moveAt" "[I", Cond.methodLink RX7 144 yX7_isCrossing, Cond.instanceMethod yX7_isCrossing, Cond.selects RX7 yX7_isCrossing yX7_isCrossing, Cond.initialized RX7, Cond.code yX7_isCrossing cX7_isCrossing 2 (some .boolean), Cond.methodLink RX7 89 yX7_size, Cond.instanceMethod yX7_size, Cond.selects RX7 yX7_size yX7_size, Cond.code yX7_size cX7_size 1 (some .int), Cond.fieldLink RX7 7 "EyeBoardModel" "wide" "I", Cond.fieldLink RX7 13 "EyeBoardModel" "high" "I", Cond.methodLink RX7 93 yX7_in, Cond.static yX7_in, Cond.code yX7_in cX7_in 3 (some .boolean), Cond.methodLink RX7 148 yX7_reason, Cond.instanceMethod yX7_reason, Cond.selects RX7 yX7_reason yX7_reason, Cond.code yX7_reason cX7_reason 5 (some .int), Cond.fieldLink RX7 24 "EyeBoardModel" "blackAt" "[J", Cond.fieldLink RX7 27 "EyeBoardModel" "whiteAt" "[J", Cond.methodLink RX7 136 yX7_laid, Cond.instanceMethod yX7_laid]
def wsX7_why_r2 : List Cond := [Cond.selects RX7 yX7_laid yX7_laid, Cond.code yX7_laid cX7_laid 18 (some .int), Cond.fieldLink RX7 16 "EyeBoardModel" "neighbours" "[J", Cond.constantLong RX7 105 (-1), Cond.fieldLink RX7 119 "EyeBoardModel" "taken" "I", Cond.fieldLink RX7 122 "EyeBoardModel" "newBlack" "J", Cond.fieldLink RX7 126 "EyeBoardModel" "newWhite" "J", Cond.methodLink RX7 107 yX7_least, Cond.static yX7_least, Cond.code yX7_least cX7_least 4 (some .int), Cond.methodLink RX7 111 yX7_spread, Cond.instanceMethod yX7_spread, Cond.selects RX7 yX7_spread yX7_spread, Cond.code yX7_spread cX7_spread 9 (some .long), Cond.methodLink RX7 97 yX7_around, Cond.instanceMethod yX7_around, Cond.selects RX7 yX7_around yX7_around, Cond.code yX7_around cX7_around 6 (some .long), Cond.methodLink RX7 101 yX7_all, Cond.instanceMethod yX7_all, Cond.selects RX7 yX7_all yX7_all, Cond.code yX7_all cX7_all 1 (some .long), Cond.methodLink RX7 115 yX7_many, Cond.static yX7_many]
def wsX7_why_r3 : List Cond := [Cond.code yX7_many cX7_many 5 (some .int), Cond.methodLink RX7 129 yX7_free, Cond.instanceMethod yX7_free, Cond.selects RX7 yX7_free yX7_free, Cond.code yX7_free cX7_free 5 (some .long), Cond.methodLink RX7 140 yX7_isAgainst, Cond.instanceMethod yX7_isAgainst, Cond.selects RX7 yX7_isAgainst yX7_isAgainst, Cond.code yX7_isAgainst cX7_isAgainst 4 (some .boolean), Cond.fieldLink RX7 83 "EyeBoardModel" "law" "I", Cond.methodLink RX7 132 yX7_other, Cond.static yX7_other, Cond.code yX7_other cX7_other 1 (some .int)]
def wsX7_why : List Cond := .code yX7_why cX7_why 2 (some .int) :: ((wsX7_why_r1 ++ (wsX7_why_r2 ++ wsX7_why_r3)) ++ wsX70)
def wsX7_undo : List Cond := .code yX7_undo cX7_undo 1 (some .int) :: ([.fieldLink RX7 86 "EyeBoardModel" "acts" "I"] ++ wsX70)
def wsX7_atOf : List Cond := .code yX7_atOf cX7_atOf 2 (some .int) :: ([.fieldLink RX7 24 "EyeBoardModel" "blackAt" "[J", .fieldLink RX7 86 "EyeBoardModel" "acts" "I", .fieldLink RX7 27 "EyeBoardModel" "whiteAt" "[J"] ++ wsX70)
def wsX7_at : List Cond := .code yX7_at cX7_at 2 (some .int) :: ([.methodLink RX7 144 yX7_isCrossing, .instanceMethod yX7_isCrossing, .selects RX7 yX7_isCrossing yX7_isCrossing, .initialized RX7, .code yX7_isCrossing cX7_isCrossing 2 (some .boolean), .methodLink RX7 89 yX7_size, .instanceMethod yX7_size, .selects RX7 yX7_size yX7_size, .code yX7_size cX7_size 1 (some .int), .fieldLink RX7 7 "EyeBoardModel" "wide" "I", .fieldLink RX7 13 "EyeBoardModel" "high" "I", .methodLink RX7 93 yX7_in, .static yX7_in, .code yX7_in cX7_in 3 (some .boolean), .methodLink RX7 159 yX7_atOf, .instanceMethod yX7_atOf, .selects RX7 yX7_atOf yX7_atOf, .code yX7_atOf cX7_atOf 2 (some .int), .fieldLink RX7 24 "EyeBoardModel" "blackAt" "[J", .fieldLink RX7 86 "EyeBoardModel" "acts" "I", .fieldLink RX7 27 "EyeBoardModel" "whiteAt" "[J"] ++ wsX70)
def wsX7_stones : List Cond := .code yX7_stones cX7_stones 2 (some .long) :: ([.fieldLink RX7 24 "EyeBoardModel" "blackAt" "[J", .fieldLink RX7 86 "EyeBoardModel" "acts" "I", .fieldLink RX7 27 "EyeBoardModel" "whiteAt" "[J"] ++ wsX70)
def wsX7_breaths : List Cond := .code yX7_breaths cX7_breaths 3 (some .long) :: ([.fieldLink RX7 24 "EyeBoardModel" "blackAt" "[J", .fieldLink RX7 86 "EyeBoardModel" "acts" "I", .fieldLink RX7 27 "EyeBoardModel" "whiteAt" "[J", .methodLink RX7 97 yX7_around, .instanceMethod yX7_around, .selects RX7 yX7_around yX7_around, .initialized RX7, .code yX7_around cX7_around 6 (some .long), .fieldLink RX7 16 "EyeBoardModel" "neighbours" "[J", .methodLink RX7 89 yX7_size, .instanceMethod yX7_size, .selects RX7 yX7_size yX7_size, .code yX7_size cX7_size 1 (some .int), .fieldLink RX7 7 "EyeBoardModel" "wide" "I", .fieldLink RX7 13 "EyeBoardModel" "high" "I", .methodLink RX7 129 yX7_free, .instanceMethod yX7_free, .selects RX7 yX7_free yX7_free, .code yX7_free cX7_free 5 (some .long), .constantLong RX7 105 (-1), .methodLink RX7 101 yX7_all, .instanceMethod yX7_all, .selects RX7 yX7_all yX7_all, .code yX7_all cX7_all 1 (some .long)] ++ wsX70)
def wsX7_isVital_r1 : List Cond := [Cond.fieldLink RX7 24 "EyeBoardModel" "blackAt" "[J", Cond.fieldLink RX7 86 "EyeBoardModel" "acts" "I", Cond.fieldLink RX7 27 "EyeBoardModel" "whiteAt" "[J", Cond.constantLong RX7 105 (-1), Cond.methodLink RX7 97 yX7_around, Cond.instanceMethod yX7_around, Cond.selects RX7 yX7_around yX7_around, Cond.initialized RX7, Cond.code yX7_around cX7_around 6 (some .long), Cond.fieldLink RX7 16 "EyeBoardModel" "neighbours" "[J", Cond.methodLink RX7 89 yX7_size, Cond.instanceMethod yX7_size, Cond.selects RX7 yX7_size yX7_size, Cond.code yX7_size cX7_size 1 (some .int), Cond.fieldLink RX7 7 "EyeBoardModel" "wide" "I", Cond.fieldLink RX7 13 "EyeBoardModel" "high" "I", Cond.methodLink RX7 129 yX7_free, Cond.instanceMethod yX7_free, Cond.selects RX7 yX7_free yX7_free, Cond.code yX7_free cX7_free 5 (some .long), Cond.methodLink RX7 101 yX7_all, Cond.instanceMethod yX7_all, Cond.selects RX7 yX7_all yX7_all, Cond.code yX7_all cX7_all 1 (some .long)]
def wsX7_isVital_r2 : List Cond := [Cond.methodLink RX7 162 yX7_breaths, Cond.instanceMethod yX7_breaths, Cond.selects RX7 yX7_breaths yX7_breaths, Cond.code yX7_breaths cX7_breaths 3 (some .long)]
def wsX7_isVital : List Cond := .code yX7_isVital cX7_isVital 5 (some .boolean) :: ((wsX7_isVital_r1 ++ wsX7_isVital_r2) ++ wsX70)
def wsX7_vital_r1 : List Cond := [Cond.constantLong RX7 105 (-1), Cond.methodLink RX7 101 yX7_all, Cond.instanceMethod yX7_all, Cond.selects RX7 yX7_all yX7_all, Cond.initialized RX7, Cond.code yX7_all cX7_all 1 (some .long), Cond.methodLink RX7 89 yX7_size, Cond.instanceMethod yX7_size, Cond.selects RX7 yX7_size yX7_size, Cond.code yX7_size cX7_size 1 (some .int), Cond.fieldLink RX7 7 "EyeBoardModel" "wide" "I", Cond.fieldLink RX7 13 "EyeBoardModel" "high" "I", Cond.methodLink RX7 165 yX7_stones, Cond.instanceMethod yX7_stones, Cond.selects RX7 yX7_stones yX7_stones, Cond.code yX7_stones cX7_stones 2 (some .long), Cond.fieldLink RX7 24 "EyeBoardModel" "blackAt" "[J", Cond.fieldLink RX7 86 "EyeBoardModel" "acts" "I", Cond.fieldLink RX7 27 "EyeBoardModel" "whiteAt" "[J", Cond.methodLink RX7 111 yX7_spread, Cond.instanceMethod yX7_spread, Cond.selects RX7 yX7_spread yX7_spread, Cond.code yX7_spread cX7_spread 9 (some .long), Cond.methodLink RX7 97 yX7_around]
def wsX7_vital_r2 : List Cond := [Cond.instanceMethod yX7_around, Cond.selects RX7 yX7_around yX7_around, Cond.code yX7_around cX7_around 6 (some .long), Cond.fieldLink RX7 16 "EyeBoardModel" "neighbours" "[J", Cond.methodLink RX7 169 yX7_isVital, Cond.instanceMethod yX7_isVital, Cond.selects RX7 yX7_isVital yX7_isVital, Cond.code yX7_isVital cX7_isVital 5 (some .boolean), Cond.methodLink RX7 129 yX7_free, Cond.instanceMethod yX7_free, Cond.selects RX7 yX7_free yX7_free, Cond.code yX7_free cX7_free 5 (some .long), Cond.methodLink RX7 162 yX7_breaths, Cond.instanceMethod yX7_breaths, Cond.selects RX7 yX7_breaths yX7_breaths, Cond.code yX7_breaths cX7_breaths 3 (some .long)]
def wsX7_vital : List Cond := .code yX7_vital cX7_vital 11 (some .int) :: ((wsX7_vital_r1 ++ wsX7_vital_r2) ++ wsX70)
def wsX7_stand_r1 : List Cond := [Cond.constantLong RX7 105 (-1), Cond.methodLink RX7 165 yX7_stones, Cond.instanceMethod yX7_stones, Cond.selects RX7 yX7_stones yX7_stones, Cond.initialized RX7, Cond.code yX7_stones cX7_stones 2 (some .long), Cond.fieldLink RX7 24 "EyeBoardModel" "blackAt" "[J", Cond.fieldLink RX7 86 "EyeBoardModel" "acts" "I", Cond.fieldLink RX7 27 "EyeBoardModel" "whiteAt" "[J", Cond.methodLink RX7 111 yX7_spread, Cond.instanceMethod yX7_spread, Cond.selects RX7 yX7_spread yX7_spread, Cond.code yX7_spread cX7_spread 9 (some .long), Cond.methodLink RX7 97 yX7_around, Cond.instanceMethod yX7_around, Cond.selects RX7 yX7_around yX7_around, Cond.code yX7_around cX7_around 6 (some .long), Cond.fieldLink RX7 16 "EyeBoardModel" "neighbours" "[J", Cond.methodLink RX7 89 yX7_size, Cond.instanceMethod yX7_size, Cond.selects RX7 yX7_size yX7_size, Cond.code yX7_size cX7_size 1 (some .int), Cond.fieldLink RX7 7 "EyeBoardModel" "wide" "I", Cond.fieldLink RX7 13 "EyeBoardModel" "high" "I"]
def wsX7_stand_r2 : List Cond := [Cond.methodLink RX7 173 yX7_vital, Cond.instanceMethod yX7_vital, Cond.selects RX7 yX7_vital yX7_vital, Cond.code yX7_vital cX7_vital 11 (some .int), Cond.methodLink RX7 101 yX7_all, Cond.instanceMethod yX7_all, Cond.selects RX7 yX7_all yX7_all, Cond.code yX7_all cX7_all 1 (some .long), Cond.methodLink RX7 169 yX7_isVital, Cond.instanceMethod yX7_isVital, Cond.selects RX7 yX7_isVital yX7_isVital, Cond.code yX7_isVital cX7_isVital 5 (some .boolean), Cond.methodLink RX7 129 yX7_free, Cond.instanceMethod yX7_free, Cond.selects RX7 yX7_free yX7_free, Cond.code yX7_free cX7_free 5 (some .long), Cond.methodLink RX7 162 yX7_breaths, Cond.instanceMethod yX7_breaths, Cond.selects RX7 yX7_breaths yX7_breaths, Cond.code yX7_breaths cX7_breaths 3 (some .long)]
def wsX7_stand : List Cond := .code yX7_stand cX7_stand 10 (some .long) :: ((wsX7_stand_r1 ++ wsX7_stand_r2) ++ wsX70)
def wsX7_groupAt_r1 : List Cond := [Cond.methodLink RX7 159 yX7_atOf, Cond.instanceMethod yX7_atOf, Cond.selects RX7 yX7_atOf yX7_atOf, Cond.initialized RX7, Cond.code yX7_atOf cX7_atOf 2 (some .int), Cond.fieldLink RX7 24 "EyeBoardModel" "blackAt" "[J", Cond.fieldLink RX7 86 "EyeBoardModel" "acts" "I", Cond.fieldLink RX7 27 "EyeBoardModel" "whiteAt" "[J", Cond.methodLink RX7 165 yX7_stones, Cond.instanceMethod yX7_stones, Cond.selects RX7 yX7_stones yX7_stones, Cond.code yX7_stones cX7_stones 2 (some .long), Cond.methodLink RX7 111 yX7_spread, Cond.instanceMethod yX7_spread, Cond.selects RX7 yX7_spread yX7_spread, Cond.code yX7_spread cX7_spread 9 (some .long), Cond.methodLink RX7 97 yX7_around, Cond.instanceMethod yX7_around, Cond.selects RX7 yX7_around yX7_around, Cond.code yX7_around cX7_around 6 (some .long), Cond.fieldLink RX7 16 "EyeBoardModel" "neighbours" "[J", Cond.methodLink RX7 89 yX7_size, Cond.instanceMethod yX7_size, Cond.selects RX7 yX7_size yX7_size]
def wsX7_groupAt_r2 : List Cond := [Cond.code yX7_size cX7_size 1 (some .int), Cond.fieldLink RX7 7 "EyeBoardModel" "wide" "I", Cond.fieldLink RX7 13 "EyeBoardModel" "high" "I"]
def wsX7_groupAt : List Cond := .code yX7_groupAt cX7_groupAt 2 (some .long) :: ((wsX7_groupAt_r1 ++ wsX7_groupAt_r2) ++ wsX70)
def wsX7_group_r1 : List Cond := [Cond.methodLink RX7 144 yX7_isCrossing, Cond.instanceMethod yX7_isCrossing, Cond.selects RX7 yX7_isCrossing yX7_isCrossing, Cond.initialized RX7, Cond.code yX7_isCrossing cX7_isCrossing 2 (some .boolean), Cond.methodLink RX7 89 yX7_size, Cond.instanceMethod yX7_size, Cond.selects RX7 yX7_size yX7_size, Cond.code yX7_size cX7_size 1 (some .int), Cond.fieldLink RX7 7 "EyeBoardModel" "wide" "I", Cond.fieldLink RX7 13 "EyeBoardModel" "high" "I", Cond.methodLink RX7 93 yX7_in, Cond.static yX7_in, Cond.code yX7_in cX7_in 3 (some .boolean), Cond.methodLink RX7 159 yX7_atOf, Cond.instanceMethod yX7_atOf, Cond.selects RX7 yX7_atOf yX7_atOf, Cond.code yX7_atOf cX7_atOf 2 (some .int), Cond.fieldLink RX7 24 "EyeBoardModel" "blackAt" "[J", Cond.fieldLink RX7 86 "EyeBoardModel" "acts" "I", Cond.fieldLink RX7 27 "EyeBoardModel" "whiteAt" "[J", Cond.methodLink RX7 177 yX7_groupAt, Cond.instanceMethod yX7_groupAt, Cond.selects RX7 yX7_groupAt yX7_groupAt]
def wsX7_group_r2 : List Cond := [Cond.code yX7_groupAt cX7_groupAt 2 (some .long), Cond.methodLink RX7 165 yX7_stones, Cond.instanceMethod yX7_stones, Cond.selects RX7 yX7_stones yX7_stones, Cond.code yX7_stones cX7_stones 2 (some .long), Cond.methodLink RX7 111 yX7_spread, Cond.instanceMethod yX7_spread, Cond.selects RX7 yX7_spread yX7_spread, Cond.code yX7_spread cX7_spread 9 (some .long), Cond.methodLink RX7 97 yX7_around, Cond.instanceMethod yX7_around, Cond.selects RX7 yX7_around yX7_around, Cond.code yX7_around cX7_around 6 (some .long), Cond.fieldLink RX7 16 "EyeBoardModel" "neighbours" "[J", Cond.methodLink RX7 115 yX7_many, Cond.static yX7_many, Cond.code yX7_many cX7_many 5 (some .int), Cond.methodLink RX7 162 yX7_breaths, Cond.instanceMethod yX7_breaths, Cond.selects RX7 yX7_breaths yX7_breaths, Cond.code yX7_breaths cX7_breaths 3 (some .long), Cond.methodLink RX7 129 yX7_free, Cond.instanceMethod yX7_free, Cond.selects RX7 yX7_free yX7_free]
def wsX7_group_r3 : List Cond := [Cond.code yX7_free cX7_free 5 (some .long), Cond.constantLong RX7 105 (-1), Cond.methodLink RX7 101 yX7_all, Cond.instanceMethod yX7_all, Cond.selects RX7 yX7_all yX7_all, Cond.code yX7_all cX7_all 1 (some .long), Cond.methodLink RX7 107 yX7_least, Cond.static yX7_least, Cond.code yX7_least cX7_least 4 (some .int), Cond.methodLink RX7 173 yX7_vital, Cond.instanceMethod yX7_vital, Cond.selects RX7 yX7_vital yX7_vital, Cond.code yX7_vital cX7_vital 11 (some .int), Cond.methodLink RX7 169 yX7_isVital, Cond.instanceMethod yX7_isVital, Cond.selects RX7 yX7_isVital yX7_isVital, Cond.code yX7_isVital cX7_isVital 5 (some .boolean), Cond.methodLink RX7 180 yX7_stand, Cond.instanceMethod yX7_stand, Cond.selects RX7 yX7_stand yX7_stand, Cond.code yX7_stand cX7_stand 10 (some .long)]
def wsX7_group : List Cond := .code yX7_group cX7_group 6 (some .int) :: ((wsX7_group_r1 ++ (wsX7_group_r2 ++ wsX7_group_r3)) ++ wsX70)
def wsX7_breath_r1 : List Cond := [Cond.methodLink RX7 144 yX7_isCrossing, Cond.instanceMethod yX7_isCrossing, Cond.selects RX7 yX7_isCrossing yX7_isCrossing, Cond.initialized RX7, Cond.code yX7_isCrossing cX7_isCrossing 2 (some .boolean), Cond.methodLink RX7 89 yX7_size, Cond.instanceMethod yX7_size, Cond.selects RX7 yX7_size yX7_size, Cond.code yX7_size cX7_size 1 (some .int), Cond.fieldLink RX7 7 "EyeBoardModel" "wide" "I", Cond.fieldLink RX7 13 "EyeBoardModel" "high" "I", Cond.methodLink RX7 93 yX7_in, Cond.static yX7_in, Cond.code yX7_in cX7_in 3 (some .boolean), Cond.methodLink RX7 159 yX7_atOf, Cond.instanceMethod yX7_atOf, Cond.selects RX7 yX7_atOf yX7_atOf, Cond.code yX7_atOf cX7_atOf 2 (some .int), Cond.fieldLink RX7 24 "EyeBoardModel" "blackAt" "[J", Cond.fieldLink RX7 86 "EyeBoardModel" "acts" "I", Cond.fieldLink RX7 27 "EyeBoardModel" "whiteAt" "[J", Cond.methodLink RX7 177 yX7_groupAt, Cond.instanceMethod yX7_groupAt, Cond.selects RX7 yX7_groupAt yX7_groupAt]
def wsX7_breath_r2 : List Cond := [Cond.code yX7_groupAt cX7_groupAt 2 (some .long), Cond.methodLink RX7 165 yX7_stones, Cond.instanceMethod yX7_stones, Cond.selects RX7 yX7_stones yX7_stones, Cond.code yX7_stones cX7_stones 2 (some .long), Cond.methodLink RX7 111 yX7_spread, Cond.instanceMethod yX7_spread, Cond.selects RX7 yX7_spread yX7_spread, Cond.code yX7_spread cX7_spread 9 (some .long), Cond.methodLink RX7 97 yX7_around, Cond.instanceMethod yX7_around, Cond.selects RX7 yX7_around yX7_around, Cond.code yX7_around cX7_around 6 (some .long), Cond.fieldLink RX7 16 "EyeBoardModel" "neighbours" "[J", Cond.methodLink RX7 162 yX7_breaths, Cond.instanceMethod yX7_breaths, Cond.selects RX7 yX7_breaths yX7_breaths, Cond.code yX7_breaths cX7_breaths 3 (some .long), Cond.methodLink RX7 129 yX7_free, Cond.instanceMethod yX7_free, Cond.selects RX7 yX7_free yX7_free, Cond.code yX7_free cX7_free 5 (some .long), Cond.constantLong RX7 105 (-1), Cond.methodLink RX7 101 yX7_all]
def wsX7_breath_r3 : List Cond := [Cond.instanceMethod yX7_all, Cond.selects RX7 yX7_all yX7_all, Cond.code yX7_all cX7_all 1 (some .long), Cond.methodLink RX7 115 yX7_many, Cond.static yX7_many, Cond.code yX7_many cX7_many 5 (some .int), Cond.methodLink RX7 107 yX7_least, Cond.static yX7_least, Cond.code yX7_least cX7_least 4 (some .int)]
def wsX7_breath : List Cond := .code yX7_breath cX7_breath 7 (some .int) :: ((wsX7_breath_r1 ++ (wsX7_breath_r2 ++ wsX7_breath_r3)) ++ wsX70)
def wsX7_region_r1 : List Cond := [Cond.constantLong RX7 105 (-1), Cond.fieldLink RX7 24 "EyeBoardModel" "blackAt" "[J", Cond.fieldLink RX7 86 "EyeBoardModel" "acts" "I", Cond.fieldLink RX7 27 "EyeBoardModel" "whiteAt" "[J", Cond.methodLink RX7 93 yX7_in, Cond.static yX7_in, Cond.initialized RX7, Cond.code yX7_in cX7_in 3 (some .boolean), Cond.methodLink RX7 144 yX7_isCrossing, Cond.instanceMethod yX7_isCrossing, Cond.selects RX7 yX7_isCrossing yX7_isCrossing, Cond.code yX7_isCrossing cX7_isCrossing 2 (some .boolean), Cond.methodLink RX7 89 yX7_size, Cond.instanceMethod yX7_size, Cond.selects RX7 yX7_size yX7_size, Cond.code yX7_size cX7_size 1 (some .int), Cond.fieldLink RX7 7 "EyeBoardModel" "wide" "I", Cond.fieldLink RX7 13 "EyeBoardModel" "high" "I", Cond.methodLink RX7 159 yX7_atOf, Cond.instanceMethod yX7_atOf, Cond.selects RX7 yX7_atOf yX7_atOf, Cond.code yX7_atOf cX7_atOf 2 (some .int), Cond.methodLink RX7 101 yX7_all, Cond.instanceMethod yX7_all]
def wsX7_region_r2 : List Cond := [Cond.selects RX7 yX7_all yX7_all, Cond.code yX7_all cX7_all 1 (some .long), Cond.methodLink RX7 165 yX7_stones, Cond.instanceMethod yX7_stones, Cond.selects RX7 yX7_stones yX7_stones, Cond.code yX7_stones cX7_stones 2 (some .long), Cond.methodLink RX7 111 yX7_spread, Cond.instanceMethod yX7_spread, Cond.selects RX7 yX7_spread yX7_spread, Cond.code yX7_spread cX7_spread 9 (some .long), Cond.methodLink RX7 97 yX7_around, Cond.instanceMethod yX7_around, Cond.selects RX7 yX7_around yX7_around, Cond.code yX7_around cX7_around 6 (some .long), Cond.fieldLink RX7 16 "EyeBoardModel" "neighbours" "[J", Cond.methodLink RX7 129 yX7_free, Cond.instanceMethod yX7_free, Cond.selects RX7 yX7_free yX7_free, Cond.code yX7_free cX7_free 5 (some .long), Cond.methodLink RX7 115 yX7_many, Cond.static yX7_many, Cond.code yX7_many cX7_many 5 (some .int), Cond.methodLink RX7 107 yX7_least, Cond.static yX7_least]
def wsX7_region_r3 : List Cond := [Cond.code yX7_least cX7_least 4 (some .int), Cond.methodLink RX7 169 yX7_isVital, Cond.instanceMethod yX7_isVital, Cond.selects RX7 yX7_isVital yX7_isVital, Cond.code yX7_isVital cX7_isVital 5 (some .boolean), Cond.methodLink RX7 162 yX7_breaths, Cond.instanceMethod yX7_breaths, Cond.selects RX7 yX7_breaths yX7_breaths, Cond.code yX7_breaths cX7_breaths 3 (some .long)]
def wsX7_region : List Cond := .code yX7_region cX7_region 11 (some .int) :: ((wsX7_region_r1 ++ (wsX7_region_r2 ++ wsX7_region_r3)) ++ wsX70)
def wsX7_standing_r1 : List Cond := [Cond.methodLink RX7 93 yX7_in, Cond.static yX7_in, Cond.initialized RX7, Cond.code yX7_in cX7_in 3 (some .boolean), Cond.methodLink RX7 180 yX7_stand, Cond.instanceMethod yX7_stand, Cond.selects RX7 yX7_stand yX7_stand, Cond.code yX7_stand cX7_stand 10 (some .long), Cond.constantLong RX7 105 (-1), Cond.methodLink RX7 165 yX7_stones, Cond.instanceMethod yX7_stones, Cond.selects RX7 yX7_stones yX7_stones, Cond.code yX7_stones cX7_stones 2 (some .long), Cond.fieldLink RX7 24 "EyeBoardModel" "blackAt" "[J", Cond.fieldLink RX7 86 "EyeBoardModel" "acts" "I", Cond.fieldLink RX7 27 "EyeBoardModel" "whiteAt" "[J", Cond.methodLink RX7 111 yX7_spread, Cond.instanceMethod yX7_spread, Cond.selects RX7 yX7_spread yX7_spread, Cond.code yX7_spread cX7_spread 9 (some .long), Cond.methodLink RX7 97 yX7_around, Cond.instanceMethod yX7_around, Cond.selects RX7 yX7_around yX7_around, Cond.code yX7_around cX7_around 6 (some .long)]
def wsX7_standing_r2 : List Cond := [Cond.fieldLink RX7 16 "EyeBoardModel" "neighbours" "[J", Cond.methodLink RX7 89 yX7_size, Cond.instanceMethod yX7_size, Cond.selects RX7 yX7_size yX7_size, Cond.code yX7_size cX7_size 1 (some .int), Cond.fieldLink RX7 7 "EyeBoardModel" "wide" "I", Cond.fieldLink RX7 13 "EyeBoardModel" "high" "I", Cond.methodLink RX7 173 yX7_vital, Cond.instanceMethod yX7_vital, Cond.selects RX7 yX7_vital yX7_vital, Cond.code yX7_vital cX7_vital 11 (some .int), Cond.methodLink RX7 101 yX7_all, Cond.instanceMethod yX7_all, Cond.selects RX7 yX7_all yX7_all, Cond.code yX7_all cX7_all 1 (some .long), Cond.methodLink RX7 169 yX7_isVital, Cond.instanceMethod yX7_isVital, Cond.selects RX7 yX7_isVital yX7_isVital, Cond.code yX7_isVital cX7_isVital 5 (some .boolean), Cond.methodLink RX7 129 yX7_free, Cond.instanceMethod yX7_free, Cond.selects RX7 yX7_free yX7_free, Cond.code yX7_free cX7_free 5 (some .long), Cond.methodLink RX7 162 yX7_breaths]
def wsX7_standing_r3 : List Cond := [Cond.instanceMethod yX7_breaths, Cond.selects RX7 yX7_breaths yX7_breaths, Cond.code yX7_breaths cX7_breaths 3 (some .long), Cond.methodLink RX7 115 yX7_many, Cond.static yX7_many, Cond.code yX7_many cX7_many 5 (some .int)]
def wsX7_standing : List Cond := .code yX7_standing cX7_standing 2 (some .int) :: ((wsX7_standing_r1 ++ (wsX7_standing_r2 ++ wsX7_standing_r3)) ++ wsX70)
def wsX7_counts : List Cond := .code yX7_counts cX7_counts 1 none :: ([.fieldLink RX7 183 "EyeBoardModel" "triesMany" "I", .fieldLink RX7 186 "EyeBoardModel" "isSpent" "Z"] ++ wsX70)
def wsX7_chaseBreaths_r1 : List Cond := [Cond.methodLink RX7 111 yX7_spread, Cond.instanceMethod yX7_spread, Cond.selects RX7 yX7_spread yX7_spread, Cond.initialized RX7, Cond.code yX7_spread cX7_spread 9 (some .long), Cond.methodLink RX7 97 yX7_around, Cond.instanceMethod yX7_around, Cond.selects RX7 yX7_around yX7_around, Cond.code yX7_around cX7_around 6 (some .long), Cond.fieldLink RX7 16 "EyeBoardModel" "neighbours" "[J", Cond.methodLink RX7 89 yX7_size, Cond.instanceMethod yX7_size, Cond.selects RX7 yX7_size yX7_size, Cond.code yX7_size cX7_size 1 (some .int), Cond.fieldLink RX7 7 "EyeBoardModel" "wide" "I", Cond.fieldLink RX7 13 "EyeBoardModel" "high" "I", Cond.methodLink RX7 129 yX7_free, Cond.instanceMethod yX7_free, Cond.selects RX7 yX7_free yX7_free, Cond.code yX7_free cX7_free 5 (some .long), Cond.constantLong RX7 105 (-1), Cond.methodLink RX7 101 yX7_all, Cond.instanceMethod yX7_all, Cond.selects RX7 yX7_all yX7_all]
def wsX7_chaseBreaths_r2 : List Cond := [Cond.code yX7_all cX7_all 1 (some .long)]
def wsX7_chaseBreaths : List Cond := .code yX7_chaseBreaths cX7_chaseBreaths 7 (some .long) :: ((wsX7_chaseBreaths_r1 ++ wsX7_chaseBreaths_r2) ++ wsX70)
def wsX7_isAt : List Cond := .code yX7_isAt cX7_isAt 5 (some .boolean) :: ([.fieldLink RX7 122 "EyeBoardModel" "newBlack" "J", .fieldLink RX7 126 "EyeBoardModel" "newWhite" "J"] ++ wsX70)
def wsX7_comes_r1 : List Cond := [Cond.fieldLink RX7 39 "EyeBoardModel" "chaseBlack" "[J", Cond.fieldLink RX7 42 "EyeBoardModel" "chaseWhite" "[J", Cond.fieldLink RX7 55 "EyeBoardModel" "breathsLeft" "[J", Cond.fieldLink RX7 70 "EyeBoardModel" "answering" "[Z", Cond.methodLink RX7 190 yX7_chaseBreaths, Cond.instanceMethod yX7_chaseBreaths, Cond.selects RX7 yX7_chaseBreaths yX7_chaseBreaths, Cond.initialized RX7, Cond.code yX7_chaseBreaths cX7_chaseBreaths 7 (some .long), Cond.methodLink RX7 111 yX7_spread, Cond.instanceMethod yX7_spread, Cond.selects RX7 yX7_spread yX7_spread, Cond.code yX7_spread cX7_spread 9 (some .long), Cond.methodLink RX7 97 yX7_around, Cond.instanceMethod yX7_around, Cond.selects RX7 yX7_around yX7_around, Cond.code yX7_around cX7_around 6 (some .long), Cond.fieldLink RX7 16 "EyeBoardModel" "neighbours" "[J", Cond.methodLink RX7 89 yX7_size, Cond.instanceMethod yX7_size, Cond.selects RX7 yX7_size yX7_size, Cond.code yX7_size cX7_size 1 (some .int), Cond.fieldLink RX7 7 "EyeBoardModel" "wide" "I", Cond.fieldLink RX7 13 "EyeBoardModel" "high" "I"]
def wsX7_comes_r2 : List Cond := [Cond.methodLink RX7 129 yX7_free, Cond.instanceMethod yX7_free, Cond.selects RX7 yX7_free yX7_free, Cond.code yX7_free cX7_free 5 (some .long), Cond.constantLong RX7 105 (-1), Cond.methodLink RX7 101 yX7_all, Cond.instanceMethod yX7_all, Cond.selects RX7 yX7_all yX7_all, Cond.code yX7_all cX7_all 1 (some .long)]
def wsX7_comes : List Cond := .code yX7_comes cX7_comes 8 none :: ((wsX7_comes_r1 ++ wsX7_comes_r2) ++ wsX70)
def wsX7_mayChase_r1 : List Cond := [Cond.fieldLink RX7 39 "EyeBoardModel" "chaseBlack" "[J", Cond.fieldLink RX7 42 "EyeBoardModel" "chaseWhite" "[J", Cond.fieldLink RX7 51 "EyeBoardModel" "hasAhead" "[Z", Cond.fieldLink RX7 45 "EyeBoardModel" "aheadBlack" "[J", Cond.fieldLink RX7 48 "EyeBoardModel" "aheadWhite" "[J", Cond.methodLink RX7 132 yX7_other, Cond.static yX7_other, Cond.initialized RX7, Cond.code yX7_other cX7_other 1 (some .int), Cond.methodLink RX7 136 yX7_laid, Cond.instanceMethod yX7_laid, Cond.selects RX7 yX7_laid yX7_laid, Cond.code yX7_laid cX7_laid 18 (some .int), Cond.fieldLink RX7 16 "EyeBoardModel" "neighbours" "[J", Cond.constantLong RX7 105 (-1), Cond.fieldLink RX7 119 "EyeBoardModel" "taken" "I", Cond.fieldLink RX7 122 "EyeBoardModel" "newBlack" "J", Cond.fieldLink RX7 126 "EyeBoardModel" "newWhite" "J", Cond.methodLink RX7 107 yX7_least, Cond.static yX7_least, Cond.code yX7_least cX7_least 4 (some .int), Cond.methodLink RX7 111 yX7_spread, Cond.instanceMethod yX7_spread, Cond.selects RX7 yX7_spread yX7_spread]
def wsX7_mayChase_r2 : List Cond := [Cond.code yX7_spread cX7_spread 9 (some .long), Cond.methodLink RX7 97 yX7_around, Cond.instanceMethod yX7_around, Cond.selects RX7 yX7_around yX7_around, Cond.code yX7_around cX7_around 6 (some .long), Cond.methodLink RX7 89 yX7_size, Cond.instanceMethod yX7_size, Cond.selects RX7 yX7_size yX7_size, Cond.code yX7_size cX7_size 1 (some .int), Cond.fieldLink RX7 7 "EyeBoardModel" "wide" "I", Cond.fieldLink RX7 13 "EyeBoardModel" "high" "I", Cond.methodLink RX7 101 yX7_all, Cond.instanceMethod yX7_all, Cond.selects RX7 yX7_all yX7_all, Cond.code yX7_all cX7_all 1 (some .long), Cond.methodLink RX7 115 yX7_many, Cond.static yX7_many, Cond.code yX7_many cX7_many 5 (some .int), Cond.methodLink RX7 129 yX7_free, Cond.instanceMethod yX7_free, Cond.selects RX7 yX7_free yX7_free, Cond.code yX7_free cX7_free 5 (some .long), Cond.methodLink RX7 194 yX7_isAt, Cond.instanceMethod yX7_isAt]
def wsX7_mayChase_r3 : List Cond := [Cond.selects RX7 yX7_isAt yX7_isAt, Cond.code yX7_isAt cX7_isAt 5 (some .boolean)]
def wsX7_mayChase : List Cond := .code yX7_mayChase cX7_mayChase 4 (some .boolean) :: ((wsX7_mayChase_r1 ++ (wsX7_mayChase_r2 ++ wsX7_mayChase_r3)) ++ wsX70)
def wsX7_findAnswers_r1 : List Cond := [Cond.fieldLink RX7 58 "EyeBoardModel" "laidBlack" "[J", Cond.fieldLink RX7 61 "EyeBoardModel" "laidWhite" "[J", Cond.fieldLink RX7 67 "EyeBoardModel" "firstAnswer" "[I", Cond.fieldLink RX7 64 "EyeBoardModel" "answersLeft" "[J", Cond.constantLong RX7 105 (-1), Cond.fieldLink RX7 70 "EyeBoardModel" "answering" "[Z", Cond.methodLink RX7 111 yX7_spread, Cond.instanceMethod yX7_spread, Cond.selects RX7 yX7_spread yX7_spread, Cond.initialized RX7, Cond.code yX7_spread cX7_spread 9 (some .long), Cond.methodLink RX7 97 yX7_around, Cond.instanceMethod yX7_around, Cond.selects RX7 yX7_around yX7_around, Cond.code yX7_around cX7_around 6 (some .long), Cond.fieldLink RX7 16 "EyeBoardModel" "neighbours" "[J", Cond.methodLink RX7 89 yX7_size, Cond.instanceMethod yX7_size, Cond.selects RX7 yX7_size yX7_size, Cond.code yX7_size cX7_size 1 (some .int), Cond.fieldLink RX7 7 "EyeBoardModel" "wide" "I", Cond.fieldLink RX7 13 "EyeBoardModel" "high" "I", Cond.methodLink RX7 129 yX7_free, Cond.instanceMethod yX7_free]
def wsX7_findAnswers_r2 : List Cond := [Cond.selects RX7 yX7_free yX7_free, Cond.code yX7_free cX7_free 5 (some .long), Cond.methodLink RX7 101 yX7_all, Cond.instanceMethod yX7_all, Cond.selects RX7 yX7_all yX7_all, Cond.code yX7_all cX7_all 1 (some .long), Cond.methodLink RX7 107 yX7_least, Cond.static yX7_least, Cond.code yX7_least cX7_least 4 (some .int), Cond.methodLink RX7 115 yX7_many, Cond.static yX7_many, Cond.code yX7_many cX7_many 5 (some .int)]
def wsX7_findAnswers : List Cond := .code yX7_findAnswers cX7_findAnswers 22 none :: ((wsX7_findAnswers_r1 ++ wsX7_findAnswers_r2) ++ wsX70)
def wsX7_nextAnswer : List Cond := .code yX7_nextAnswer cX7_nextAnswer 3 (some .int) :: ([.fieldLink RX7 67 "EyeBoardModel" "firstAnswer" "[I", .fieldLink RX7 64 "EyeBoardModel" "answersLeft" "[J", .constantLong RX7 105 (-1), .methodLink RX7 107 yX7_least, .static yX7_least, .initialized RX7, .code yX7_least cX7_least 4 (some .int)] ++ wsX70)
def wsX7_mayAnswer_r1 : List Cond := [Cond.fieldLink RX7 58 "EyeBoardModel" "laidBlack" "[J", Cond.fieldLink RX7 61 "EyeBoardModel" "laidWhite" "[J", Cond.fieldLink RX7 39 "EyeBoardModel" "chaseBlack" "[J", Cond.fieldLink RX7 42 "EyeBoardModel" "chaseWhite" "[J", Cond.methodLink RX7 136 yX7_laid, Cond.instanceMethod yX7_laid, Cond.selects RX7 yX7_laid yX7_laid, Cond.initialized RX7, Cond.code yX7_laid cX7_laid 18 (some .int), Cond.fieldLink RX7 16 "EyeBoardModel" "neighbours" "[J", Cond.constantLong RX7 105 (-1), Cond.fieldLink RX7 119 "EyeBoardModel" "taken" "I", Cond.fieldLink RX7 122 "EyeBoardModel" "newBlack" "J", Cond.fieldLink RX7 126 "EyeBoardModel" "newWhite" "J", Cond.methodLink RX7 107 yX7_least, Cond.static yX7_least, Cond.code yX7_least cX7_least 4 (some .int), Cond.methodLink RX7 111 yX7_spread, Cond.instanceMethod yX7_spread, Cond.selects RX7 yX7_spread yX7_spread, Cond.code yX7_spread cX7_spread 9 (some .long), Cond.methodLink RX7 97 yX7_around, Cond.instanceMethod yX7_around, Cond.selects RX7 yX7_around yX7_around]
def wsX7_mayAnswer_r2 : List Cond := [Cond.code yX7_around cX7_around 6 (some .long), Cond.methodLink RX7 89 yX7_size, Cond.instanceMethod yX7_size, Cond.selects RX7 yX7_size yX7_size, Cond.code yX7_size cX7_size 1 (some .int), Cond.fieldLink RX7 7 "EyeBoardModel" "wide" "I", Cond.fieldLink RX7 13 "EyeBoardModel" "high" "I", Cond.methodLink RX7 101 yX7_all, Cond.instanceMethod yX7_all, Cond.selects RX7 yX7_all yX7_all, Cond.code yX7_all cX7_all 1 (some .long), Cond.methodLink RX7 115 yX7_many, Cond.static yX7_many, Cond.code yX7_many cX7_many 5 (some .int), Cond.methodLink RX7 129 yX7_free, Cond.instanceMethod yX7_free, Cond.selects RX7 yX7_free yX7_free, Cond.code yX7_free cX7_free 5 (some .long), Cond.methodLink RX7 194 yX7_isAt, Cond.instanceMethod yX7_isAt, Cond.selects RX7 yX7_isAt yX7_isAt, Cond.code yX7_isAt cX7_isAt 5 (some .boolean)]
def wsX7_mayAnswer : List Cond := .code yX7_mayAnswer cX7_mayAnswer 4 (some .boolean) :: ((wsX7_mayAnswer_r1 ++ wsX7_mayAnswer_r2) ++ wsX70)
def wsX7_isCaught_r1 : List Cond := [Cond.fieldLink RX7 51 "EyeBoardModel" "hasAhead" "[Z", Cond.fieldLink RX7 24 "EyeBoardModel" "blackAt" "[J", Cond.fieldLink RX7 86 "EyeBoardModel" "acts" "I", Cond.fieldLink RX7 27 "EyeBoardModel" "whiteAt" "[J", Cond.fieldLink RX7 186 "EyeBoardModel" "isSpent" "Z", Cond.fieldLink RX7 55 "EyeBoardModel" "breathsLeft" "[J", Cond.fieldLink RX7 70 "EyeBoardModel" "answering" "[Z", Cond.fieldLink RX7 45 "EyeBoardModel" "aheadBlack" "[J", Cond.fieldLink RX7 58 "EyeBoardModel" "laidBlack" "[J", Cond.fieldLink RX7 48 "EyeBoardModel" "aheadWhite" "[J", Cond.fieldLink RX7 61 "EyeBoardModel" "laidWhite" "[J", Cond.fieldLink RX7 122 "EyeBoardModel" "newBlack" "J", Cond.fieldLink RX7 126 "EyeBoardModel" "newWhite" "J", Cond.constantLong RX7 105 (-1), Cond.methodLink RX7 197 yX7_comes, Cond.instanceMethod yX7_comes, Cond.selects RX7 yX7_comes yX7_comes, Cond.initialized RX7, Cond.code yX7_comes cX7_comes 8 none, Cond.fieldLink RX7 39 "EyeBoardModel" "chaseBlack" "[J", Cond.fieldLink RX7 42 "EyeBoardModel" "chaseWhite" "[J", Cond.methodLink RX7 190 yX7_chaseBreaths, Cond.instanceMethod yX7_chaseBreaths, Cond.selects RX7 yX7_chaseBreaths yX7_chaseBreaths]
def wsX7_isCaught_r2 : List Cond := [Cond.code yX7_chaseBreaths cX7_chaseBreaths 7 (some .long), Cond.methodLink RX7 111 yX7_spread, Cond.instanceMethod yX7_spread, Cond.selects RX7 yX7_spread yX7_spread, Cond.code yX7_spread cX7_spread 9 (some .long), Cond.methodLink RX7 97 yX7_around, Cond.instanceMethod yX7_around, Cond.selects RX7 yX7_around yX7_around, Cond.code yX7_around cX7_around 6 (some .long), Cond.fieldLink RX7 16 "EyeBoardModel" "neighbours" "[J", Cond.methodLink RX7 89 yX7_size, Cond.instanceMethod yX7_size, Cond.selects RX7 yX7_size yX7_size, Cond.code yX7_size cX7_size 1 (some .int), Cond.fieldLink RX7 7 "EyeBoardModel" "wide" "I", Cond.fieldLink RX7 13 "EyeBoardModel" "high" "I", Cond.methodLink RX7 129 yX7_free, Cond.instanceMethod yX7_free, Cond.selects RX7 yX7_free yX7_free, Cond.code yX7_free cX7_free 5 (some .long), Cond.methodLink RX7 101 yX7_all, Cond.instanceMethod yX7_all, Cond.selects RX7 yX7_all yX7_all, Cond.code yX7_all cX7_all 1 (some .long)]
def wsX7_isCaught_r3 : List Cond := [Cond.methodLink RX7 115 yX7_many, Cond.static yX7_many, Cond.code yX7_many cX7_many 5 (some .int), Cond.methodLink RX7 107 yX7_least, Cond.static yX7_least, Cond.code yX7_least cX7_least 4 (some .int), Cond.methodLink RX7 201 yX7_mayChase, Cond.instanceMethod yX7_mayChase, Cond.selects RX7 yX7_mayChase yX7_mayChase, Cond.code yX7_mayChase cX7_mayChase 4 (some .boolean), Cond.methodLink RX7 132 yX7_other, Cond.static yX7_other, Cond.code yX7_other cX7_other 1 (some .int), Cond.methodLink RX7 136 yX7_laid, Cond.instanceMethod yX7_laid, Cond.selects RX7 yX7_laid yX7_laid, Cond.code yX7_laid cX7_laid 18 (some .int), Cond.fieldLink RX7 119 "EyeBoardModel" "taken" "I", Cond.methodLink RX7 194 yX7_isAt, Cond.instanceMethod yX7_isAt, Cond.selects RX7 yX7_isAt yX7_isAt, Cond.code yX7_isAt cX7_isAt 5 (some .boolean), Cond.methodLink RX7 204 yX7_counts, Cond.instanceMethod yX7_counts]
def wsX7_isCaught_r4 : List Cond := [Cond.selects RX7 yX7_counts yX7_counts, Cond.code yX7_counts cX7_counts 1 none, Cond.fieldLink RX7 183 "EyeBoardModel" "triesMany" "I", Cond.methodLink RX7 207 yX7_nextAnswer, Cond.instanceMethod yX7_nextAnswer, Cond.selects RX7 yX7_nextAnswer yX7_nextAnswer, Cond.code yX7_nextAnswer cX7_nextAnswer 3 (some .int), Cond.fieldLink RX7 67 "EyeBoardModel" "firstAnswer" "[I", Cond.fieldLink RX7 64 "EyeBoardModel" "answersLeft" "[J", Cond.methodLink RX7 210 yX7_mayAnswer, Cond.instanceMethod yX7_mayAnswer, Cond.selects RX7 yX7_mayAnswer yX7_mayAnswer, Cond.code yX7_mayAnswer cX7_mayAnswer 4 (some .boolean), Cond.methodLink RX7 213 yX7_findAnswers, Cond.instanceMethod yX7_findAnswers, Cond.selects RX7 yX7_findAnswers yX7_findAnswers, Cond.code yX7_findAnswers cX7_findAnswers 22 none]
def wsX7_isCaught : List Cond := .code yX7_isCaught cX7_isCaught 8 (some .boolean) :: ((wsX7_isCaught_r1 ++ (wsX7_isCaught_r2 ++ (wsX7_isCaught_r3 ++ wsX7_isCaught_r4))) ++ wsX70)
def wsX7_chase_r1 : List Cond := [Cond.fieldLink RX7 183 "EyeBoardModel" "triesMany" "I", Cond.fieldLink RX7 186 "EyeBoardModel" "isSpent" "Z", Cond.methodLink RX7 144 yX7_isCrossing, Cond.instanceMethod yX7_isCrossing, Cond.selects RX7 yX7_isCrossing yX7_isCrossing, Cond.initialized RX7, Cond.code yX7_isCrossing cX7_isCrossing 2 (some .boolean), Cond.methodLink RX7 89 yX7_size, Cond.instanceMethod yX7_size, Cond.selects RX7 yX7_size yX7_size, Cond.code yX7_size cX7_size 1 (some .int), Cond.fieldLink RX7 7 "EyeBoardModel" "wide" "I", Cond.fieldLink RX7 13 "EyeBoardModel" "high" "I", Cond.methodLink RX7 93 yX7_in, Cond.static yX7_in, Cond.code yX7_in cX7_in 3 (some .boolean), Cond.methodLink RX7 159 yX7_atOf, Cond.instanceMethod yX7_atOf, Cond.selects RX7 yX7_atOf yX7_atOf, Cond.code yX7_atOf cX7_atOf 2 (some .int), Cond.fieldLink RX7 24 "EyeBoardModel" "blackAt" "[J", Cond.fieldLink RX7 86 "EyeBoardModel" "acts" "I", Cond.fieldLink RX7 27 "EyeBoardModel" "whiteAt" "[J", Cond.methodLink RX7 216 yX7_isCaught]
def wsX7_chase_r2 : List Cond := [Cond.instanceMethod yX7_isCaught, Cond.selects RX7 yX7_isCaught yX7_isCaught, Cond.code yX7_isCaught cX7_isCaught 8 (some .boolean), Cond.fieldLink RX7 51 "EyeBoardModel" "hasAhead" "[Z", Cond.fieldLink RX7 55 "EyeBoardModel" "breathsLeft" "[J", Cond.fieldLink RX7 70 "EyeBoardModel" "answering" "[Z", Cond.fieldLink RX7 45 "EyeBoardModel" "aheadBlack" "[J", Cond.fieldLink RX7 58 "EyeBoardModel" "laidBlack" "[J", Cond.fieldLink RX7 48 "EyeBoardModel" "aheadWhite" "[J", Cond.fieldLink RX7 61 "EyeBoardModel" "laidWhite" "[J", Cond.fieldLink RX7 122 "EyeBoardModel" "newBlack" "J", Cond.fieldLink RX7 126 "EyeBoardModel" "newWhite" "J", Cond.constantLong RX7 105 (-1), Cond.methodLink RX7 197 yX7_comes, Cond.instanceMethod yX7_comes, Cond.selects RX7 yX7_comes yX7_comes, Cond.code yX7_comes cX7_comes 8 none, Cond.fieldLink RX7 39 "EyeBoardModel" "chaseBlack" "[J", Cond.fieldLink RX7 42 "EyeBoardModel" "chaseWhite" "[J", Cond.methodLink RX7 190 yX7_chaseBreaths, Cond.instanceMethod yX7_chaseBreaths, Cond.selects RX7 yX7_chaseBreaths yX7_chaseBreaths, Cond.code yX7_chaseBreaths cX7_chaseBreaths 7 (some .long), Cond.methodLink RX7 111 yX7_spread]
def wsX7_chase_r3 : List Cond := [Cond.instanceMethod yX7_spread, Cond.selects RX7 yX7_spread yX7_spread, Cond.code yX7_spread cX7_spread 9 (some .long), Cond.methodLink RX7 97 yX7_around, Cond.instanceMethod yX7_around, Cond.selects RX7 yX7_around yX7_around, Cond.code yX7_around cX7_around 6 (some .long), Cond.fieldLink RX7 16 "EyeBoardModel" "neighbours" "[J", Cond.methodLink RX7 129 yX7_free, Cond.instanceMethod yX7_free, Cond.selects RX7 yX7_free yX7_free, Cond.code yX7_free cX7_free 5 (some .long), Cond.methodLink RX7 101 yX7_all, Cond.instanceMethod yX7_all, Cond.selects RX7 yX7_all yX7_all, Cond.code yX7_all cX7_all 1 (some .long), Cond.methodLink RX7 115 yX7_many, Cond.static yX7_many, Cond.code yX7_many cX7_many 5 (some .int), Cond.methodLink RX7 107 yX7_least, Cond.static yX7_least, Cond.code yX7_least cX7_least 4 (some .int), Cond.methodLink RX7 201 yX7_mayChase, Cond.instanceMethod yX7_mayChase]
def wsX7_chase_r4 : List Cond := [Cond.selects RX7 yX7_mayChase yX7_mayChase, Cond.code yX7_mayChase cX7_mayChase 4 (some .boolean), Cond.methodLink RX7 132 yX7_other, Cond.static yX7_other, Cond.code yX7_other cX7_other 1 (some .int), Cond.methodLink RX7 136 yX7_laid, Cond.instanceMethod yX7_laid, Cond.selects RX7 yX7_laid yX7_laid, Cond.code yX7_laid cX7_laid 18 (some .int), Cond.fieldLink RX7 119 "EyeBoardModel" "taken" "I", Cond.methodLink RX7 194 yX7_isAt, Cond.instanceMethod yX7_isAt, Cond.selects RX7 yX7_isAt yX7_isAt, Cond.code yX7_isAt cX7_isAt 5 (some .boolean), Cond.methodLink RX7 204 yX7_counts, Cond.instanceMethod yX7_counts, Cond.selects RX7 yX7_counts yX7_counts, Cond.code yX7_counts cX7_counts 1 none, Cond.methodLink RX7 207 yX7_nextAnswer, Cond.instanceMethod yX7_nextAnswer, Cond.selects RX7 yX7_nextAnswer yX7_nextAnswer, Cond.code yX7_nextAnswer cX7_nextAnswer 3 (some .int), Cond.fieldLink RX7 67 "EyeBoardModel" "firstAnswer" "[I", Cond.fieldLink RX7 64 "EyeBoardModel" "answersLeft" "[J"]
def wsX7_chase_r5 : List Cond := [Cond.methodLink RX7 210 yX7_mayAnswer, Cond.instanceMethod yX7_mayAnswer, Cond.selects RX7 yX7_mayAnswer yX7_mayAnswer, Cond.code yX7_mayAnswer cX7_mayAnswer 4 (some .boolean), Cond.methodLink RX7 213 yX7_findAnswers, Cond.instanceMethod yX7_findAnswers, Cond.selects RX7 yX7_findAnswers yX7_findAnswers, Cond.code yX7_findAnswers cX7_findAnswers 22 none]
def wsX7_chase : List Cond := .code yX7_chase cX7_chase 4 (some .int) :: ((wsX7_chase_r1 ++ (wsX7_chase_r2 ++ (wsX7_chase_r3 ++ (wsX7_chase_r4 ++ wsX7_chase_r5)))) ++ wsX70)
def wsX7_isGone : List Cond := .code yX7_isGone cX7_isGone 4 (some .boolean) :: ([.fieldLink RX7 24 "EyeBoardModel" "blackAt" "[J", .fieldLink RX7 27 "EyeBoardModel" "whiteAt" "[J"] ++ wsX70)
def wsX7_isTaken_r1 : List Cond := [Cond.fieldLink RX7 76 "EyeBoardModel" "next" "[I", Cond.fieldLink RX7 186 "EyeBoardModel" "isSpent" "Z", Cond.fieldLink RX7 86 "EyeBoardModel" "acts" "I", Cond.fieldLink RX7 30 "EyeBoardModel" "moveAt" "[I", Cond.fieldLink RX7 24 "EyeBoardModel" "blackAt" "[J", Cond.fieldLink RX7 122 "EyeBoardModel" "newBlack" "J", Cond.fieldLink RX7 27 "EyeBoardModel" "whiteAt" "[J", Cond.fieldLink RX7 126 "EyeBoardModel" "newWhite" "J", Cond.methodLink RX7 89 yX7_size, Cond.instanceMethod yX7_size, Cond.selects RX7 yX7_size yX7_size, Cond.initialized RX7, Cond.code yX7_size cX7_size 1 (some .int), Cond.fieldLink RX7 7 "EyeBoardModel" "wide" "I", Cond.fieldLink RX7 13 "EyeBoardModel" "high" "I", Cond.methodLink RX7 148 yX7_reason, Cond.instanceMethod yX7_reason, Cond.selects RX7 yX7_reason yX7_reason, Cond.code yX7_reason cX7_reason 5 (some .int), Cond.methodLink RX7 136 yX7_laid, Cond.instanceMethod yX7_laid, Cond.selects RX7 yX7_laid yX7_laid, Cond.code yX7_laid cX7_laid 18 (some .int), Cond.fieldLink RX7 16 "EyeBoardModel" "neighbours" "[J"]
def wsX7_isTaken_r2 : List Cond := [Cond.constantLong RX7 105 (-1), Cond.fieldLink RX7 119 "EyeBoardModel" "taken" "I", Cond.methodLink RX7 107 yX7_least, Cond.static yX7_least, Cond.code yX7_least cX7_least 4 (some .int), Cond.methodLink RX7 111 yX7_spread, Cond.instanceMethod yX7_spread, Cond.selects RX7 yX7_spread yX7_spread, Cond.code yX7_spread cX7_spread 9 (some .long), Cond.methodLink RX7 97 yX7_around, Cond.instanceMethod yX7_around, Cond.selects RX7 yX7_around yX7_around, Cond.code yX7_around cX7_around 6 (some .long), Cond.methodLink RX7 101 yX7_all, Cond.instanceMethod yX7_all, Cond.selects RX7 yX7_all yX7_all, Cond.code yX7_all cX7_all 1 (some .long), Cond.methodLink RX7 115 yX7_many, Cond.static yX7_many, Cond.code yX7_many cX7_many 5 (some .int), Cond.methodLink RX7 129 yX7_free, Cond.instanceMethod yX7_free, Cond.selects RX7 yX7_free yX7_free, Cond.code yX7_free cX7_free 5 (some .long)]
def wsX7_isTaken_r3 : List Cond := [Cond.methodLink RX7 140 yX7_isAgainst, Cond.instanceMethod yX7_isAgainst, Cond.selects RX7 yX7_isAgainst yX7_isAgainst, Cond.code yX7_isAgainst cX7_isAgainst 4 (some .boolean), Cond.fieldLink RX7 83 "EyeBoardModel" "law" "I", Cond.methodLink RX7 132 yX7_other, Cond.static yX7_other, Cond.code yX7_other cX7_other 1 (some .int), Cond.methodLink RX7 204 yX7_counts, Cond.instanceMethod yX7_counts, Cond.selects RX7 yX7_counts yX7_counts, Cond.code yX7_counts cX7_counts 1 none, Cond.fieldLink RX7 183 "EyeBoardModel" "triesMany" "I", Cond.methodLink RX7 219 yX7_isGone, Cond.instanceMethod yX7_isGone, Cond.selects RX7 yX7_isGone yX7_isGone, Cond.code yX7_isGone cX7_isGone 4 (some .boolean)]
def wsX7_isTaken : List Cond := .code yX7_isTaken cX7_isTaken 12 (some .boolean) :: ((wsX7_isTaken_r1 ++ (wsX7_isTaken_r2 ++ wsX7_isTaken_r3)) ++ wsX70)
def wsX7_fight_r1 : List Cond := [Cond.fieldLink RX7 183 "EyeBoardModel" "triesMany" "I", Cond.fieldLink RX7 186 "EyeBoardModel" "isSpent" "Z", Cond.fieldLink RX7 30 "EyeBoardModel" "moveAt" "[I", Cond.fieldLink RX7 86 "EyeBoardModel" "acts" "I", Cond.fieldLink RX7 76 "EyeBoardModel" "next" "[I", Cond.fieldLink RX7 73 "EyeBoardModel" "found" "I", Cond.methodLink RX7 144 yX7_isCrossing, Cond.instanceMethod yX7_isCrossing, Cond.selects RX7 yX7_isCrossing yX7_isCrossing, Cond.initialized RX7, Cond.code yX7_isCrossing cX7_isCrossing 2 (some .boolean), Cond.methodLink RX7 89 yX7_size, Cond.instanceMethod yX7_size, Cond.selects RX7 yX7_size yX7_size, Cond.code yX7_size cX7_size 1 (some .int), Cond.fieldLink RX7 7 "EyeBoardModel" "wide" "I", Cond.fieldLink RX7 13 "EyeBoardModel" "high" "I", Cond.methodLink RX7 93 yX7_in, Cond.static yX7_in, Cond.code yX7_in cX7_in 3 (some .boolean), Cond.methodLink RX7 159 yX7_atOf, Cond.instanceMethod yX7_atOf, Cond.selects RX7 yX7_atOf yX7_atOf, Cond.code yX7_atOf cX7_atOf 2 (some .int)]
def wsX7_fight_r2 : List Cond := [Cond.fieldLink RX7 24 "EyeBoardModel" "blackAt" "[J", Cond.fieldLink RX7 27 "EyeBoardModel" "whiteAt" "[J", Cond.methodLink RX7 222 yX7_isTaken, Cond.instanceMethod yX7_isTaken, Cond.selects RX7 yX7_isTaken yX7_isTaken, Cond.code yX7_isTaken cX7_isTaken 12 (some .boolean), Cond.fieldLink RX7 122 "EyeBoardModel" "newBlack" "J", Cond.fieldLink RX7 126 "EyeBoardModel" "newWhite" "J", Cond.methodLink RX7 148 yX7_reason, Cond.instanceMethod yX7_reason, Cond.selects RX7 yX7_reason yX7_reason, Cond.code yX7_reason cX7_reason 5 (some .int), Cond.methodLink RX7 136 yX7_laid, Cond.instanceMethod yX7_laid, Cond.selects RX7 yX7_laid yX7_laid, Cond.code yX7_laid cX7_laid 18 (some .int), Cond.fieldLink RX7 16 "EyeBoardModel" "neighbours" "[J", Cond.constantLong RX7 105 (-1), Cond.fieldLink RX7 119 "EyeBoardModel" "taken" "I", Cond.methodLink RX7 107 yX7_least, Cond.static yX7_least, Cond.code yX7_least cX7_least 4 (some .int), Cond.methodLink RX7 111 yX7_spread, Cond.instanceMethod yX7_spread]
def wsX7_fight_r3 : List Cond := [Cond.selects RX7 yX7_spread yX7_spread, Cond.code yX7_spread cX7_spread 9 (some .long), Cond.methodLink RX7 97 yX7_around, Cond.instanceMethod yX7_around, Cond.selects RX7 yX7_around yX7_around, Cond.code yX7_around cX7_around 6 (some .long), Cond.methodLink RX7 101 yX7_all, Cond.instanceMethod yX7_all, Cond.selects RX7 yX7_all yX7_all, Cond.code yX7_all cX7_all 1 (some .long), Cond.methodLink RX7 115 yX7_many, Cond.static yX7_many, Cond.code yX7_many cX7_many 5 (some .int), Cond.methodLink RX7 129 yX7_free, Cond.instanceMethod yX7_free, Cond.selects RX7 yX7_free yX7_free, Cond.code yX7_free cX7_free 5 (some .long), Cond.methodLink RX7 140 yX7_isAgainst, Cond.instanceMethod yX7_isAgainst, Cond.selects RX7 yX7_isAgainst yX7_isAgainst, Cond.code yX7_isAgainst cX7_isAgainst 4 (some .boolean), Cond.fieldLink RX7 83 "EyeBoardModel" "law" "I", Cond.methodLink RX7 132 yX7_other, Cond.static yX7_other]
def wsX7_fight_r4 : List Cond := [Cond.code yX7_other cX7_other 1 (some .int), Cond.methodLink RX7 204 yX7_counts, Cond.instanceMethod yX7_counts, Cond.selects RX7 yX7_counts yX7_counts, Cond.code yX7_counts cX7_counts 1 none, Cond.methodLink RX7 219 yX7_isGone, Cond.instanceMethod yX7_isGone, Cond.selects RX7 yX7_isGone yX7_isGone, Cond.code yX7_isGone cX7_isGone 4 (some .boolean)]
def wsX7_fight : List Cond := .code yX7_fight cX7_fight 5 (some .int) :: ((wsX7_fight_r1 ++ (wsX7_fight_r2 ++ (wsX7_fight_r3 ++ wsX7_fight_r4))) ++ wsX70)
def wsX7_tries : List Cond := .code yX7_tries cX7_tries 1 (some .int) :: ([.fieldLink RX7 183 "EyeBoardModel" "triesMany" "I"] ++ wsX70)
def wsX7_first : List Cond := .code yX7_first cX7_first 1 (some .int) :: ([.fieldLink RX7 73 "EyeBoardModel" "found" "I"] ++ wsX70)
def wsX7_pointsOf_r1 : List Cond := [Cond.fieldLink RX7 24 "EyeBoardModel" "blackAt" "[J", Cond.fieldLink RX7 86 "EyeBoardModel" "acts" "I", Cond.fieldLink RX7 27 "EyeBoardModel" "whiteAt" "[J", Cond.constantLong RX7 105 (-1), Cond.fieldLink RX7 36 "EyeBoardModel" "takenWhite" "[I", Cond.fieldLink RX7 33 "EyeBoardModel" "takenBlack" "[I", Cond.methodLink RX7 129 yX7_free, Cond.instanceMethod yX7_free, Cond.selects RX7 yX7_free yX7_free, Cond.initialized RX7, Cond.code yX7_free cX7_free 5 (some .long), Cond.methodLink RX7 101 yX7_all, Cond.instanceMethod yX7_all, Cond.selects RX7 yX7_all yX7_all, Cond.code yX7_all cX7_all 1 (some .long), Cond.methodLink RX7 89 yX7_size, Cond.instanceMethod yX7_size, Cond.selects RX7 yX7_size yX7_size, Cond.code yX7_size cX7_size 1 (some .int), Cond.fieldLink RX7 7 "EyeBoardModel" "wide" "I", Cond.fieldLink RX7 13 "EyeBoardModel" "high" "I", Cond.methodLink RX7 111 yX7_spread, Cond.instanceMethod yX7_spread, Cond.selects RX7 yX7_spread yX7_spread]
def wsX7_pointsOf_r2 : List Cond := [Cond.code yX7_spread cX7_spread 9 (some .long), Cond.methodLink RX7 97 yX7_around, Cond.instanceMethod yX7_around, Cond.selects RX7 yX7_around yX7_around, Cond.code yX7_around cX7_around 6 (some .long), Cond.fieldLink RX7 16 "EyeBoardModel" "neighbours" "[J", Cond.methodLink RX7 165 yX7_stones, Cond.instanceMethod yX7_stones, Cond.selects RX7 yX7_stones yX7_stones, Cond.code yX7_stones cX7_stones 2 (some .long), Cond.methodLink RX7 132 yX7_other, Cond.static yX7_other, Cond.code yX7_other cX7_other 1 (some .int), Cond.methodLink RX7 115 yX7_many, Cond.static yX7_many, Cond.code yX7_many cX7_many 5 (some .int)]
def wsX7_pointsOf : List Cond := .code yX7_pointsOf cX7_pointsOf 12 (some .int) :: ((wsX7_pointsOf_r1 ++ wsX7_pointsOf_r2) ++ wsX70)
def wsX7_points_r1 : List Cond := [Cond.methodLink RX7 93 yX7_in, Cond.static yX7_in, Cond.initialized RX7, Cond.code yX7_in cX7_in 3 (some .boolean), Cond.methodLink RX7 225 yX7_pointsOf, Cond.instanceMethod yX7_pointsOf, Cond.selects RX7 yX7_pointsOf yX7_pointsOf, Cond.code yX7_pointsOf cX7_pointsOf 12 (some .int), Cond.fieldLink RX7 24 "EyeBoardModel" "blackAt" "[J", Cond.fieldLink RX7 86 "EyeBoardModel" "acts" "I", Cond.fieldLink RX7 27 "EyeBoardModel" "whiteAt" "[J", Cond.constantLong RX7 105 (-1), Cond.fieldLink RX7 36 "EyeBoardModel" "takenWhite" "[I", Cond.fieldLink RX7 33 "EyeBoardModel" "takenBlack" "[I", Cond.methodLink RX7 129 yX7_free, Cond.instanceMethod yX7_free, Cond.selects RX7 yX7_free yX7_free, Cond.code yX7_free cX7_free 5 (some .long), Cond.methodLink RX7 101 yX7_all, Cond.instanceMethod yX7_all, Cond.selects RX7 yX7_all yX7_all, Cond.code yX7_all cX7_all 1 (some .long), Cond.methodLink RX7 89 yX7_size, Cond.instanceMethod yX7_size]
def wsX7_points_r2 : List Cond := [Cond.selects RX7 yX7_size yX7_size, Cond.code yX7_size cX7_size 1 (some .int), Cond.fieldLink RX7 7 "EyeBoardModel" "wide" "I", Cond.fieldLink RX7 13 "EyeBoardModel" "high" "I", Cond.methodLink RX7 111 yX7_spread, Cond.instanceMethod yX7_spread, Cond.selects RX7 yX7_spread yX7_spread, Cond.code yX7_spread cX7_spread 9 (some .long), Cond.methodLink RX7 97 yX7_around, Cond.instanceMethod yX7_around, Cond.selects RX7 yX7_around yX7_around, Cond.code yX7_around cX7_around 6 (some .long), Cond.fieldLink RX7 16 "EyeBoardModel" "neighbours" "[J", Cond.methodLink RX7 165 yX7_stones, Cond.instanceMethod yX7_stones, Cond.selects RX7 yX7_stones yX7_stones, Cond.code yX7_stones cX7_stones 2 (some .long), Cond.methodLink RX7 132 yX7_other, Cond.static yX7_other, Cond.code yX7_other cX7_other 1 (some .int), Cond.methodLink RX7 115 yX7_many, Cond.static yX7_many, Cond.code yX7_many cX7_many 5 (some .int)]
def wsX7_points : List Cond := .code yX7_points cX7_points 3 (some .int) :: ((wsX7_points_r1 ++ wsX7_points_r2) ++ wsX70)
def wsX7_count : List Cond := .code yX7_count cX7_count 2 (some .int) :: ([.fieldLink RX7 86 "EyeBoardModel" "acts" "I", .fieldLink RX7 30 "EyeBoardModel" "moveAt" "[I", .fieldLink RX7 24 "EyeBoardModel" "blackAt" "[J", .fieldLink RX7 27 "EyeBoardModel" "whiteAt" "[J", .fieldLink RX7 33 "EyeBoardModel" "takenBlack" "[I", .fieldLink RX7 36 "EyeBoardModel" "takenWhite" "[I", .fieldLink RX7 7 "EyeBoardModel" "wide" "I", .fieldLink RX7 13 "EyeBoardModel" "high" "I", .fieldLink RX7 83 "EyeBoardModel" "law" "I", .methodLink RX7 115 yX7_many, .static yX7_many, .initialized RX7, .code yX7_many cX7_many 5 (some .int), .methodLink RX7 156 yX7_passes, .instanceMethod yX7_passes, .selects RX7 yX7_passes yX7_passes, .code yX7_passes cX7_passes 2 (some .int), .fieldLink RX7 20 "EyeBoardModel" "act" "[I", .methodLink RX7 89 yX7_size, .instanceMethod yX7_size, .selects RX7 yX7_size yX7_size, .code yX7_size cX7_size 1 (some .int)] ++ wsX70)
def wsX7_act : List Cond := .code yX7_act cX7_act 2 (some .int) :: ([.fieldLink RX7 86 "EyeBoardModel" "acts" "I", .fieldLink RX7 20 "EyeBoardModel" "act" "[I", .methodLink RX7 93 yX7_in, .static yX7_in, .initialized RX7, .code yX7_in cX7_in 3 (some .boolean)] ++ wsX70)
def wsX7_digest_r1 : List Cond := [Cond.constantLong RX7 229 (47), Cond.constantLong RX7 231 (31), Cond.fieldLink RX7 86 "EyeBoardModel" "acts" "I", Cond.fieldLink RX7 20 "EyeBoardModel" "act" "[I", Cond.methodLink RX7 233 yX7_count, Cond.instanceMethod yX7_count, Cond.selects RX7 yX7_count yX7_count, Cond.initialized RX7, Cond.code yX7_count cX7_count 2 (some .int), Cond.fieldLink RX7 30 "EyeBoardModel" "moveAt" "[I", Cond.fieldLink RX7 24 "EyeBoardModel" "blackAt" "[J", Cond.fieldLink RX7 27 "EyeBoardModel" "whiteAt" "[J", Cond.fieldLink RX7 33 "EyeBoardModel" "takenBlack" "[I", Cond.fieldLink RX7 36 "EyeBoardModel" "takenWhite" "[I", Cond.fieldLink RX7 7 "EyeBoardModel" "wide" "I", Cond.fieldLink RX7 13 "EyeBoardModel" "high" "I", Cond.fieldLink RX7 83 "EyeBoardModel" "law" "I", Cond.methodLink RX7 115 yX7_many, Cond.static yX7_many, Cond.code yX7_many cX7_many 5 (some .int), Cond.methodLink RX7 156 yX7_passes, Cond.instanceMethod yX7_passes, Cond.selects RX7 yX7_passes yX7_passes, Cond.code yX7_passes cX7_passes 2 (some .int)]
def wsX7_digest_r2 : List Cond := [Cond.methodLink RX7 89 yX7_size, Cond.instanceMethod yX7_size, Cond.selects RX7 yX7_size yX7_size, Cond.code yX7_size cX7_size 1 (some .int), Cond.methodLink RX7 159 yX7_atOf, Cond.instanceMethod yX7_atOf, Cond.selects RX7 yX7_atOf yX7_atOf, Cond.code yX7_atOf cX7_atOf 2 (some .int)]
def wsX7_digest : List Cond := .code yX7_digest cX7_digest 4 (some .long) :: ((wsX7_digest_r1 ++ wsX7_digest_r2) ++ wsX70)
def wsJ9_max_7cf53 : List Cond := .code yJ9_max_7cf53 cJ9_max_7cf53 2 (some .int) :: ([])
def wsL_law_r1 : List Cond := [Cond.classLink RL 7 RX6, Cond.instantiable RX6 7, Cond.initialized RX6, Cond.classLink RL 10 RX7, Cond.instantiable RX7 29, Cond.initialized RX7, Cond.methodLink RL 9 yX6_init, Cond.instanceMethod yX6_init, Cond.code yX6_init cX6_init 1 none, Cond.methodLink RX6 3 objectInit, Cond.instanceMethod objectInit, Cond.code objectInit ⟨#[0xb1]⟩ 1 none, Cond.classLink RX6 9 RX2, Cond.instantiable RX2 6, Cond.initialized RX2, Cond.fieldLink RX6 12 "EyeBoard" "grid" "LEyeBoard$Grid;", Cond.classLink RX6 20 RX4, Cond.instantiable RX4 9, Cond.initialized RX4, Cond.fieldLink RX6 25 "EyeBoard" "row" "LEyeBoard$Row;", Cond.classLink RX6 33 RX3, Cond.instantiable RX3 1, Cond.initialized RX3, Cond.fieldLink RX6 38 "EyeBoard" "life" "LEyeBoard$Life;"]
def wsL_law_r2 : List Cond := [Cond.classLink RX6 42 RX5, Cond.instantiable RX5 1, Cond.initialized RX5, Cond.fieldLink RX6 45 "EyeBoard" "tried" "LEyeBoard$Tries;", Cond.classLink RX6 49 RX0, Cond.instantiable RX0 5, Cond.initialized RX0, Cond.fieldLink RX6 54 "EyeBoard" "hunt" "LEyeBoard$Chase;", Cond.classLink RX6 58 RX1, Cond.instantiable RX1 6, Cond.initialized RX1, Cond.fieldLink RX6 61 "EyeBoard" "struggle" "LEyeBoard$Fight;", Cond.fieldLink RX6 65 "EyeBoard" "winningAct" "I", Cond.instanceMethod yX2_init, Cond.code yX2_init cX2_init 1 none, Cond.methodLink RX2 3 objectInit, Cond.methodLink RX6 16 yX2_measure, Cond.instanceMethod yX2_measure, Cond.selects RX2 yX2_measure yX2_measure, Cond.code yX2_measure cX2_measure 6 none, Cond.fieldLink RX2 9 "EyeBoard$Grid" "width" "I", Cond.fieldLink RX2 15 "EyeBoard$Grid" "height" "I", Cond.fieldLink RX2 18 "EyeBoard$Grid" "size" "I", Cond.fieldLink RX2 21 "EyeBoard$Grid" "all" "J"]
def wsL_law_r3 : List Cond := [Cond.constantLong RX2 25 (-1), Cond.fieldLink RX2 27 "EyeBoard$Grid" "notFirstColumn" "J", Cond.fieldLink RX2 30 "EyeBoard$Grid" "notLastColumn" "J", Cond.methodLink RX6 22 yX4_init, Cond.instanceMethod yX4_init, Cond.code yX4_init cX4_init 4 none, Cond.methodLink RX4 3 objectInit, Cond.fieldLink RX4 9 "EyeBoard$Row" "grid" "LEyeBoard$Grid;", Cond.methodLink RX4 15 Lib.Math.max.name, Cond.static Lib.Math.max.name, Cond.initialized "java/lang/Math", Cond.code Lib.Math.max.name Lib.Math.max.code 2 (some .int), Cond.arrayClass .long, Cond.fieldLink RX4 21 "EyeBoard$Row" "black" "[J", Cond.fieldLink RX4 25 "EyeBoard$Row" "white" "[J", Cond.arrayClass .int, Cond.fieldLink RX4 28 "EyeBoard$Row" "acts" "[I", Cond.methodLink RX6 29 yX4_begin, Cond.instanceMethod yX4_begin, Cond.selects RX4 yX4_begin yX4_begin, Cond.code yX4_begin cX4_begin 7 none, Cond.fieldLink RX4 32 "EyeBoard$Row" "law" "I", Cond.fieldLink RX4 36 "EyeBoard$Row" "latest" "I", Cond.fieldLink RX4 39 "EyeBoard$Row" "opener" "I"]
def wsL_law_r4 : List Cond := [Cond.methodLink RX4 42 yX4_keep, Cond.instanceMethod yX4_keep, Cond.selects RX4 yX4_keep yX4_keep, Cond.code yX4_keep cX4_keep 6 none, Cond.methodLink RX6 35 yX3_init, Cond.instanceMethod yX3_init, Cond.code yX3_init cX3_init 2 none, Cond.methodLink RX3 3 objectInit, Cond.fieldLink RX3 9 "EyeBoard$Life" "grid" "LEyeBoard$Grid;", Cond.instanceMethod yX5_init, Cond.code yX5_init cX5_init 1 none, Cond.methodLink RX5 3 objectInit, Cond.methodLink RX6 51 yX0_init, Cond.instanceMethod yX0_init, Cond.code yX0_init cX0_init 4 none, Cond.methodLink RX0 3 objectInit, Cond.fieldLink RX0 9 "EyeBoard$Chase" "grid" "LEyeBoard$Grid;", Cond.fieldLink RX0 15 "EyeBoard$Chase" "row" "LEyeBoard$Row;", Cond.fieldLink RX0 19 "EyeBoard$Chase" "tried" "LEyeBoard$Tries;", Cond.methodLink RX6 60 yX1_init, Cond.instanceMethod yX1_init, Cond.code yX1_init cX1_init 4 none, Cond.methodLink RX1 3 objectInit, Cond.fieldLink RX1 9 "EyeBoard$Fight" "grid" "LEyeBoard$Grid;"]
def wsL_law_r5 : List Cond := [Cond.fieldLink RX1 15 "EyeBoard$Fight" "row" "LEyeBoard$Row;", Cond.fieldLink RX1 19 "EyeBoard$Fight" "tried" "LEyeBoard$Tries;", Cond.methodLink RL 12 yX7_init, Cond.instanceMethod yX7_init, Cond.code yX7_init cX7_init 1 none, Cond.methodLink RX7 1 objectInit, Cond.fieldLink RX7 7 "EyeBoardModel" "wide" "I", Cond.fieldLink RX7 13 "EyeBoardModel" "high" "I", Cond.fieldLink RX7 16 "EyeBoardModel" "neighbours" "[J", Cond.fieldLink RX7 20 "EyeBoardModel" "act" "[I", Cond.fieldLink RX7 24 "EyeBoardModel" "blackAt" "[J", Cond.fieldLink RX7 27 "EyeBoardModel" "whiteAt" "[J", Cond.fieldLink RX7 30 "EyeBoardModel" "moveAt" "[I", Cond.fieldLink RX7 33 "EyeBoardModel" "takenBlack" "[I", Cond.fieldLink RX7 36 "EyeBoardModel" "takenWhite" "[I", Cond.fieldLink RX7 39 "EyeBoardModel" "chaseBlack" "[J", Cond.fieldLink RX7 42 "EyeBoardModel" "chaseWhite" "[J", Cond.fieldLink RX7 45 "EyeBoardModel" "aheadBlack" "[J", Cond.fieldLink RX7 48 "EyeBoardModel" "aheadWhite" "[J", Cond.arrayClass .boolean, Cond.fieldLink RX7 51 "EyeBoardModel" "hasAhead" "[Z", Cond.fieldLink RX7 55 "EyeBoardModel" "breathsLeft" "[J", Cond.fieldLink RX7 58 "EyeBoardModel" "laidBlack" "[J", Cond.fieldLink RX7 61 "EyeBoardModel" "laidWhite" "[J"]
def wsL_law_r6 : List Cond := [Cond.fieldLink RX7 64 "EyeBoardModel" "answersLeft" "[J", Cond.fieldLink RX7 67 "EyeBoardModel" "firstAnswer" "[I", Cond.fieldLink RX7 70 "EyeBoardModel" "answering" "[Z", Cond.fieldLink RX7 73 "EyeBoardModel" "found" "I", Cond.fieldLink RX7 76 "EyeBoardModel" "next" "[I", Cond.methodLink RX7 79 yX7_lays, Cond.instanceMethod yX7_lays, Cond.selects RX7 yX7_lays yX7_lays, Cond.code yX7_lays cX7_lays 7 none, Cond.fieldLink RX7 83 "EyeBoardModel" "law" "I", Cond.fieldLink RX7 86 "EyeBoardModel" "acts" "I", Cond.methodLink RL 13 yX6_board, Cond.instanceMethod yX6_board, Cond.selects RX6 yX6_board yX6_board, Cond.code yX6_board cX6_board 5 (some .int), Cond.fieldLink RX6 73 "EyeBoard$Row" "latest" "I", Cond.methodLink RX6 69 yX6_isSide, Cond.static yX6_isSide, Cond.code yX6_isSide cX6_isSide 1 (some .boolean), Cond.methodLink RL 17 yX7_board, Cond.instanceMethod yX7_board, Cond.selects RX7 yX7_board yX7_board, Cond.code yX7_board cX7_board 5 (some .int), Cond.methodLink RX7 93 yX7_in]
def wsL_law_r7 : List Cond := [Cond.static yX7_in, Cond.code yX7_in cX7_in 3 (some .boolean), Cond.methodLink RL 18 yX6_set, Cond.instanceMethod yX6_set, Cond.selects RX6 yX6_set yX6_set, Cond.code yX6_set cX6_set 12 (some .int), Cond.constantLong RX6 86 (-1), Cond.fieldLink RX6 88 "EyeBoard$Grid" "all" "J", Cond.fieldLink RX6 96 "EyeBoard$Row" "law" "I", Cond.methodLink RX6 76 yX2_has, Cond.instanceMethod yX2_has, Cond.selects RX2 yX2_has yX2_has, Cond.code yX2_has cX2_has 2 (some .boolean), Cond.methodLink RX6 79 yX6_isColour, Cond.static yX6_isColour, Cond.code yX6_isColour cX6_isColour 1 (some .boolean), Cond.methodLink RX6 82 yX4_stonesOf, Cond.instanceMethod yX4_stonesOf, Cond.selects RX4 yX4_stonesOf yX4_stonesOf, Cond.code yX4_stonesOf cX4_stonesOf 2 (some .long), Cond.methodLink RX4 46 yX4_stonesThen, Cond.instanceMethod yX4_stonesThen, Cond.selects RX4 yX4_stonesThen yX4_stonesThen, Cond.code yX4_stonesThen cX4_stonesThen 4 (some .long)]
def wsL_law_r8 : List Cond := [Cond.methodLink RX6 92 yX2_allBreathe, Cond.instanceMethod yX2_allBreathe, Cond.selects RX2 yX2_allBreathe yX2_allBreathe, Cond.code yX2_allBreathe cX2_allBreathe 5 (some .boolean), Cond.methodLink RX2 33 yX2_beside, Cond.instanceMethod yX2_beside, Cond.selects RX2 yX2_beside yX2_beside, Cond.code yX2_beside cX2_beside 5 (some .long), Cond.methodLink RX2 37 yX2_spread, Cond.instanceMethod yX2_spread, Cond.selects RX2 yX2_spread yX2_spread, Cond.code yX2_spread cX2_spread 10 (some .long), Cond.methodLink RL 21 yX7_set, Cond.instanceMethod yX7_set, Cond.selects RX7 yX7_set yX7_set, Cond.code yX7_set cX7_set 16 (some .int), Cond.constantLong RX7 105 (-1), Cond.methodLink RX7 144 yX7_isCrossing, Cond.instanceMethod yX7_isCrossing, Cond.selects RX7 yX7_isCrossing yX7_isCrossing, Cond.code yX7_isCrossing cX7_isCrossing 2 (some .boolean), Cond.methodLink RX7 89 yX7_size, Cond.instanceMethod yX7_size, Cond.selects RX7 yX7_size yX7_size]
def wsL_law_r9 : List Cond := [Cond.code yX7_size cX7_size 1 (some .int), Cond.methodLink RX7 111 yX7_spread, Cond.instanceMethod yX7_spread, Cond.selects RX7 yX7_spread yX7_spread, Cond.code yX7_spread cX7_spread 9 (some .long), Cond.methodLink RX7 97 yX7_around, Cond.instanceMethod yX7_around, Cond.selects RX7 yX7_around yX7_around, Cond.code yX7_around cX7_around 6 (some .long), Cond.methodLink RX7 129 yX7_free, Cond.instanceMethod yX7_free, Cond.selects RX7 yX7_free yX7_free, Cond.code yX7_free cX7_free 5 (some .long), Cond.methodLink RX7 101 yX7_all, Cond.instanceMethod yX7_all, Cond.selects RX7 yX7_all yX7_all, Cond.code yX7_all cX7_all 1 (some .long), Cond.methodLink RL 22 yX6_lay, Cond.instanceMethod yX6_lay, Cond.selects RX6 yX6_lay yX6_lay, Cond.code yX6_lay cX6_lay 2 (some .int), Cond.methodLink RX6 99 yX4_reasonAgainst, Cond.instanceMethod yX4_reasonAgainst, Cond.selects RX4 yX4_reasonAgainst yX4_reasonAgainst]
def wsL_law_r10 : List Cond := [Cond.code yX4_reasonAgainst cX4_reasonAgainst 11 (some .int), Cond.fieldLink RX4 54 "EyeBoard$Grid" "all" "J", Cond.constantLong RX4 60 (-1), Cond.fieldLink RX4 89 "EyeBoard$Row" "blackThen" "J", Cond.fieldLink RX4 92 "EyeBoard$Row" "whiteThen" "J", Cond.methodLink RX4 70 yX4_free, Cond.instanceMethod yX4_free, Cond.selects RX4 yX4_free yX4_free, Cond.code yX4_free cX4_free 1 (some .long), Cond.methodLink RX4 66 yX2_holds, Cond.static yX2_holds, Cond.code yX2_holds cX2_holds 3 (some .boolean), Cond.methodLink RX4 74 yX4_mover, Cond.instanceMethod yX4_mover, Cond.selects RX4 yX4_mover yX4_mover, Cond.code yX4_mover cX4_mover 1 (some .int), Cond.methodLink RX4 50 yX4_moverThen, Cond.instanceMethod yX4_moverThen, Cond.selects RX4 yX4_moverThen yX4_moverThen, Cond.code yX4_moverThen cX4_moverThen 2 (some .int), Cond.methodLink RX4 62 yX4_stonesOf, Cond.static yX6_other, Cond.code yX6_other cX6_other 1 (some .int), Cond.methodLink RX4 81 yX2_beside]
def wsL_law_r11 : List Cond := [Cond.methodLink RX4 85 yX2_spread, Cond.methodLink RX4 95 yX4_isRefusedByLaw, Cond.instanceMethod yX4_isRefusedByLaw, Cond.selects RX4 yX4_isRefusedByLaw yX4_isRefusedByLaw, Cond.code yX4_isRefusedByLaw cX4_isRefusedByLaw 4 (some .boolean), Cond.methodLink RX6 103 yX4_add, Cond.instanceMethod yX4_add, Cond.selects RX4 yX4_add yX4_add, Cond.code yX4_add cX4_add 2 (some .boolean), Cond.fieldLink RX4 99 "EyeBoard$Grid" "size" "I", Cond.methodLink RX4 102 yX2_has, Cond.methodLink RX4 106 yX4_reasonAgainst, Cond.methodLink RX6 106 yX4_mover, Cond.methodLink RX6 110 yX4_takenBy, Cond.instanceMethod yX4_takenBy, Cond.selects RX4 yX4_takenBy yX4_takenBy, Cond.code yX4_takenBy cX4_takenBy 3 (some .int), Cond.methodLink RX4 112 yJ13_bitCount_95d88, Cond.static yJ13_bitCount_95d88, Cond.initialized RJ13, Cond.code yJ13_bitCount_95d88 cJ13_bitCount_95d88 2 (some .int), Cond.constantLong RJ13 314 (6148914691236517205), Cond.constantLong RJ13 316 (3689348814741910323), Cond.constantLong RJ13 318 (1085102592571150095)]
def wsL_law_r12 : List Cond := [Cond.methodLink RL 26 yX7_lay, Cond.instanceMethod yX7_lay, Cond.selects RX7 yX7_lay yX7_lay, Cond.code yX7_lay cX7_lay 3 (some .int), Cond.fieldLink RX7 119 "EyeBoardModel" "taken" "I", Cond.fieldLink RX7 122 "EyeBoardModel" "newBlack" "J", Cond.fieldLink RX7 126 "EyeBoardModel" "newWhite" "J", Cond.methodLink RX7 148 yX7_reason, Cond.instanceMethod yX7_reason, Cond.selects RX7 yX7_reason yX7_reason, Cond.code yX7_reason cX7_reason 5 (some .int), Cond.methodLink RX7 136 yX7_laid, Cond.instanceMethod yX7_laid, Cond.selects RX7 yX7_laid yX7_laid, Cond.code yX7_laid cX7_laid 18 (some .int), Cond.methodLink RX7 107 yX7_least, Cond.static yX7_least, Cond.code yX7_least cX7_least 4 (some .int), Cond.methodLink RX7 115 yX7_many, Cond.static yX7_many, Cond.code yX7_many cX7_many 5 (some .int), Cond.methodLink RX7 140 yX7_isAgainst, Cond.instanceMethod yX7_isAgainst, Cond.selects RX7 yX7_isAgainst yX7_isAgainst]
def wsL_law_r13 : List Cond := [Cond.code yX7_isAgainst cX7_isAgainst 4 (some .boolean), Cond.methodLink RX7 132 yX7_other, Cond.static yX7_other, Cond.code yX7_other cX7_other 1 (some .int), Cond.methodLink RX7 152 yX7_acted, Cond.instanceMethod yX7_acted, Cond.selects RX7 yX7_acted yX7_acted, Cond.code yX7_acted cX7_acted 7 none, Cond.methodLink RL 27 yX6_pass, Cond.instanceMethod yX6_pass, Cond.selects RX6 yX6_pass yX6_pass, Cond.code yX6_pass cX6_pass 1 (some .int), Cond.fieldLink RX6 114 "EyeBoard$Grid" "size" "I", Cond.methodLink RX6 117 yX4_passesNow, Cond.instanceMethod yX4_passesNow, Cond.selects RX4 yX4_passesNow yX4_passesNow, Cond.code yX4_passesNow cX4_passesNow 3 (some .int), Cond.methodLink RX4 109 yX4_actAt, Cond.instanceMethod yX4_actAt, Cond.selects RX4 yX4_actAt yX4_actAt, Cond.code yX4_actAt cX4_actAt 2 (some .int), Cond.methodLink RL 31 yX7_pass, Cond.instanceMethod yX7_pass, Cond.selects RX7 yX7_pass yX7_pass]
def wsL_law_r14 : List Cond := [Cond.code yX7_pass cX7_pass 1 (some .int), Cond.methodLink RX7 156 yX7_passes, Cond.instanceMethod yX7_passes, Cond.selects RX7 yX7_passes yX7_passes, Cond.code yX7_passes cX7_passes 2 (some .int), Cond.methodLink RL 32 yX6_why, Cond.instanceMethod yX6_why, Cond.selects RX6 yX6_why yX6_why, Cond.code yX6_why cX6_why 2 (some .int), Cond.methodLink RL 35 yX7_why, Cond.instanceMethod yX7_why, Cond.selects RX7 yX7_why yX7_why, Cond.code yX7_why cX7_why 2 (some .int), Cond.methodLink RL 36 yX6_undo, Cond.instanceMethod yX6_undo, Cond.selects RX6 yX6_undo yX6_undo, Cond.code yX6_undo cX6_undo 1 (some .int), Cond.methodLink RX6 120 yX4_takeBack, Cond.instanceMethod yX4_takeBack, Cond.selects RX4 yX4_takeBack yX4_takeBack, Cond.code yX4_takeBack cX4_takeBack 1 none, Cond.methodLink RL 39 yX7_undo, Cond.instanceMethod yX7_undo, Cond.selects RX7 yX7_undo yX7_undo]
def wsL_law_r15 : List Cond := [Cond.code yX7_undo cX7_undo 1 (some .int), Cond.methodLink RL 40 yX6_at, Cond.instanceMethod yX6_at, Cond.selects RX6 yX6_at yX6_at, Cond.code yX6_at cX6_at 2 (some .int), Cond.methodLink RX6 123 yX4_colourAt, Cond.instanceMethod yX4_colourAt, Cond.selects RX4 yX4_colourAt yX4_colourAt, Cond.code yX4_colourAt cX4_colourAt 2 (some .int), Cond.methodLink RL 43 yX7_at, Cond.instanceMethod yX7_at, Cond.selects RX7 yX7_at yX7_at, Cond.code yX7_at cX7_at 2 (some .int), Cond.methodLink RX7 159 yX7_atOf, Cond.instanceMethod yX7_atOf, Cond.selects RX7 yX7_atOf yX7_atOf, Cond.code yX7_atOf cX7_atOf 2 (some .int), Cond.methodLink RL 44 yX6_group, Cond.instanceMethod yX6_group, Cond.selects RX6 yX6_group yX6_group, Cond.code yX6_group cX6_group 8 (some .int), Cond.methodLink RX6 126 yX2_spread, Cond.methodLink RX6 130 yJ13_bitCount_95d88, Cond.methodLink RX6 136 yX2_beside]
def wsL_law_r16 : List Cond := [Cond.methodLink RX6 140 yX4_free, Cond.methodLink RX6 144 yX2_nth, Cond.instanceMethod yX2_nth, Cond.selects RX2 yX2_nth yX2_nth, Cond.code yX2_nth cX2_nth 6 (some .int), Cond.methodLink RX2 41 yX2_holds, Cond.methodLink RX6 148 yX3_vitalRegions, Cond.instanceMethod yX3_vitalRegions, Cond.selects RX3 yX3_vitalRegions yX3_vitalRegions, Cond.code yX3_vitalRegions cX3_vitalRegions 9 (some .int), Cond.fieldLink RX3 23 "EyeBoard$Grid" "size" "I", Cond.methodLink RX3 27 yX2_partFrom, Cond.instanceMethod yX2_partFrom, Cond.selects RX2 yX2_partFrom yX2_partFrom, Cond.code yX2_partFrom cX2_partFrom 10 (some .long), Cond.methodLink RX3 31 yX3_isVital, Cond.instanceMethod yX3_isVital, Cond.selects RX3 yX3_isVital yX3_isVital, Cond.code yX3_isVital cX3_isVital 9 (some .boolean), Cond.constantLong RX3 21 (-1), Cond.methodLink RX3 15 yX2_beside, Cond.methodLink RX6 152 yX3_standingStones, Cond.instanceMethod yX3_standingStones, Cond.selects RX3 yX3_standingStones yX3_standingStones]
def wsL_law_r17 : List Cond := [Cond.code yX3_standingStones cX3_standingStones 12 (some .long), Cond.fieldLink RX3 35 "EyeBoard$Grid" "all" "J", Cond.methodLink RX3 39 yX3_groupsWithoutTwo, Cond.instanceMethod yX3_groupsWithoutTwo, Cond.selects RX3 yX3_groupsWithoutTwo yX3_groupsWithoutTwo, Cond.code yX3_groupsWithoutTwo cX3_groupsWithoutTwo 12 (some .long), Cond.methodLink RX3 47 yX3_vitalRegions, Cond.methodLink RX3 43 yX2_spread, Cond.methodLink RL 48 yX7_group, Cond.instanceMethod yX7_group, Cond.selects RX7 yX7_group yX7_group, Cond.code yX7_group cX7_group 6 (some .int), Cond.methodLink RX7 177 yX7_groupAt, Cond.instanceMethod yX7_groupAt, Cond.selects RX7 yX7_groupAt yX7_groupAt, Cond.code yX7_groupAt cX7_groupAt 2 (some .long), Cond.methodLink RX7 165 yX7_stones, Cond.instanceMethod yX7_stones, Cond.selects RX7 yX7_stones yX7_stones, Cond.code yX7_stones cX7_stones 2 (some .long), Cond.methodLink RX7 162 yX7_breaths, Cond.instanceMethod yX7_breaths, Cond.selects RX7 yX7_breaths yX7_breaths, Cond.code yX7_breaths cX7_breaths 3 (some .long)]
def wsL_law_r18 : List Cond := [Cond.methodLink RX7 173 yX7_vital, Cond.instanceMethod yX7_vital, Cond.selects RX7 yX7_vital yX7_vital, Cond.code yX7_vital cX7_vital 11 (some .int), Cond.methodLink RX7 169 yX7_isVital, Cond.instanceMethod yX7_isVital, Cond.selects RX7 yX7_isVital yX7_isVital, Cond.code yX7_isVital cX7_isVital 5 (some .boolean), Cond.methodLink RX7 180 yX7_stand, Cond.instanceMethod yX7_stand, Cond.selects RX7 yX7_stand yX7_stand, Cond.code yX7_stand cX7_stand 10 (some .long), Cond.methodLink RL 49 yX6_breath, Cond.instanceMethod yX6_breath, Cond.selects RX6 yX6_breath yX6_breath, Cond.code yX6_breath cX6_breath 6 (some .int), Cond.methodLink RL 52 yX7_breath, Cond.instanceMethod yX7_breath, Cond.selects RX7 yX7_breath yX7_breath, Cond.code yX7_breath cX7_breath 7 (some .int), Cond.methodLink RL 53 yX6_region, Cond.instanceMethod yX6_region, Cond.selects RX6 yX6_region yX6_region, Cond.code yX6_region cX6_region 8 (some .int)]
def wsL_law_r19 : List Cond := [Cond.methodLink RX6 155 yX3_groupsTouched, Cond.instanceMethod yX3_groupsTouched, Cond.selects RX3 yX3_groupsTouched yX3_groupsTouched, Cond.code yX3_groupsTouched cX3_groupsTouched 9 (some .int), Cond.methodLink RX6 159 yX3_groupsItIsVitalTo, Cond.instanceMethod yX3_groupsItIsVitalTo, Cond.selects RX3 yX3_groupsItIsVitalTo yX3_groupsItIsVitalTo, Cond.code yX3_groupsItIsVitalTo cX3_groupsItIsVitalTo 9 (some .int), Cond.methodLink RL 56 yX7_region, Cond.instanceMethod yX7_region, Cond.selects RX7 yX7_region yX7_region, Cond.code yX7_region cX7_region 11 (some .int), Cond.methodLink RL 57 yX6_standing, Cond.instanceMethod yX6_standing, Cond.selects RX6 yX6_standing yX6_standing, Cond.code yX6_standing cX6_standing 2 (some .int), Cond.methodLink RL 60 yX7_standing, Cond.instanceMethod yX7_standing, Cond.selects RX7 yX7_standing yX7_standing, Cond.code yX7_standing cX7_standing 2 (some .int), Cond.methodLink RL 61 yX6_chase, Cond.instanceMethod yX6_chase, Cond.selects RX6 yX6_chase yX6_chase, Cond.code yX6_chase cX6_chase 3 (some .int)]
def wsL_law_r20 : List Cond := [Cond.methodLink RX6 162 yX0_read, Cond.instanceMethod yX0_read, Cond.selects RX0 yX0_read yX0_read, Cond.code yX0_read cX0_read 4 (some .int), Cond.fieldLink RX0 23 "EyeBoard$Chase" "target" "I", Cond.fieldLink RX0 33 "EyeBoard$Chase" "chased" "I", Cond.fieldLink RX0 36 "EyeBoard$Tries" "made" "I", Cond.methodLink RX0 27 yX4_colourAt, Cond.methodLink RX0 41 yX4_stonesOf, Cond.methodLink RX0 48 yX4_begin, Cond.methodLink RX0 52 yX0_caughtIn, Cond.instanceMethod yX0_caughtIn, Cond.selects RX0 yX0_caughtIn yX0_caughtIn, Cond.code yX0_caughtIn cX0_caughtIn 7 (some .int), Cond.fieldLink RX0 78 "EyeBoard$Grid" "size" "I", Cond.methodLink RX0 61 yX0_targetGroup, Cond.instanceMethod yX0_targetGroup, Cond.selects RX0 yX0_targetGroup yX0_targetGroup, Cond.code yX0_targetGroup cX0_targetGroup 1 (some .long), Cond.methodLink RX0 55 yX2_spread, Cond.methodLink RX0 65 yX2_beside, Cond.methodLink RX0 69 yX4_free, Cond.methodLink RX0 72 yJ13_bitCount_95d88, Cond.methodLink RX0 81 yX2_holds]
def wsL_law_r21 : List Cond := [Cond.methodLink RX0 85 yX4_add, Cond.methodLink RX0 89 yX5_oneMore, Cond.instanceMethod yX5_oneMore, Cond.selects RX5 yX5_oneMore yX5_oneMore, Cond.code yX5_oneMore cX5_oneMore 1 (some .boolean), Cond.fieldLink RX5 9 "EyeBoard$Tries" "made" "I", Cond.methodLink RX0 93 yX0_answersFail, Cond.instanceMethod yX0_answersFail, Cond.selects RX0 yX0_answersFail yX0_answersFail, Cond.methodLink RX0 96 yX4_takeBack, Cond.code yX0_answersFail cX0_answersFail 12 (some .int), Cond.constantLong RX0 102 (-1), Cond.methodLink RX0 99 yX0_takingCrossings, Cond.instanceMethod yX0_takingCrossings, Cond.selects RX0 yX0_takingCrossings yX0_takingCrossings, Cond.code yX0_takingCrossings cX0_takingCrossings 10 (some .long), Cond.methodLink RX0 108 yX2_partFrom, Cond.methodLink RX0 104 yX2_nth, Cond.methodLink RL 64 yX7_chase, Cond.instanceMethod yX7_chase, Cond.selects RX7 yX7_chase yX7_chase, Cond.code yX7_chase cX7_chase 4 (some .int), Cond.fieldLink RX7 183 "EyeBoardModel" "triesMany" "I", Cond.fieldLink RX7 186 "EyeBoardModel" "isSpent" "Z"]
def wsL_law_r22 : List Cond := [Cond.methodLink RX7 216 yX7_isCaught, Cond.instanceMethod yX7_isCaught, Cond.selects RX7 yX7_isCaught yX7_isCaught, Cond.code yX7_isCaught cX7_isCaught 8 (some .boolean), Cond.methodLink RX7 197 yX7_comes, Cond.instanceMethod yX7_comes, Cond.selects RX7 yX7_comes yX7_comes, Cond.code yX7_comes cX7_comes 8 none, Cond.methodLink RX7 190 yX7_chaseBreaths, Cond.instanceMethod yX7_chaseBreaths, Cond.selects RX7 yX7_chaseBreaths yX7_chaseBreaths, Cond.code yX7_chaseBreaths cX7_chaseBreaths 7 (some .long), Cond.methodLink RX7 201 yX7_mayChase, Cond.instanceMethod yX7_mayChase, Cond.selects RX7 yX7_mayChase yX7_mayChase, Cond.code yX7_mayChase cX7_mayChase 4 (some .boolean), Cond.methodLink RX7 194 yX7_isAt, Cond.instanceMethod yX7_isAt, Cond.selects RX7 yX7_isAt yX7_isAt, Cond.code yX7_isAt cX7_isAt 5 (some .boolean), Cond.methodLink RX7 204 yX7_counts, Cond.instanceMethod yX7_counts, Cond.selects RX7 yX7_counts yX7_counts, Cond.code yX7_counts cX7_counts 1 none]
def wsL_law_r23 : List Cond := [Cond.methodLink RX7 207 yX7_nextAnswer, Cond.instanceMethod yX7_nextAnswer, Cond.selects RX7 yX7_nextAnswer yX7_nextAnswer, Cond.code yX7_nextAnswer cX7_nextAnswer 3 (some .int), Cond.methodLink RX7 210 yX7_mayAnswer, Cond.instanceMethod yX7_mayAnswer, Cond.selects RX7 yX7_mayAnswer yX7_mayAnswer, Cond.code yX7_mayAnswer cX7_mayAnswer 4 (some .boolean), Cond.methodLink RX7 213 yX7_findAnswers, Cond.instanceMethod yX7_findAnswers, Cond.selects RX7 yX7_findAnswers yX7_findAnswers, Cond.code yX7_findAnswers cX7_findAnswers 22 none, Cond.methodLink RL 65 yX6_fight, Cond.instanceMethod yX6_fight, Cond.selects RX6 yX6_fight yX6_fight, Cond.code yX6_fight cX6_fight 5 (some .int), Cond.fieldLink RX6 168 "EyeBoard$Fight" "decidingAct" "I", Cond.methodLink RX6 166 yX1_read, Cond.instanceMethod yX1_read, Cond.selects RX1 yX1_read yX1_read, Cond.code yX1_read cX1_read 3 (some .int), Cond.fieldLink RX1 23 "EyeBoard$Fight" "target" "I", Cond.fieldLink RX1 33 "EyeBoard$Fight" "attacked" "I", Cond.fieldLink RX1 36 "EyeBoard$Fight" "decidingAct" "I"]
def wsL_law_r24 : List Cond := [Cond.fieldLink RX1 39 "EyeBoard$Tries" "made" "I", Cond.methodLink RX1 27 yX4_colourAt, Cond.methodLink RX1 44 yX1_takenIn, Cond.instanceMethod yX1_takenIn, Cond.selects RX1 yX1_takenIn yX1_takenIn, Cond.code yX1_takenIn cX1_takenIn 5 (some .int), Cond.fieldLink RX1 51 "EyeBoard$Grid" "size" "I", Cond.methodLink RX1 47 yX4_mover, Cond.methodLink RX1 56 yX4_add, Cond.methodLink RX1 60 yX5_oneMore, Cond.methodLink RX1 64 yX1_takenBehindAct, Cond.instanceMethod yX1_takenBehindAct, Cond.selects RX1 yX1_takenBehindAct yX1_takenBehindAct, Cond.methodLink RX1 67 yX4_takeBack, Cond.code yX1_takenBehindAct cX1_takenBehindAct 2 (some .int), Cond.methodLink RL 68 yX7_fight, Cond.instanceMethod yX7_fight, Cond.selects RX7 yX7_fight yX7_fight, Cond.code yX7_fight cX7_fight 5 (some .int), Cond.methodLink RX7 222 yX7_isTaken, Cond.instanceMethod yX7_isTaken, Cond.selects RX7 yX7_isTaken yX7_isTaken, Cond.code yX7_isTaken cX7_isTaken 12 (some .boolean), Cond.methodLink RX7 219 yX7_isGone]
def wsL_law_r25 : List Cond := [Cond.instanceMethod yX7_isGone, Cond.selects RX7 yX7_isGone yX7_isGone, Cond.code yX7_isGone cX7_isGone 4 (some .boolean), Cond.methodLink RL 69 yX6_tries, Cond.instanceMethod yX6_tries, Cond.selects RX6 yX6_tries yX6_tries, Cond.code yX6_tries cX6_tries 1 (some .int), Cond.fieldLink RX6 171 "EyeBoard$Tries" "made" "I", Cond.methodLink RL 72 yX7_tries, Cond.instanceMethod yX7_tries, Cond.selects RX7 yX7_tries yX7_tries, Cond.code yX7_tries cX7_tries 1 (some .int), Cond.methodLink RL 73 yX6_first, Cond.instanceMethod yX6_first, Cond.selects RX6 yX6_first yX6_first, Cond.code yX6_first cX6_first 1 (some .int), Cond.methodLink RL 76 yX7_first, Cond.instanceMethod yX7_first, Cond.selects RX7 yX7_first yX7_first, Cond.code yX7_first cX7_first 1 (some .int), Cond.methodLink RL 77 yX6_points, Cond.instanceMethod yX6_points, Cond.selects RX6 yX6_points yX6_points, Cond.code yX6_points cX6_points 8 (some .int)]
def wsL_law_r26 : List Cond := [Cond.methodLink RX6 174 yX6_other, Cond.methodLink RX6 177 yX2_freeOf, Cond.instanceMethod yX2_freeOf, Cond.selects RX2 yX2_freeOf yX2_freeOf, Cond.code yX2_freeOf cX2_freeOf 14 (some .long), Cond.methodLink RX2 45 yX2_partFrom, Cond.methodLink RX6 180 yX4_taken, Cond.instanceMethod yX4_taken, Cond.selects RX4 yX4_taken yX4_taken, Cond.code yX4_taken cX4_taken 4 (some .int), Cond.methodLink RX4 118 yX4_takenBy, Cond.methodLink RL 80 yX7_points, Cond.instanceMethod yX7_points, Cond.selects RX7 yX7_points yX7_points, Cond.code yX7_points cX7_points 3 (some .int), Cond.methodLink RX7 225 yX7_pointsOf, Cond.instanceMethod yX7_pointsOf, Cond.selects RX7 yX7_pointsOf yX7_pointsOf, Cond.code yX7_pointsOf cX7_pointsOf 12 (some .int), Cond.methodLink RL 81 yX6_count, Cond.instanceMethod yX6_count, Cond.selects RX6 yX6_count yX6_count, Cond.code yX6_count cX6_count 2 (some .int), Cond.fieldLink RX6 183 "EyeBoard$Grid" "width" "I"]
def wsL_law_r27 : List Cond := [Cond.fieldLink RX6 186 "EyeBoard$Grid" "height" "I", Cond.methodLink RL 84 yX7_count, Cond.instanceMethod yX7_count, Cond.selects RX7 yX7_count yX7_count, Cond.code yX7_count cX7_count 2 (some .int), Cond.methodLink RL 85 yX6_act, Cond.instanceMethod yX6_act, Cond.selects RX6 yX6_act yX6_act, Cond.code yX6_act cX6_act 2 (some .int), Cond.methodLink RX6 189 yX4_actAt, Cond.methodLink RL 88 yX7_act, Cond.instanceMethod yX7_act, Cond.selects RX7 yX7_act yX7_act, Cond.code yX7_act cX7_act 2 (some .int), Cond.methodLink RL 89 yX6_digest, Cond.instanceMethod yX6_digest, Cond.selects RX6 yX6_digest yX6_digest, Cond.code yX6_digest cX6_digest 4 (some .long), Cond.constantLong RX6 192 (47), Cond.constantLong RX6 194 (31), Cond.methodLink RX6 196 yX6_count, Cond.methodLink RL 93 yX7_digest, Cond.instanceMethod yX7_digest, Cond.selects RX7 yX7_digest yX7_digest]
def wsL_law_r28 : List Cond := [Cond.code yX7_digest cX7_digest 4 (some .long), Cond.constantLong RX7 229 (47), Cond.constantLong RX7 231 (31), Cond.methodLink RX7 233 yX7_count]
def wsL_law : List Cond := (wsL_law_r1 ++ (wsL_law_r2 ++ (wsL_law_r3 ++ (wsL_law_r4 ++ (wsL_law_r5 ++ (wsL_law_r6 ++ (wsL_law_r7 ++ (wsL_law_r8 ++ (wsL_law_r9 ++ (wsL_law_r10 ++ (wsL_law_r11 ++ (wsL_law_r12 ++ (wsL_law_r13 ++ (wsL_law_r14 ++ (wsL_law_r15 ++ (wsL_law_r16 ++ (wsL_law_r17 ++ (wsL_law_r18 ++ (wsL_law_r19 ++ (wsL_law_r20 ++ (wsL_law_r21 ++ (wsL_law_r22 ++ (wsL_law_r23 ++ (wsL_law_r24 ++ (wsL_law_r25 ++ (wsL_law_r26 ++ (wsL_law_r27 ++ wsL_law_r28))))))))))))))))))))))))))) ++ wsX60 ++ wsX70 ++ wsX20 ++ wsX40 ++ wsX30 ++ wsX50 ++ wsX00 ++ wsX10 ++ ([] : List Cond)
theorem inlX0 : ∀ w ∈ wsX00, w ∈ wsL_law := fun _ h => List.mem_append_left _ (List.mem_append_left _ (List.mem_append_right _ h))
theorem inlX1 : ∀ w ∈ wsX10, w ∈ wsL_law := fun _ h => List.mem_append_left _ (List.mem_append_right _ h)
theorem inlX2 : ∀ w ∈ wsX20, w ∈ wsL_law := fun _ h => List.mem_append_left _ (List.mem_append_left _ (List.mem_append_left _ (List.mem_append_left _ (List.mem_append_left _ (List.mem_append_left _ (List.mem_append_right _ h))))))
theorem inlX3 : ∀ w ∈ wsX30, w ∈ wsL_law := fun _ h => List.mem_append_left _ (List.mem_append_left _ (List.mem_append_left _ (List.mem_append_left _ (List.mem_append_right _ h))))
theorem inlX4 : ∀ w ∈ wsX40, w ∈ wsL_law := fun _ h => List.mem_append_left _ (List.mem_append_left _ (List.mem_append_left _ (List.mem_append_left _ (List.mem_append_left _ (List.mem_append_right _ h)))))
theorem inlX5 : ∀ w ∈ wsX50, w ∈ wsL_law := fun _ h => List.mem_append_left _ (List.mem_append_left _ (List.mem_append_left _ (List.mem_append_right _ h)))
theorem inlX6 : ∀ w ∈ wsX60, w ∈ wsL_law := fun _ h => List.mem_append_left _ (List.mem_append_left _ (List.mem_append_left _ (List.mem_append_left _ (List.mem_append_left _ (List.mem_append_left _ (List.mem_append_left _ (List.mem_append_left _ (List.mem_append_right _ h))))))))
theorem inlX7 : ∀ w ∈ wsX70, w ∈ wsL_law := fun _ h => List.mem_append_left _ (List.mem_append_left _ (List.mem_append_left _ (List.mem_append_left _ (List.mem_append_left _ (List.mem_append_left _ (List.mem_append_left _ (List.mem_append_right _ h)))))))
end
section
theorem dX0_init_0 : decode cX0_init 0 = .ok (.aload_n 0, 1) := by decide +kernel
theorem dX0_init_1 : decode cX0_init 1 = .ok (.invokespecial 3, 3) := by decide +kernel
theorem dX0_init_4 : decode cX0_init 4 = .ok (.aload_n 0, 1) := by decide +kernel
theorem dX0_init_5 : decode cX0_init 5 = .ok (.aload_n 1, 1) := by decide +kernel
theorem dX0_init_6 : decode cX0_init 6 = .ok (.putfield 9, 3) := by decide +kernel
theorem dX0_init_9 : decode cX0_init 9 = .ok (.aload_n 0, 1) := by decide +kernel
theorem dX0_init_10 : decode cX0_init 10 = .ok (.aload_n 2, 1) := by decide +kernel
theorem dX0_init_11 : decode cX0_init 11 = .ok (.putfield 15, 3) := by decide +kernel
theorem dX0_init_14 : decode cX0_init 14 = .ok (.aload_n 0, 1) := by decide +kernel
theorem dX0_init_15 : decode cX0_init 15 = .ok (.aload_n 3, 1) := by decide +kernel
theorem dX0_init_16 : decode cX0_init 16 = .ok (.putfield 19, 3) := by decide +kernel
theorem dX0_init_19 : decode cX0_init 19 = .ok (.return_, 1) := by decide +kernel
set_option maxRecDepth 20000 in
theorem ggX0_read_X4_colourAt : GoodIn wsX0_read wsX4_colourAt := goodIn_r _ [10, 11, 12, 13, 9, 14, 15, 16, 17, 18, 19, 20, 21, 22, 23, 24, 25, 150, 151, 152, 153, 154, 155, 156, 157, 158] (by decide +kernel) (by decide +kernel)
set_option maxRecDepth 20000 in
theorem gX0_read_X4_colourAt : GoodIn wsX0_read (wsV RX0 27 RX4 yX4_colourAt wsX4_colourAt) := goodIn_app (goodIn_of _ (by decide +kernel)) ggX0_read_X4_colourAt
set_option maxRecDepth 20000 in
theorem ggX0_read_X4_stonesOf : GoodIn wsX0_read wsX4_stonesOf := goodIn_r _ [14, 15, 16, 17, 18, 9, 19, 20, 21, 150, 151, 152, 153, 154, 155, 156, 157, 158] (by decide +kernel) (by decide +kernel)
set_option maxRecDepth 20000 in
theorem gX0_read_X4_stonesOf : GoodIn wsX0_read (wsV RX0 41 RX4 yX4_stonesOf wsX4_stonesOf) := goodIn_app (goodIn_of _ (by decide +kernel)) ggX0_read_X4_stonesOf
set_option maxRecDepth 20000 in
theorem ggX0_read_X6_other : GoodIn wsX0_read wsX6_other := goodIn_r _ [29] (by decide +kernel) (by decide +kernel)
set_option maxRecDepth 20000 in
theorem gX0_read_X6_other_n45 : GoodIn wsX0_read (wsX6_other) := ggX0_read_X6_other
set_option maxRecDepth 20000 in
theorem ggX0_read_X4_begin : GoodIn wsX0_read wsX4_begin := goodIn_r _ [33, 34, 15, 35, 36, 37, 38, 9, 39, 20, 21, 150, 151, 152, 153, 154, 155, 156, 157, 158] (by decide +kernel) (by decide +kernel)
set_option maxRecDepth 20000 in
theorem gX0_read_X4_begin : GoodIn wsX0_read (wsV RX0 48 RX4 yX4_begin wsX4_begin) := goodIn_app (goodIn_of _ (by decide +kernel)) ggX0_read_X4_begin
set_option maxRecDepth 20000 in
theorem ggX0_read_X0_caughtIn : GoodIn wsX0_read wsX0_caughtIn := goodIn_r _ [44, 45, 5, 46, 3, 47, 48, 49, 43, 50, 1, 2, 26, 12, 13, 9, 14, 15, 16, 17, 18, 19, 20, 21, 51, 52, 53, 24, 54, 55, 56, 57, 58, 59, 60, 61, 62, 63, 64, 65, 66, 67, 68, 69, 70, 71, 72, 73, 74, 75, 76, 77, 78, 23, 25, 79, 80, 81, 82, 83, 84, 85, 86, 11, 36, 37, 38, 39, 87, 88, 89, 90, 91, 92, 93, 94, 95, 96, 22, 97, 98, 99, 100, 101, 102, 103, 104, 35, 27, 28, 29, 105, 106, 107, 108, 109, 110, 34, 111, 112, 113, 114, 115, 116, 117, 118, 119, 120, 121, 122, 123, 124, 125, 126, 127, 128, 129, 130, 131, 132, 133, 134, 135, 136, 137, 138, 139, 140, 141, 142, 143, 40, 41, 42, 144, 145, 146, 147, 148, 159, 160, 161, 162, 163, 164, 150, 151, 152, 153, 154, 155, 156, 157, 158, 149] (by decide +kernel) (by decide +kernel)
set_option maxRecDepth 20000 in
theorem gX0_read_X0_caughtIn : GoodIn wsX0_read (wsV RX0 52 RX0 yX0_caughtIn wsX0_caughtIn) := goodIn_app (goodIn_of _ (by decide +kernel)) ggX0_read_X0_caughtIn
theorem dX0_read_0 : decode cX0_read 0 = .ok (.aload_n 0, 1) := by decide +kernel
theorem dX0_read_1 : decode cX0_read 1 = .ok (.iload_n 2, 1) := by decide +kernel
theorem dX0_read_2 : decode cX0_read 2 = .ok (.putfield 23, 3) := by decide +kernel
theorem dX0_read_5 : decode cX0_read 5 = .ok (.aload_n 0, 1) := by decide +kernel
theorem dX0_read_6 : decode cX0_read 6 = .ok (.aload_n 1, 1) := by decide +kernel
theorem dX0_read_7 : decode cX0_read 7 = .ok (.iload_n 2, 1) := by decide +kernel
theorem dX0_read_8 : decode cX0_read 8 = .ok (.invokevirtual 27, 3) := by decide +kernel
theorem dX0_read_11 : decode cX0_read 11 = .ok (.putfield 33, 3) := by decide +kernel
theorem dX0_read_14 : decode cX0_read 14 = .ok (.aload_n 0, 1) := by decide +kernel
theorem dX0_read_15 : decode cX0_read 15 = .ok (.getfield 19, 3) := by decide +kernel
theorem dX0_read_18 : decode cX0_read 18 = .ok (.iconst 0, 1) := by decide +kernel
theorem dX0_read_19 : decode cX0_read 19 = .ok (.putfield 36, 3) := by decide +kernel
theorem dX0_read_22 : decode cX0_read 22 = .ok (.aload_n 0, 1) := by decide +kernel
theorem dX0_read_23 : decode cX0_read 23 = .ok (.getfield 15, 3) := by decide +kernel
theorem dX0_read_26 : decode cX0_read 26 = .ok (.aload_n 1, 1) := by decide +kernel
theorem dX0_read_27 : decode cX0_read 27 = .ok (.iconst 1, 1) := by decide +kernel
theorem dX0_read_28 : decode cX0_read 28 = .ok (.invokevirtual 41, 3) := by decide +kernel
theorem dX0_read_31 : decode cX0_read 31 = .ok (.aload_n 1, 1) := by decide +kernel
theorem dX0_read_32 : decode cX0_read 32 = .ok (.iconst 2, 1) := by decide +kernel
theorem dX0_read_33 : decode cX0_read 33 = .ok (.invokevirtual 41, 3) := by decide +kernel
theorem dX0_read_36 : decode cX0_read 36 = .ok (.aload_n 0, 1) := by decide +kernel
theorem dX0_read_37 : decode cX0_read 37 = .ok (.getfield 33, 3) := by decide +kernel
theorem dX0_read_40 : decode cX0_read 40 = .ok (.invokestatic 45, 3) := by decide +kernel
theorem dX0_read_43 : decode cX0_read 43 = .ok (.iconst 0, 1) := by decide +kernel
theorem dX0_read_44 : decode cX0_read 44 = .ok (.invokevirtual 48, 3) := by decide +kernel
theorem dX0_read_47 : decode cX0_read 47 = .ok (.aload_n 0, 1) := by decide +kernel
theorem dX0_read_48 : decode cX0_read 48 = .ok (.iload_n 3, 1) := by decide +kernel
theorem dX0_read_49 : decode cX0_read 49 = .ok (.invokevirtual 52, 3) := by decide +kernel
theorem dX0_read_52 : decode cX0_read 52 = .ok (.ireturn, 1) := by decide +kernel
set_option maxRecDepth 20000 in
theorem ggX0_targetGroup_X4_stonesOf : GoodIn wsX0_targetGroup wsX4_stonesOf := goodIn_r _ [9, 10, 11, 12, 13, 8, 14, 15, 16, 35, 36, 37, 38, 39, 40, 41, 42, 43] (by decide +kernel) (by decide +kernel)
set_option maxRecDepth 20000 in
theorem gX0_targetGroup_X4_stonesOf : GoodIn wsX0_targetGroup (wsV RX0 41 RX4 yX4_stonesOf wsX4_stonesOf) := goodIn_app (goodIn_of _ (by decide +kernel)) ggX0_targetGroup_X4_stonesOf
set_option maxRecDepth 20000 in
theorem ggX0_targetGroup_X2_spread : GoodIn wsX0_targetGroup wsX2_spread := goodIn_r _ [21, 22, 23, 24, 20, 25, 26, 27, 28, 29, 44, 45, 46, 47, 48, 49] (by decide +kernel) (by decide +kernel)
set_option maxRecDepth 20000 in
theorem gX0_targetGroup_X2_spread : GoodIn wsX0_targetGroup (wsV RX0 55 RX2 yX2_spread wsX2_spread) := goodIn_app (goodIn_of _ (by decide +kernel)) ggX0_targetGroup_X2_spread
theorem dX0_targetGroup_0 : decode cX0_targetGroup 0 = .ok (.aload_n 0, 1) := by decide +kernel
theorem dX0_targetGroup_1 : decode cX0_targetGroup 1 = .ok (.getfield 9, 3) := by decide +kernel
theorem dX0_targetGroup_4 : decode cX0_targetGroup 4 = .ok (.lconst 1, 1) := by decide +kernel
theorem dX0_targetGroup_5 : decode cX0_targetGroup 5 = .ok (.aload_n 0, 1) := by decide +kernel
theorem dX0_targetGroup_6 : decode cX0_targetGroup 6 = .ok (.getfield 23, 3) := by decide +kernel
theorem dX0_targetGroup_9 : decode cX0_targetGroup 9 = .ok (.lshl, 1) := by decide +kernel
theorem dX0_targetGroup_10 : decode cX0_targetGroup 10 = .ok (.aload_n 0, 1) := by decide +kernel
theorem dX0_targetGroup_11 : decode cX0_targetGroup 11 = .ok (.getfield 15, 3) := by decide +kernel
theorem dX0_targetGroup_14 : decode cX0_targetGroup 14 = .ok (.aload_n 0, 1) := by decide +kernel
theorem dX0_targetGroup_15 : decode cX0_targetGroup 15 = .ok (.getfield 33, 3) := by decide +kernel
theorem dX0_targetGroup_18 : decode cX0_targetGroup 18 = .ok (.invokevirtual 41, 3) := by decide +kernel
theorem dX0_targetGroup_21 : decode cX0_targetGroup 21 = .ok (.invokevirtual 55, 3) := by decide +kernel
theorem dX0_targetGroup_24 : decode cX0_targetGroup 24 = .ok (.lreturn, 1) := by decide +kernel
set_option maxRecDepth 20000 in
theorem ggX0_caughtIn_X0_targetGroup : GoodIn wsX0_caughtIn wsX0_targetGroup := goodIn_r _ [9, 1, 10, 2, 11, 12, 13, 14, 15, 16, 17, 18, 19, 20, 21, 22, 23, 24, 25, 26, 27, 28, 29, 30, 31, 32, 33, 34, 35, 36, 134, 135, 136, 137, 138, 145, 146, 147, 148, 149, 150, 151, 152, 153, 139, 140, 141, 142, 143, 144] (by decide +kernel) (by decide +kernel)
set_option maxRecDepth 20000 in
theorem gX0_caughtIn_X0_targetGroup : GoodIn wsX0_caughtIn (wsV RX0 61 RX0 yX0_targetGroup wsX0_targetGroup) := goodIn_app (goodIn_of _ (by decide +kernel)) ggX0_caughtIn_X0_targetGroup
set_option maxRecDepth 20000 in
theorem ggX0_caughtIn_X2_beside : GoodIn wsX0_caughtIn wsX2_beside := goodIn_r _ [32, 33, 34, 35, 36, 139, 140, 141, 142, 143, 144] (by decide +kernel) (by decide +kernel)
set_option maxRecDepth 20000 in
theorem gX0_caughtIn_X2_beside : GoodIn wsX0_caughtIn (wsV RX0 65 RX2 yX2_beside wsX2_beside) := goodIn_app (goodIn_of _ (by decide +kernel)) ggX0_caughtIn_X2_beside
set_option maxRecDepth 20000 in
theorem ggX0_caughtIn_X4_free : GoodIn wsX0_caughtIn wsX4_free := goodIn_r _ [41, 42, 43, 17, 44, 18, 19, 20, 15, 21, 22, 23, 145, 146, 147, 148, 149, 150, 151, 152, 153, 139, 140, 141, 142, 143, 144] (by decide +kernel) (by decide +kernel)
set_option maxRecDepth 20000 in
theorem gX0_caughtIn_X4_free : GoodIn wsX0_caughtIn (wsV RX0 69 RX4 yX4_free wsX4_free) := goodIn_app (goodIn_of _ (by decide +kernel)) ggX0_caughtIn_X4_free
set_option maxRecDepth 20000 in
theorem ggX0_caughtIn_J13_bitCount_95d88 : GoodIn wsX0_caughtIn wsJ13_bitCount_95d88 := goodIn_r _ [48, 49, 50, 51] (by decide +kernel) (by decide +kernel)
set_option maxRecDepth 20000 in
theorem gX0_caughtIn_J13_bitCount_95d88 : GoodIn wsX0_caughtIn (va_wsS RX0 72 yJ13_bitCount_95d88 wsJ13_bitCount_95d88) := goodIn_app (goodIn_of _ (by decide +kernel)) ggX0_caughtIn_J13_bitCount_95d88
set_option maxRecDepth 20000 in
theorem ggX0_caughtIn_X2_holds : GoodIn wsX0_caughtIn wsX2_holds := goodIn_r _ [54] (by decide +kernel) (by decide +kernel)
set_option maxRecDepth 20000 in
theorem gX0_caughtIn_X2_holds : GoodIn wsX0_caughtIn (va_wsS RX0 81 yX2_holds wsX2_holds) := goodIn_app (goodIn_of _ (by decide +kernel)) ggX0_caughtIn_X2_holds
set_option maxRecDepth 20000 in
theorem ggX0_caughtIn_X4_add : GoodIn wsX0_caughtIn wsX4_add := goodIn_r _ [58, 17, 22, 59, 42, 60, 61, 62, 63, 13, 14, 15, 16, 18, 19, 20, 21, 23, 64, 65, 66, 67, 68, 69, 70, 27, 71, 72, 73, 74, 75, 76, 43, 44, 77, 39, 40, 41, 78, 53, 54, 79, 80, 81, 82, 83, 84, 85, 86, 87, 88, 89, 90, 91, 30, 31, 32, 33, 34, 35, 36, 92, 25, 26, 28, 29, 93, 94, 95, 96, 97, 145, 146, 147, 148, 149, 150, 151, 152, 153, 139, 140, 141, 142, 143, 144] (by decide +kernel) (by decide +kernel)
set_option maxRecDepth 20000 in
theorem gX0_caughtIn_X4_add : GoodIn wsX0_caughtIn (wsV RX0 85 RX4 yX4_add wsX4_add) := goodIn_app (goodIn_of _ (by decide +kernel)) ggX0_caughtIn_X4_add
set_option maxRecDepth 20000 in
theorem ggX0_caughtIn_X5_oneMore : GoodIn wsX0_caughtIn wsX5_oneMore := goodIn_r _ [102, 103, 154] (by decide +kernel) (by decide +kernel)
set_option maxRecDepth 20000 in
theorem gX0_caughtIn_X5_oneMore : GoodIn wsX0_caughtIn (wsV RX0 89 RX5 yX5_oneMore wsX5_oneMore) := goodIn_app (goodIn_of _ (by decide +kernel)) ggX0_caughtIn_X5_oneMore
set_option maxRecDepth 20000 in
theorem ggX0_caughtIn_X0_answersFail : GoodIn wsX0_caughtIn wsX0_answersFail := goodIn_r _ [115, 1, 2, 116, 3, 4, 5, 6, 7, 8, 9, 10, 11, 12, 13, 14, 15, 16, 17, 18, 19, 20, 21, 22, 23, 24, 25, 26, 27, 28, 29, 30, 31, 32, 33, 34, 35, 36, 37, 38, 39, 40, 41, 42, 43, 44, 117, 118, 119, 120, 88, 89, 90, 121, 122, 123, 124, 125, 45, 46, 47, 48, 49, 50, 51, 126, 127, 128, 129, 72, 130, 53, 54, 52, 55, 56, 57, 58, 59, 60, 61, 62, 63, 64, 65, 66, 67, 68, 69, 70, 71, 73, 74, 75, 76, 77, 78, 79, 80, 81, 82, 83, 84, 85, 86, 87, 91, 92, 93, 94, 95, 96, 97, 98, 99, 100, 101, 102, 103, 131, 132, 133, 107, 108, 109, 110, 111, 112, 113, 114, 0, 104, 105, 106, 134, 135, 136, 137, 138, 139, 140, 141, 142, 143, 144, 145, 146, 147, 148, 149, 150, 151, 152, 153, 154] (by decide +kernel) (by decide +kernel)
set_option maxRecDepth 20000 in
theorem gX0_caughtIn_X0_answersFail : GoodIn wsX0_caughtIn (wsV RX0 93 RX0 yX0_answersFail wsX0_answersFail) := goodIn_app (goodIn_of _ (by decide +kernel)) ggX0_caughtIn_X0_answersFail
set_option maxRecDepth 20000 in
theorem ggX0_caughtIn_X4_takeBack : GoodIn wsX0_caughtIn wsX4_takeBack := goodIn_r _ [110, 17, 111, 112, 113, 114, 145, 146, 147, 148, 149, 150, 151, 152, 153] (by decide +kernel) (by decide +kernel)
set_option maxRecDepth 20000 in
theorem gX0_caughtIn_X4_takeBack : GoodIn wsX0_caughtIn (wsV RX0 96 RX4 yX4_takeBack wsX4_takeBack) := goodIn_app (goodIn_of _ (by decide +kernel)) ggX0_caughtIn_X4_takeBack
theorem dX0_caughtIn_0 : decode cX0_caughtIn 0 = .ok (.aload_n 0, 1) := by decide +kernel
theorem dX0_caughtIn_1 : decode cX0_caughtIn 1 = .ok (.getfield 9, 3) := by decide +kernel
theorem dX0_caughtIn_4 : decode cX0_caughtIn 4 = .ok (.aload_n 0, 1) := by decide +kernel
theorem dX0_caughtIn_5 : decode cX0_caughtIn 5 = .ok (.invokevirtual 61, 3) := by decide +kernel
theorem dX0_caughtIn_8 : decode cX0_caughtIn 8 = .ok (.invokevirtual 65, 3) := by decide +kernel
theorem dX0_caughtIn_11 : decode cX0_caughtIn 11 = .ok (.aload_n 0, 1) := by decide +kernel
theorem dX0_caughtIn_12 : decode cX0_caughtIn 12 = .ok (.getfield 15, 3) := by decide +kernel
theorem dX0_caughtIn_15 : decode cX0_caughtIn 15 = .ok (.invokevirtual 69, 3) := by decide +kernel
theorem dX0_caughtIn_18 : decode cX0_caughtIn 18 = .ok (.land, 1) := by decide +kernel
theorem dX0_caughtIn_19 : decode cX0_caughtIn 19 = .ok (.lstore_n 2, 1) := by decide +kernel
theorem dX0_caughtIn_20 : decode cX0_caughtIn 20 = .ok (.lload_n 2, 1) := by decide +kernel
theorem dX0_caughtIn_21 : decode cX0_caughtIn 21 = .ok (.invokestatic 72, 3) := by decide +kernel
theorem dX0_caughtIn_24 : decode cX0_caughtIn 24 = .ok (.istore 4, 2) := by decide +kernel
theorem dX0_caughtIn_26 : decode cX0_caughtIn 26 = .ok (.iload 4, 2) := by decide +kernel
theorem dX0_caughtIn_28 : decode cX0_caughtIn 28 = .ok (.iconst 1, 1) := by decide +kernel
theorem dX0_caughtIn_29 : decode cX0_caughtIn 29 = .ok (.if_icmp .lt 15, 3) := by decide +kernel
theorem dX0_caughtIn_32 : decode cX0_caughtIn 32 = .ok (.iload 4, 2) := by decide +kernel
theorem dX0_caughtIn_34 : decode cX0_caughtIn 34 = .ok (.iconst 2, 1) := by decide +kernel
theorem dX0_caughtIn_35 : decode cX0_caughtIn 35 = .ok (.if_icmp .gt 9, 3) := by decide +kernel
theorem dX0_caughtIn_38 : decode cX0_caughtIn 38 = .ok (.iload_n 1, 1) := by decide +kernel
theorem dX0_caughtIn_39 : decode cX0_caughtIn 39 = .ok (.iload 4, 2) := by decide +kernel
theorem dX0_caughtIn_41 : decode cX0_caughtIn 41 = .ok (.if_icmp .ge 5, 3) := by decide +kernel
theorem dX0_caughtIn_44 : decode cX0_caughtIn 44 = .ok (.iconst 0, 1) := by decide +kernel
theorem dX0_caughtIn_45 : decode cX0_caughtIn 45 = .ok (.ireturn, 1) := by decide +kernel
theorem dX0_caughtIn_46 : decode cX0_caughtIn 46 = .ok (.iconst 0, 1) := by decide +kernel
theorem dX0_caughtIn_47 : decode cX0_caughtIn 47 = .ok (.istore 5, 2) := by decide +kernel
theorem dX0_caughtIn_49 : decode cX0_caughtIn 49 = .ok (.iconst 0, 1) := by decide +kernel
theorem dX0_caughtIn_50 : decode cX0_caughtIn 50 = .ok (.istore 6, 2) := by decide +kernel
theorem dX0_caughtIn_52 : decode cX0_caughtIn 52 = .ok (.iload 6, 2) := by decide +kernel
theorem dX0_caughtIn_54 : decode cX0_caughtIn 54 = .ok (.aload_n 0, 1) := by decide +kernel
theorem dX0_caughtIn_55 : decode cX0_caughtIn 55 = .ok (.getfield 9, 3) := by decide +kernel
theorem dX0_caughtIn_58 : decode cX0_caughtIn 58 = .ok (.getfield 78, 3) := by decide +kernel
theorem dX0_caughtIn_61 : decode cX0_caughtIn 61 = .ok (.if_icmp .ge 79, 3) := by decide +kernel
theorem dX0_caughtIn_64 : decode cX0_caughtIn 64 = .ok (.iload 5, 2) := by decide +kernel
theorem dX0_caughtIn_66 : decode cX0_caughtIn 66 = .ok (.ifCond .ne 74, 3) := by decide +kernel
theorem dX0_caughtIn_69 : decode cX0_caughtIn 69 = .ok (.lload_n 2, 1) := by decide +kernel
theorem dX0_caughtIn_70 : decode cX0_caughtIn 70 = .ok (.iload 6, 2) := by decide +kernel
theorem dX0_caughtIn_72 : decode cX0_caughtIn 72 = .ok (.invokestatic 81, 3) := by decide +kernel
theorem dX0_caughtIn_75 : decode cX0_caughtIn 75 = .ok (.ifCond .eq 59, 3) := by decide +kernel
theorem dX0_caughtIn_78 : decode cX0_caughtIn 78 = .ok (.aload_n 0, 1) := by decide +kernel
theorem dX0_caughtIn_79 : decode cX0_caughtIn 79 = .ok (.getfield 15, 3) := by decide +kernel
theorem dX0_caughtIn_82 : decode cX0_caughtIn 82 = .ok (.iload 6, 2) := by decide +kernel
theorem dX0_caughtIn_84 : decode cX0_caughtIn 84 = .ok (.invokevirtual 85, 3) := by decide +kernel
theorem dX0_caughtIn_87 : decode cX0_caughtIn 87 = .ok (.ifCond .ne 6, 3) := by decide +kernel
theorem dX0_caughtIn_90 : decode cX0_caughtIn 90 = .ok (.goto 44, 3) := by decide +kernel
theorem dX0_caughtIn_93 : decode cX0_caughtIn 93 = .ok (.aload_n 0, 1) := by decide +kernel
theorem dX0_caughtIn_94 : decode cX0_caughtIn 94 = .ok (.getfield 19, 3) := by decide +kernel
theorem dX0_caughtIn_97 : decode cX0_caughtIn 97 = .ok (.invokevirtual 89, 3) := by decide +kernel
theorem dX0_caughtIn_100 : decode cX0_caughtIn 100 = .ok (.ifCond .ne 10, 3) := by decide +kernel
theorem dX0_caughtIn_103 : decode cX0_caughtIn 103 = .ok (.bipush (-5), 2) := by decide +kernel
theorem dX0_caughtIn_105 : decode cX0_caughtIn 105 = .ok (.istore 5, 2) := by decide +kernel
theorem dX0_caughtIn_107 : decode cX0_caughtIn 107 = .ok (.goto 20, 3) := by decide +kernel
theorem dX0_caughtIn_110 : decode cX0_caughtIn 110 = .ok (.iload 4, 2) := by decide +kernel
theorem dX0_caughtIn_112 : decode cX0_caughtIn 112 = .ok (.iconst 1, 1) := by decide +kernel
theorem dX0_caughtIn_113 : decode cX0_caughtIn 113 = .ok (.if_icmp .ne 7, 3) := by decide +kernel
theorem dX0_caughtIn_116 : decode cX0_caughtIn 116 = .ok (.iconst 1, 1) := by decide +kernel
theorem dX0_caughtIn_117 : decode cX0_caughtIn 117 = .ok (.goto 8, 3) := by decide +kernel
theorem dX0_caughtIn_120 : decode cX0_caughtIn 120 = .ok (.aload_n 0, 1) := by decide +kernel
theorem dX0_caughtIn_121 : decode cX0_caughtIn 121 = .ok (.iload_n 1, 1) := by decide +kernel
theorem dX0_caughtIn_122 : decode cX0_caughtIn 122 = .ok (.invokevirtual 93, 3) := by decide +kernel
theorem dX0_caughtIn_125 : decode cX0_caughtIn 125 = .ok (.istore 5, 2) := by decide +kernel
theorem dX0_caughtIn_127 : decode cX0_caughtIn 127 = .ok (.aload_n 0, 1) := by decide +kernel
theorem dX0_caughtIn_128 : decode cX0_caughtIn 128 = .ok (.getfield 15, 3) := by decide +kernel
theorem dX0_caughtIn_131 : decode cX0_caughtIn 131 = .ok (.invokevirtual 96, 3) := by decide +kernel
theorem dX0_caughtIn_134 : decode cX0_caughtIn 134 = .ok (.iinc 6 1, 3) := by decide +kernel
theorem dX0_caughtIn_137 : decode cX0_caughtIn 137 = .ok (.goto (-85), 3) := by decide +kernel
theorem dX0_caughtIn_140 : decode cX0_caughtIn 140 = .ok (.iload 5, 2) := by decide +kernel
theorem dX0_caughtIn_142 : decode cX0_caughtIn 142 = .ok (.ireturn, 1) := by decide +kernel
set_option maxRecDepth 20000 in
theorem ggX0_answersFail_X0_targetGroup : GoodIn wsX0_answersFail wsX0_targetGroup := goodIn_r _ [10, 1, 11, 2, 12, 13, 14, 15, 16, 17, 18, 19, 20, 21, 22, 23, 24, 25, 26, 27, 28, 29, 30, 31, 32, 33, 34, 35, 36, 37, 134, 135, 136, 137, 138, 145, 146, 147, 148, 149, 150, 151, 152, 153, 139, 140, 141, 142, 143, 144] (by decide +kernel) (by decide +kernel)
set_option maxRecDepth 20000 in
theorem gX0_answersFail_X0_targetGroup : GoodIn wsX0_answersFail (wsV RX0 61 RX0 yX0_targetGroup wsX0_targetGroup) := goodIn_app (goodIn_of _ (by decide +kernel)) ggX0_answersFail_X0_targetGroup
set_option maxRecDepth 20000 in
theorem ggX0_answersFail_X2_beside : GoodIn wsX0_answersFail wsX2_beside := goodIn_r _ [33, 34, 35, 36, 37, 139, 140, 141, 142, 143, 144] (by decide +kernel) (by decide +kernel)
set_option maxRecDepth 20000 in
theorem gX0_answersFail_X2_beside : GoodIn wsX0_answersFail (wsV RX0 65 RX2 yX2_beside wsX2_beside) := goodIn_app (goodIn_of _ (by decide +kernel)) ggX0_answersFail_X2_beside
set_option maxRecDepth 20000 in
theorem ggX0_answersFail_X4_free : GoodIn wsX0_answersFail wsX4_free := goodIn_r _ [42, 43, 44, 18, 45, 19, 20, 21, 16, 22, 23, 24, 145, 146, 147, 148, 149, 150, 151, 152, 153, 139, 140, 141, 142, 143, 144] (by decide +kernel) (by decide +kernel)
set_option maxRecDepth 20000 in
theorem gX0_answersFail_X4_free : GoodIn wsX0_answersFail (wsV RX0 69 RX4 yX4_free wsX4_free) := goodIn_app (goodIn_of _ (by decide +kernel)) ggX0_answersFail_X4_free
set_option maxRecDepth 20000 in
theorem ggX0_answersFail_X0_takingCrossings : GoodIn wsX0_answersFail wsX0_takingCrossings := goodIn_r _ [49, 1, 2, 12, 4, 38, 31, 32, 28, 33, 34, 35, 36, 37, 50, 51, 52, 13, 14, 15, 16, 17, 18, 19, 20, 21, 22, 23, 24, 25, 26, 27, 29, 30, 53, 54, 55, 56, 57, 39, 40, 41, 42, 43, 44, 45, 58, 59, 60, 61, 62, 63, 64, 134, 135, 136, 137, 138, 139, 140, 141, 142, 143, 144, 145, 146, 147, 148, 149, 150, 151, 152, 153] (by decide +kernel) (by decide +kernel)
set_option maxRecDepth 20000 in
theorem gX0_answersFail_X0_takingCrossings : GoodIn wsX0_answersFail (wsV RX0 99 RX0 yX0_takingCrossings wsX0_takingCrossings) := goodIn_app (goodIn_of _ (by decide +kernel)) ggX0_answersFail_X0_takingCrossings
set_option maxRecDepth 20000 in
theorem ggX0_answersFail_J13_bitCount_95d88 : GoodIn wsX0_answersFail wsJ13_bitCount_95d88 := goodIn_r _ [61, 62, 63, 64] (by decide +kernel) (by decide +kernel)
set_option maxRecDepth 20000 in
theorem gX0_answersFail_J13_bitCount_95d88 : GoodIn wsX0_answersFail (va_wsS RX0 72 yJ13_bitCount_95d88 wsJ13_bitCount_95d88) := goodIn_app (goodIn_of _ (by decide +kernel)) ggX0_answersFail_J13_bitCount_95d88
set_option maxRecDepth 20000 in
theorem ggX0_answersFail_X2_nth : GoodIn wsX0_answersFail wsX2_nth := goodIn_r _ [68, 69, 70, 71, 28, 72, 139, 140, 141, 142, 143, 144] (by decide +kernel) (by decide +kernel)
set_option maxRecDepth 20000 in
theorem gX0_answersFail_X2_nth : GoodIn wsX0_answersFail (wsV RX0 104 RX2 yX2_nth wsX2_nth) := goodIn_app (goodIn_of _ (by decide +kernel)) ggX0_answersFail_X2_nth
set_option maxRecDepth 20000 in
theorem ggX0_answersFail_X2_holds : GoodIn wsX0_answersFail wsX2_holds := goodIn_r _ [72] (by decide +kernel) (by decide +kernel)
set_option maxRecDepth 20000 in
theorem gX0_answersFail_X2_holds : GoodIn wsX0_answersFail (va_wsS RX0 81 yX2_holds wsX2_holds) := goodIn_app (goodIn_of _ (by decide +kernel)) ggX0_answersFail_X2_holds
set_option maxRecDepth 20000 in
theorem ggX0_answersFail_X4_add : GoodIn wsX0_answersFail wsX4_add := goodIn_r _ [77, 18, 23, 78, 43, 79, 80, 81, 82, 14, 15, 16, 17, 19, 20, 21, 22, 24, 83, 84, 85, 86, 87, 88, 89, 28, 90, 69, 91, 92, 93, 94, 44, 45, 95, 40, 41, 42, 96, 71, 72, 97, 98, 99, 100, 101, 102, 103, 104, 105, 50, 51, 52, 106, 31, 32, 33, 34, 35, 36, 37, 107, 26, 27, 29, 30, 108, 109, 110, 111, 112, 145, 146, 147, 148, 149, 150, 151, 152, 153, 139, 140, 141, 142, 143, 144] (by decide +kernel) (by decide +kernel)
set_option maxRecDepth 20000 in
theorem gX0_answersFail_X4_add : GoodIn wsX0_answersFail (wsV RX0 85 RX4 yX4_add wsX4_add) := goodIn_app (goodIn_of _ (by decide +kernel)) ggX0_answersFail_X4_add
set_option maxRecDepth 20000 in
theorem ggX0_answersFail_X5_oneMore : GoodIn wsX0_answersFail wsX5_oneMore := goodIn_r _ [117, 118, 154] (by decide +kernel) (by decide +kernel)
set_option maxRecDepth 20000 in
theorem gX0_answersFail_X5_oneMore : GoodIn wsX0_answersFail (wsV RX0 89 RX5 yX5_oneMore wsX5_oneMore) := goodIn_app (goodIn_of _ (by decide +kernel)) ggX0_answersFail_X5_oneMore
set_option maxRecDepth 20000 in
theorem ggX0_answersFail_X0_caughtIn : GoodIn wsX0_answersFail wsX0_caughtIn := goodIn_r _ [130, 1, 2, 4, 5, 6, 7, 8, 9, 10, 11, 12, 13, 14, 15, 16, 17, 18, 19, 20, 21, 22, 23, 24, 25, 26, 27, 28, 29, 30, 31, 32, 33, 34, 35, 36, 37, 38, 39, 40, 41, 42, 43, 44, 45, 58, 59, 60, 61, 62, 63, 64, 73, 71, 72, 74, 75, 76, 77, 78, 79, 80, 81, 82, 83, 84, 85, 86, 87, 88, 89, 90, 69, 91, 92, 93, 94, 95, 96, 97, 98, 99, 100, 101, 102, 103, 104, 105, 50, 51, 52, 106, 107, 108, 109, 110, 111, 112, 113, 114, 115, 116, 117, 118, 131, 132, 133, 122, 123, 124, 125, 126, 127, 128, 129, 0, 3, 46, 47, 48, 49, 53, 54, 55, 56, 57, 65, 66, 67, 68, 70, 119, 120, 121, 134, 135, 136, 137, 138, 139, 140, 141, 142, 143, 144, 145, 146, 147, 148, 149, 150, 151, 152, 153, 154] (by decide +kernel) (by decide +kernel)
set_option maxRecDepth 20000 in
theorem gX0_answersFail_X0_caughtIn : GoodIn wsX0_answersFail (wsV RX0 52 RX0 yX0_caughtIn wsX0_caughtIn) := goodIn_app (goodIn_of _ (by decide +kernel)) ggX0_answersFail_X0_caughtIn
set_option maxRecDepth 20000 in
theorem ggX0_answersFail_X4_takeBack : GoodIn wsX0_answersFail wsX4_takeBack := goodIn_r _ [125, 18, 126, 127, 128, 129, 145, 146, 147, 148, 149, 150, 151, 152, 153] (by decide +kernel) (by decide +kernel)
set_option maxRecDepth 20000 in
theorem gX0_answersFail_X4_takeBack : GoodIn wsX0_answersFail (wsV RX0 96 RX4 yX4_takeBack wsX4_takeBack) := goodIn_app (goodIn_of _ (by decide +kernel)) ggX0_answersFail_X4_takeBack
theorem dX0_answersFail_0 : decode cX0_answersFail 0 = .ok (.aload_n 0, 1) := by decide +kernel
theorem dX0_answersFail_1 : decode cX0_answersFail 1 = .ok (.invokevirtual 61, 3) := by decide +kernel
theorem dX0_answersFail_4 : decode cX0_answersFail 4 = .ok (.lstore_n 2, 1) := by decide +kernel
theorem dX0_answersFail_5 : decode cX0_answersFail 5 = .ok (.aload_n 0, 1) := by decide +kernel
theorem dX0_answersFail_6 : decode cX0_answersFail 6 = .ok (.getfield 9, 3) := by decide +kernel
theorem dX0_answersFail_9 : decode cX0_answersFail 9 = .ok (.lload_n 2, 1) := by decide +kernel
theorem dX0_answersFail_10 : decode cX0_answersFail 10 = .ok (.invokevirtual 65, 3) := by decide +kernel
theorem dX0_answersFail_13 : decode cX0_answersFail 13 = .ok (.aload_n 0, 1) := by decide +kernel
theorem dX0_answersFail_14 : decode cX0_answersFail 14 = .ok (.getfield 15, 3) := by decide +kernel
theorem dX0_answersFail_17 : decode cX0_answersFail 17 = .ok (.invokevirtual 69, 3) := by decide +kernel
theorem dX0_answersFail_20 : decode cX0_answersFail 20 = .ok (.land, 1) := by decide +kernel
theorem dX0_answersFail_21 : decode cX0_answersFail 21 = .ok (.lstore 4, 2) := by decide +kernel
theorem dX0_answersFail_23 : decode cX0_answersFail 23 = .ok (.aload_n 0, 1) := by decide +kernel
theorem dX0_answersFail_24 : decode cX0_answersFail 24 = .ok (.lload_n 2, 1) := by decide +kernel
theorem dX0_answersFail_25 : decode cX0_answersFail 25 = .ok (.invokevirtual 99, 3) := by decide +kernel
theorem dX0_answersFail_28 : decode cX0_answersFail 28 = .ok (.lload 4, 2) := by decide +kernel
theorem dX0_answersFail_30 : decode cX0_answersFail 30 = .ok (.ldc2_w 102, 3) := by decide +kernel
theorem dX0_answersFail_33 : decode cX0_answersFail 33 = .ok (.lxor, 1) := by decide +kernel
theorem dX0_answersFail_34 : decode cX0_answersFail 34 = .ok (.land, 1) := by decide +kernel
theorem dX0_answersFail_35 : decode cX0_answersFail 35 = .ok (.lstore 6, 2) := by decide +kernel
theorem dX0_answersFail_37 : decode cX0_answersFail 37 = .ok (.lload 4, 2) := by decide +kernel
theorem dX0_answersFail_39 : decode cX0_answersFail 39 = .ok (.invokestatic 72, 3) := by decide +kernel
theorem dX0_answersFail_42 : decode cX0_answersFail 42 = .ok (.iconst 1, 1) := by decide +kernel
theorem dX0_answersFail_43 : decode cX0_answersFail 43 = .ok (.if_icmp .ne 7, 3) := by decide +kernel
theorem dX0_answersFail_46 : decode cX0_answersFail 46 = .ok (.iconst 1, 1) := by decide +kernel
theorem dX0_answersFail_47 : decode cX0_answersFail 47 = .ok (.goto 4, 3) := by decide +kernel
theorem dX0_answersFail_50 : decode cX0_answersFail 50 = .ok (.iconst 0, 1) := by decide +kernel
theorem dX0_answersFail_51 : decode cX0_answersFail 51 = .ok (.istore 8, 2) := by decide +kernel
theorem dX0_answersFail_53 : decode cX0_answersFail 53 = .ok (.iconst (-1), 1) := by decide +kernel
theorem dX0_answersFail_54 : decode cX0_answersFail 54 = .ok (.istore 9, 2) := by decide +kernel
theorem dX0_answersFail_56 : decode cX0_answersFail 56 = .ok (.iload 9, 2) := by decide +kernel
theorem dX0_answersFail_58 : decode cX0_answersFail 58 = .ok (.aload_n 0, 1) := by decide +kernel
theorem dX0_answersFail_59 : decode cX0_answersFail 59 = .ok (.getfield 9, 3) := by decide +kernel
theorem dX0_answersFail_62 : decode cX0_answersFail 62 = .ok (.getfield 78, 3) := by decide +kernel
theorem dX0_answersFail_65 : decode cX0_answersFail 65 = .ok (.if_icmp .ge 107, 3) := by decide +kernel
theorem dX0_answersFail_68 : decode cX0_answersFail 68 = .ok (.iload 8, 2) := by decide +kernel
theorem dX0_answersFail_70 : decode cX0_answersFail 70 = .ok (.iconst 1, 1) := by decide +kernel
theorem dX0_answersFail_71 : decode cX0_answersFail 71 = .ok (.if_icmp .ne 101, 3) := by decide +kernel
theorem dX0_answersFail_74 : decode cX0_answersFail 74 = .ok (.iload 9, 2) := by decide +kernel
theorem dX0_answersFail_76 : decode cX0_answersFail 76 = .ok (.ifCond .ge 16, 3) := by decide +kernel
theorem dX0_answersFail_79 : decode cX0_answersFail 79 = .ok (.aload_n 0, 1) := by decide +kernel
theorem dX0_answersFail_80 : decode cX0_answersFail 80 = .ok (.getfield 9, 3) := by decide +kernel
theorem dX0_answersFail_83 : decode cX0_answersFail 83 = .ok (.lload 4, 2) := by decide +kernel
theorem dX0_answersFail_85 : decode cX0_answersFail 85 = .ok (.iconst 0, 1) := by decide +kernel
theorem dX0_answersFail_86 : decode cX0_answersFail 86 = .ok (.invokevirtual 104, 3) := by decide +kernel
theorem dX0_answersFail_89 : decode cX0_answersFail 89 = .ok (.goto 5, 3) := by decide +kernel
theorem dX0_answersFail_92 : decode cX0_answersFail 92 = .ok (.iload 9, 2) := by decide +kernel
theorem dX0_answersFail_94 : decode cX0_answersFail 94 = .ok (.istore 10, 2) := by decide +kernel
theorem dX0_answersFail_96 : decode cX0_answersFail 96 = .ok (.iload 9, 2) := by decide +kernel
theorem dX0_answersFail_98 : decode cX0_answersFail 98 = .ok (.ifCond .lt 13, 3) := by decide +kernel
theorem dX0_answersFail_101 : decode cX0_answersFail 101 = .ok (.lload 6, 2) := by decide +kernel
theorem dX0_answersFail_103 : decode cX0_answersFail 103 = .ok (.iload 10, 2) := by decide +kernel
theorem dX0_answersFail_105 : decode cX0_answersFail 105 = .ok (.invokestatic 81, 3) := by decide +kernel
theorem dX0_answersFail_108 : decode cX0_answersFail 108 = .ok (.ifCond .eq 7, 3) := by decide +kernel
theorem dX0_answersFail_111 : decode cX0_answersFail 111 = .ok (.iconst 1, 1) := by decide +kernel
theorem dX0_answersFail_112 : decode cX0_answersFail 112 = .ok (.goto 4, 3) := by decide +kernel
theorem dX0_answersFail_115 : decode cX0_answersFail 115 = .ok (.iconst 0, 1) := by decide +kernel
theorem dX0_answersFail_116 : decode cX0_answersFail 116 = .ok (.istore 11, 2) := by decide +kernel
theorem dX0_answersFail_118 : decode cX0_answersFail 118 = .ok (.iload 11, 2) := by decide +kernel
theorem dX0_answersFail_120 : decode cX0_answersFail 120 = .ok (.ifCond .eq 46, 3) := by decide +kernel
theorem dX0_answersFail_123 : decode cX0_answersFail 123 = .ok (.aload_n 0, 1) := by decide +kernel
theorem dX0_answersFail_124 : decode cX0_answersFail 124 = .ok (.getfield 15, 3) := by decide +kernel
theorem dX0_answersFail_127 : decode cX0_answersFail 127 = .ok (.iload 10, 2) := by decide +kernel
theorem dX0_answersFail_129 : decode cX0_answersFail 129 = .ok (.invokevirtual 85, 3) := by decide +kernel
theorem dX0_answersFail_132 : decode cX0_answersFail 132 = .ok (.ifCond .eq 34, 3) := by decide +kernel
theorem dX0_answersFail_135 : decode cX0_answersFail 135 = .ok (.aload_n 0, 1) := by decide +kernel
theorem dX0_answersFail_136 : decode cX0_answersFail 136 = .ok (.getfield 19, 3) := by decide +kernel
theorem dX0_answersFail_139 : decode cX0_answersFail 139 = .ok (.invokevirtual 89, 3) := by decide +kernel
theorem dX0_answersFail_142 : decode cX0_answersFail 142 = .ok (.ifCond .eq 13, 3) := by decide +kernel
theorem dX0_answersFail_145 : decode cX0_answersFail 145 = .ok (.aload_n 0, 1) := by decide +kernel
theorem dX0_answersFail_146 : decode cX0_answersFail 146 = .ok (.iload_n 1, 1) := by decide +kernel
theorem dX0_answersFail_147 : decode cX0_answersFail 147 = .ok (.iconst 1, 1) := by decide +kernel
theorem dX0_answersFail_148 : decode cX0_answersFail 148 = .ok (.isub, 1) := by decide +kernel
theorem dX0_answersFail_149 : decode cX0_answersFail 149 = .ok (.invokevirtual 52, 3) := by decide +kernel
theorem dX0_answersFail_152 : decode cX0_answersFail 152 = .ok (.goto 5, 3) := by decide +kernel
theorem dX0_answersFail_155 : decode cX0_answersFail 155 = .ok (.bipush (-5), 2) := by decide +kernel
theorem dX0_answersFail_157 : decode cX0_answersFail 157 = .ok (.istore 8, 2) := by decide +kernel
theorem dX0_answersFail_159 : decode cX0_answersFail 159 = .ok (.aload_n 0, 1) := by decide +kernel
theorem dX0_answersFail_160 : decode cX0_answersFail 160 = .ok (.getfield 15, 3) := by decide +kernel
theorem dX0_answersFail_163 : decode cX0_answersFail 163 = .ok (.invokevirtual 96, 3) := by decide +kernel
theorem dX0_answersFail_166 : decode cX0_answersFail 166 = .ok (.iinc 9 1, 3) := by decide +kernel
theorem dX0_answersFail_169 : decode cX0_answersFail 169 = .ok (.goto (-113), 3) := by decide +kernel
theorem dX0_answersFail_172 : decode cX0_answersFail 172 = .ok (.iload 8, 2) := by decide +kernel
theorem dX0_answersFail_174 : decode cX0_answersFail 174 = .ok (.ireturn, 1) := by decide +kernel
set_option maxRecDepth 20000 in
theorem ggX0_takingCrossings_X2_beside : GoodIn wsX0_takingCrossings wsX2_beside := goodIn_r _ [9, 10, 11, 12, 13, 58, 59, 60, 61, 62, 63] (by decide +kernel) (by decide +kernel)
set_option maxRecDepth 20000 in
theorem gX0_takingCrossings_X2_beside : GoodIn wsX0_takingCrossings (wsV RX0 65 RX2 yX2_beside wsX2_beside) := goodIn_app (goodIn_of _ (by decide +kernel)) ggX0_takingCrossings_X2_beside
set_option maxRecDepth 20000 in
theorem ggX0_takingCrossings_X6_other : GoodIn wsX0_takingCrossings wsX6_other := goodIn_r _ [16] (by decide +kernel) (by decide +kernel)
set_option maxRecDepth 20000 in
theorem gX0_takingCrossings_X6_other_n45 : GoodIn wsX0_takingCrossings (wsX6_other) := ggX0_takingCrossings_X6_other
set_option maxRecDepth 20000 in
theorem ggX0_takingCrossings_X4_stonesOf : GoodIn wsX0_takingCrossings wsX4_stonesOf := goodIn_r _ [21, 22, 23, 24, 25, 20, 26, 27, 28, 64, 65, 66, 67, 68, 69, 70, 71, 72] (by decide +kernel) (by decide +kernel)
set_option maxRecDepth 20000 in
theorem gX0_takingCrossings_X4_stonesOf : GoodIn wsX0_takingCrossings (wsV RX0 41 RX4 yX4_stonesOf wsX4_stonesOf) := goodIn_app (goodIn_of _ (by decide +kernel)) ggX0_takingCrossings_X4_stonesOf
set_option maxRecDepth 20000 in
theorem ggX0_takingCrossings_X2_spread : GoodIn wsX0_takingCrossings wsX2_spread := goodIn_r _ [32, 33, 6, 7, 8, 9, 10, 11, 12, 13, 58, 59, 60, 61, 62, 63] (by decide +kernel) (by decide +kernel)
set_option maxRecDepth 20000 in
theorem gX0_takingCrossings_X2_spread : GoodIn wsX0_takingCrossings (wsV RX0 55 RX2 yX2_spread wsX2_spread) := goodIn_app (goodIn_of _ (by decide +kernel)) ggX0_takingCrossings_X2_spread
set_option maxRecDepth 20000 in
theorem ggX0_takingCrossings_X2_partFrom : GoodIn wsX0_takingCrossings wsX2_partFrom := goodIn_r _ [37, 33, 6, 7, 8, 9, 10, 11, 12, 13, 38, 30, 31, 32, 58, 59, 60, 61, 62, 63] (by decide +kernel) (by decide +kernel)
set_option maxRecDepth 20000 in
theorem gX0_takingCrossings_X2_partFrom : GoodIn wsX0_takingCrossings (wsV RX0 108 RX2 yX2_partFrom wsX2_partFrom) := goodIn_app (goodIn_of _ (by decide +kernel)) ggX0_takingCrossings_X2_partFrom
set_option maxRecDepth 20000 in
theorem ggX0_takingCrossings_X4_free : GoodIn wsX0_takingCrossings wsX4_free := goodIn_r _ [42, 43, 44, 22, 45, 23, 24, 25, 20, 26, 27, 28, 64, 65, 66, 67, 68, 69, 70, 71, 72, 58, 59, 60, 61, 62, 63] (by decide +kernel) (by decide +kernel)
set_option maxRecDepth 20000 in
theorem gX0_takingCrossings_X4_free : GoodIn wsX0_takingCrossings (wsV RX0 69 RX4 yX4_free wsX4_free) := goodIn_app (goodIn_of _ (by decide +kernel)) ggX0_takingCrossings_X4_free
set_option maxRecDepth 20000 in
theorem ggX0_takingCrossings_J13_bitCount_95d88 : GoodIn wsX0_takingCrossings wsJ13_bitCount_95d88 := goodIn_r _ [49, 50, 51, 52] (by decide +kernel) (by decide +kernel)
set_option maxRecDepth 20000 in
theorem gX0_takingCrossings_J13_bitCount_95d88 : GoodIn wsX0_takingCrossings (va_wsS RX0 72 yJ13_bitCount_95d88 wsJ13_bitCount_95d88) := goodIn_app (goodIn_of _ (by decide +kernel)) ggX0_takingCrossings_J13_bitCount_95d88
theorem dX0_takingCrossings_0 : decode cX0_takingCrossings 0 = .ok (.aload_n 0, 1) := by decide +kernel
theorem dX0_takingCrossings_1 : decode cX0_takingCrossings 1 = .ok (.getfield 9, 3) := by decide +kernel
theorem dX0_takingCrossings_4 : decode cX0_takingCrossings 4 = .ok (.aload_n 0, 1) := by decide +kernel
theorem dX0_takingCrossings_5 : decode cX0_takingCrossings 5 = .ok (.getfield 9, 3) := by decide +kernel
theorem dX0_takingCrossings_8 : decode cX0_takingCrossings 8 = .ok (.lload_n 1, 1) := by decide +kernel
theorem dX0_takingCrossings_9 : decode cX0_takingCrossings 9 = .ok (.invokevirtual 65, 3) := by decide +kernel
theorem dX0_takingCrossings_12 : decode cX0_takingCrossings 12 = .ok (.aload_n 0, 1) := by decide +kernel
theorem dX0_takingCrossings_13 : decode cX0_takingCrossings 13 = .ok (.getfield 15, 3) := by decide +kernel
theorem dX0_takingCrossings_16 : decode cX0_takingCrossings 16 = .ok (.aload_n 0, 1) := by decide +kernel
theorem dX0_takingCrossings_17 : decode cX0_takingCrossings 17 = .ok (.getfield 33, 3) := by decide +kernel
theorem dX0_takingCrossings_20 : decode cX0_takingCrossings 20 = .ok (.invokestatic 45, 3) := by decide +kernel
theorem dX0_takingCrossings_23 : decode cX0_takingCrossings 23 = .ok (.invokevirtual 41, 3) := by decide +kernel
theorem dX0_takingCrossings_26 : decode cX0_takingCrossings 26 = .ok (.invokevirtual 55, 3) := by decide +kernel
theorem dX0_takingCrossings_29 : decode cX0_takingCrossings 29 = .ok (.lstore_n 3, 1) := by decide +kernel
theorem dX0_takingCrossings_30 : decode cX0_takingCrossings 30 = .ok (.lconst 0, 1) := by decide +kernel
theorem dX0_takingCrossings_31 : decode cX0_takingCrossings 31 = .ok (.lstore 5, 2) := by decide +kernel
theorem dX0_takingCrossings_33 : decode cX0_takingCrossings 33 = .ok (.iconst 0, 1) := by decide +kernel
theorem dX0_takingCrossings_34 : decode cX0_takingCrossings 34 = .ok (.istore 7, 2) := by decide +kernel
theorem dX0_takingCrossings_36 : decode cX0_takingCrossings 36 = .ok (.iload 7, 2) := by decide +kernel
theorem dX0_takingCrossings_38 : decode cX0_takingCrossings 38 = .ok (.aload_n 0, 1) := by decide +kernel
theorem dX0_takingCrossings_39 : decode cX0_takingCrossings 39 = .ok (.getfield 9, 3) := by decide +kernel
theorem dX0_takingCrossings_42 : decode cX0_takingCrossings 42 = .ok (.getfield 78, 3) := by decide +kernel
theorem dX0_takingCrossings_45 : decode cX0_takingCrossings 45 = .ok (.if_icmp .ge 52, 3) := by decide +kernel
theorem dX0_takingCrossings_48 : decode cX0_takingCrossings 48 = .ok (.aload_n 0, 1) := by decide +kernel
theorem dX0_takingCrossings_49 : decode cX0_takingCrossings 49 = .ok (.getfield 9, 3) := by decide +kernel
theorem dX0_takingCrossings_52 : decode cX0_takingCrossings 52 = .ok (.aload_n 0, 1) := by decide +kernel
theorem dX0_takingCrossings_53 : decode cX0_takingCrossings 53 = .ok (.getfield 9, 3) := by decide +kernel
theorem dX0_takingCrossings_56 : decode cX0_takingCrossings 56 = .ok (.lload_n 3, 1) := by decide +kernel
theorem dX0_takingCrossings_57 : decode cX0_takingCrossings 57 = .ok (.iload 7, 2) := by decide +kernel
theorem dX0_takingCrossings_59 : decode cX0_takingCrossings 59 = .ok (.invokevirtual 108, 3) := by decide +kernel
theorem dX0_takingCrossings_62 : decode cX0_takingCrossings 62 = .ok (.invokevirtual 65, 3) := by decide +kernel
theorem dX0_takingCrossings_65 : decode cX0_takingCrossings 65 = .ok (.aload_n 0, 1) := by decide +kernel
theorem dX0_takingCrossings_66 : decode cX0_takingCrossings 66 = .ok (.getfield 15, 3) := by decide +kernel
theorem dX0_takingCrossings_69 : decode cX0_takingCrossings 69 = .ok (.invokevirtual 69, 3) := by decide +kernel
theorem dX0_takingCrossings_72 : decode cX0_takingCrossings 72 = .ok (.land, 1) := by decide +kernel
theorem dX0_takingCrossings_73 : decode cX0_takingCrossings 73 = .ok (.lstore 8, 2) := by decide +kernel
theorem dX0_takingCrossings_75 : decode cX0_takingCrossings 75 = .ok (.lload 8, 2) := by decide +kernel
theorem dX0_takingCrossings_77 : decode cX0_takingCrossings 77 = .ok (.invokestatic 72, 3) := by decide +kernel
theorem dX0_takingCrossings_80 : decode cX0_takingCrossings 80 = .ok (.iconst 1, 1) := by decide +kernel
theorem dX0_takingCrossings_81 : decode cX0_takingCrossings 81 = .ok (.if_icmp .ne 10, 3) := by decide +kernel
theorem dX0_takingCrossings_84 : decode cX0_takingCrossings 84 = .ok (.lload 5, 2) := by decide +kernel
theorem dX0_takingCrossings_86 : decode cX0_takingCrossings 86 = .ok (.lload 8, 2) := by decide +kernel
theorem dX0_takingCrossings_88 : decode cX0_takingCrossings 88 = .ok (.lor, 1) := by decide +kernel
theorem dX0_takingCrossings_89 : decode cX0_takingCrossings 89 = .ok (.lstore 5, 2) := by decide +kernel
theorem dX0_takingCrossings_91 : decode cX0_takingCrossings 91 = .ok (.iinc 7 1, 3) := by decide +kernel
theorem dX0_takingCrossings_94 : decode cX0_takingCrossings 94 = .ok (.goto (-58), 3) := by decide +kernel
theorem dX0_takingCrossings_97 : decode cX0_takingCrossings 97 = .ok (.lload 5, 2) := by decide +kernel
theorem dX0_takingCrossings_99 : decode cX0_takingCrossings 99 = .ok (.lreturn, 1) := by decide +kernel
theorem dX1_init_0 : decode cX1_init 0 = .ok (.aload_n 0, 1) := by decide +kernel
theorem dX1_init_1 : decode cX1_init 1 = .ok (.invokespecial 3, 3) := by decide +kernel
theorem dX1_init_4 : decode cX1_init 4 = .ok (.aload_n 0, 1) := by decide +kernel
theorem dX1_init_5 : decode cX1_init 5 = .ok (.aload_n 1, 1) := by decide +kernel
theorem dX1_init_6 : decode cX1_init 6 = .ok (.putfield 9, 3) := by decide +kernel
theorem dX1_init_9 : decode cX1_init 9 = .ok (.aload_n 0, 1) := by decide +kernel
theorem dX1_init_10 : decode cX1_init 10 = .ok (.aload_n 2, 1) := by decide +kernel
theorem dX1_init_11 : decode cX1_init 11 = .ok (.putfield 15, 3) := by decide +kernel
theorem dX1_init_14 : decode cX1_init 14 = .ok (.aload_n 0, 1) := by decide +kernel
theorem dX1_init_15 : decode cX1_init 15 = .ok (.aload_n 3, 1) := by decide +kernel
theorem dX1_init_16 : decode cX1_init 16 = .ok (.putfield 19, 3) := by decide +kernel
theorem dX1_init_19 : decode cX1_init 19 = .ok (.return_, 1) := by decide +kernel
set_option maxRecDepth 20000 in
theorem ggX1_read_X4_colourAt : GoodIn wsX1_read wsX4_colourAt := goodIn_r _ [11, 12, 13, 14, 10, 15, 16, 17, 18, 19, 20, 21, 22, 23, 24, 25, 26, 118, 119, 120, 121, 122, 123, 124, 125, 126] (by decide +kernel) (by decide +kernel)
set_option maxRecDepth 20000 in
theorem gX1_read_X4_colourAt : GoodIn wsX1_read (wsV RX1 27 RX4 yX4_colourAt wsX4_colourAt) := goodIn_app (goodIn_of _ (by decide +kernel)) ggX1_read_X4_colourAt
set_option maxRecDepth 20000 in
theorem ggX1_read_X1_takenIn : GoodIn wsX1_read wsX1_takenIn := goodIn_r _ [31, 2, 3, 32, 33, 5, 4, 34, 35, 36, 10, 37, 16, 38, 39, 40, 41, 42, 43, 44, 45, 46, 21, 47, 48, 49, 50, 51, 12, 13, 14, 15, 17, 18, 19, 20, 22, 52, 53, 54, 55, 56, 57, 58, 25, 59, 60, 61, 62, 63, 64, 65, 66, 67, 68, 69, 70, 23, 24, 26, 71, 72, 73, 74, 75, 76, 77, 78, 79, 80, 81, 82, 83, 84, 85, 86, 87, 88, 89, 90, 91, 92, 93, 94, 95, 96, 97, 98, 99, 100, 101, 30, 102, 103, 104, 105, 106, 107, 108, 109, 110, 1, 7, 8, 9, 11, 27, 28, 29, 111, 112, 113, 114, 115, 116, 118, 119, 120, 121, 122, 123, 124, 125, 126, 127, 128, 129, 130, 131, 132, 117] (by decide +kernel) (by decide +kernel)
set_option maxRecDepth 20000 in
theorem gX1_read_X1_takenIn : GoodIn wsX1_read (wsV RX1 44 RX1 yX1_takenIn wsX1_takenIn) := goodIn_app (goodIn_of _ (by decide +kernel)) ggX1_read_X1_takenIn
theorem dX1_read_0 : decode cX1_read 0 = .ok (.aload_n 0, 1) := by decide +kernel
theorem dX1_read_1 : decode cX1_read 1 = .ok (.iload_n 1, 1) := by decide +kernel
theorem dX1_read_2 : decode cX1_read 2 = .ok (.putfield 23, 3) := by decide +kernel
theorem dX1_read_5 : decode cX1_read 5 = .ok (.aload_n 0, 1) := by decide +kernel
theorem dX1_read_6 : decode cX1_read 6 = .ok (.aload_n 0, 1) := by decide +kernel
theorem dX1_read_7 : decode cX1_read 7 = .ok (.getfield 15, 3) := by decide +kernel
theorem dX1_read_10 : decode cX1_read 10 = .ok (.iload_n 1, 1) := by decide +kernel
theorem dX1_read_11 : decode cX1_read 11 = .ok (.invokevirtual 27, 3) := by decide +kernel
theorem dX1_read_14 : decode cX1_read 14 = .ok (.putfield 33, 3) := by decide +kernel
theorem dX1_read_17 : decode cX1_read 17 = .ok (.aload_n 0, 1) := by decide +kernel
theorem dX1_read_18 : decode cX1_read 18 = .ok (.iconst (-1), 1) := by decide +kernel
theorem dX1_read_19 : decode cX1_read 19 = .ok (.putfield 36, 3) := by decide +kernel
theorem dX1_read_22 : decode cX1_read 22 = .ok (.aload_n 0, 1) := by decide +kernel
theorem dX1_read_23 : decode cX1_read 23 = .ok (.getfield 19, 3) := by decide +kernel
theorem dX1_read_26 : decode cX1_read 26 = .ok (.iconst 0, 1) := by decide +kernel
theorem dX1_read_27 : decode cX1_read 27 = .ok (.putfield 39, 3) := by decide +kernel
theorem dX1_read_30 : decode cX1_read 30 = .ok (.aload_n 0, 1) := by decide +kernel
theorem dX1_read_31 : decode cX1_read 31 = .ok (.iload_n 2, 1) := by decide +kernel
theorem dX1_read_32 : decode cX1_read 32 = .ok (.invokevirtual 44, 3) := by decide +kernel
theorem dX1_read_35 : decode cX1_read 35 = .ok (.ireturn, 1) := by decide +kernel
set_option maxRecDepth 20000 in
theorem ggX1_takenIn_X4_mover : GoodIn wsX1_takenIn wsX4_mover := goodIn_r _ [11, 12, 13, 14, 15, 10, 16, 17, 115, 116, 117, 118, 119, 120, 121, 122, 123] (by decide +kernel) (by decide +kernel)
set_option maxRecDepth 20000 in
theorem gX1_takenIn_X4_mover : GoodIn wsX1_takenIn (wsV RX1 47 RX4 yX4_mover wsX4_mover) := goodIn_app (goodIn_of _ (by decide +kernel)) ggX1_takenIn_X4_mover
set_option maxRecDepth 20000 in
theorem ggX1_takenIn_X4_add : GoodIn wsX1_takenIn wsX4_add := goodIn_r _ [21, 12, 22, 23, 24, 25, 26, 27, 28, 29, 30, 10, 31, 32, 33, 34, 35, 36, 37, 38, 39, 40, 41, 42, 43, 44, 45, 46, 47, 48, 49, 50, 51, 52, 53, 54, 55, 56, 57, 58, 59, 60, 8, 9, 11, 13, 14, 15, 16, 17, 61, 62, 63, 64, 65, 66, 67, 68, 69, 70, 71, 72, 73, 74, 75, 76, 77, 78, 79, 80, 81, 115, 116, 117, 118, 119, 120, 121, 122, 123, 124, 125, 126, 127, 128, 129] (by decide +kernel) (by decide +kernel)
set_option maxRecDepth 20000 in
theorem gX1_takenIn_X4_add : GoodIn wsX1_takenIn (wsV RX1 56 RX4 yX4_add wsX4_add) := goodIn_app (goodIn_of _ (by decide +kernel)) ggX1_takenIn_X4_add
set_option maxRecDepth 20000 in
theorem ggX1_takenIn_X5_oneMore : GoodIn wsX1_takenIn wsX5_oneMore := goodIn_r _ [86, 87, 130] (by decide +kernel) (by decide +kernel)
set_option maxRecDepth 20000 in
theorem gX1_takenIn_X5_oneMore : GoodIn wsX1_takenIn (wsV RX1 60 RX5 yX5_oneMore wsX5_oneMore) := goodIn_app (goodIn_of _ (by decide +kernel)) ggX1_takenIn_X5_oneMore
set_option maxRecDepth 20000 in
theorem ggX1_takenIn_X1_takenBehindAct : GoodIn wsX1_takenIn wsX1_takenBehindAct := goodIn_r _ [100, 1, 101, 2, 102, 103, 104, 10, 105, 28, 29, 30, 31, 12, 32, 33, 34, 35, 22, 36, 57, 58, 44, 59, 106, 107, 108, 91, 0, 3, 4, 5, 6, 7, 8, 9, 11, 13, 14, 15, 16, 17, 18, 19, 20, 21, 23, 24, 25, 26, 27, 37, 38, 39, 40, 41, 42, 43, 45, 46, 47, 48, 49, 50, 51, 52, 53, 54, 55, 56, 60, 61, 62, 63, 64, 65, 66, 67, 68, 69, 70, 71, 72, 73, 74, 75, 76, 77, 78, 79, 80, 81, 82, 83, 84, 85, 86, 87, 88, 89, 90, 92, 93, 94, 95, 96, 97, 98, 99, 109, 110, 111, 112, 113, 114, 115, 116, 117, 118, 119, 120, 121, 122, 123, 124, 125, 126, 127, 128, 129, 130] (by decide +kernel) (by decide +kernel)
set_option maxRecDepth 20000 in
theorem gX1_takenIn_X1_takenBehindAct : GoodIn wsX1_takenIn (wsV RX1 64 RX1 yX1_takenBehindAct wsX1_takenBehindAct) := goodIn_app (goodIn_of _ (by decide +kernel)) ggX1_takenIn_X1_takenBehindAct
set_option maxRecDepth 20000 in
theorem ggX1_takenIn_X4_takeBack : GoodIn wsX1_takenIn wsX4_takeBack := goodIn_r _ [95, 12, 96, 97, 98, 99, 115, 116, 117, 118, 119, 120, 121, 122, 123] (by decide +kernel) (by decide +kernel)
set_option maxRecDepth 20000 in
theorem gX1_takenIn_X4_takeBack : GoodIn wsX1_takenIn (wsV RX1 67 RX4 yX4_takeBack wsX4_takeBack) := goodIn_app (goodIn_of _ (by decide +kernel)) ggX1_takenIn_X4_takeBack
theorem dX1_takenIn_0 : decode cX1_takenIn 0 = .ok (.iload_n 1, 1) := by decide +kernel
theorem dX1_takenIn_1 : decode cX1_takenIn 1 = .ok (.iconst 1, 1) := by decide +kernel
theorem dX1_takenIn_2 : decode cX1_takenIn 2 = .ok (.if_icmp .ge 5, 3) := by decide +kernel
theorem dX1_takenIn_5 : decode cX1_takenIn 5 = .ok (.iconst 0, 1) := by decide +kernel
theorem dX1_takenIn_6 : decode cX1_takenIn 6 = .ok (.ireturn, 1) := by decide +kernel
theorem dX1_takenIn_7 : decode cX1_takenIn 7 = .ok (.aload_n 0, 1) := by decide +kernel
theorem dX1_takenIn_8 : decode cX1_takenIn 8 = .ok (.getfield 15, 3) := by decide +kernel
theorem dX1_takenIn_11 : decode cX1_takenIn 11 = .ok (.invokevirtual 47, 3) := by decide +kernel
theorem dX1_takenIn_14 : decode cX1_takenIn 14 = .ok (.aload_n 0, 1) := by decide +kernel
theorem dX1_takenIn_15 : decode cX1_takenIn 15 = .ok (.getfield 33, 3) := by decide +kernel
theorem dX1_takenIn_18 : decode cX1_takenIn 18 = .ok (.if_icmp .ne 7, 3) := by decide +kernel
theorem dX1_takenIn_21 : decode cX1_takenIn 21 = .ok (.iconst 1, 1) := by decide +kernel
theorem dX1_takenIn_22 : decode cX1_takenIn 22 = .ok (.goto 4, 3) := by decide +kernel
theorem dX1_takenIn_25 : decode cX1_takenIn 25 = .ok (.iconst 0, 1) := by decide +kernel
theorem dX1_takenIn_26 : decode cX1_takenIn 26 = .ok (.istore_n 2, 1) := by decide +kernel
theorem dX1_takenIn_27 : decode cX1_takenIn 27 = .ok (.iconst 0, 1) := by decide +kernel
theorem dX1_takenIn_28 : decode cX1_takenIn 28 = .ok (.istore_n 3, 1) := by decide +kernel
theorem dX1_takenIn_29 : decode cX1_takenIn 29 = .ok (.iload_n 3, 1) := by decide +kernel
theorem dX1_takenIn_30 : decode cX1_takenIn 30 = .ok (.aload_n 0, 1) := by decide +kernel
theorem dX1_takenIn_31 : decode cX1_takenIn 31 = .ok (.getfield 9, 3) := by decide +kernel
theorem dX1_takenIn_34 : decode cX1_takenIn 34 = .ok (.getfield 51, 3) := by decide +kernel
theorem dX1_takenIn_37 : decode cX1_takenIn 37 = .ok (.if_icmp .gt 66, 3) := by decide +kernel
theorem dX1_takenIn_40 : decode cX1_takenIn 40 = .ok (.aload_n 0, 1) := by decide +kernel
theorem dX1_takenIn_41 : decode cX1_takenIn 41 = .ok (.getfield 15, 3) := by decide +kernel
theorem dX1_takenIn_44 : decode cX1_takenIn 44 = .ok (.iload_n 3, 1) := by decide +kernel
theorem dX1_takenIn_45 : decode cX1_takenIn 45 = .ok (.invokevirtual 56, 3) := by decide +kernel
theorem dX1_takenIn_48 : decode cX1_takenIn 48 = .ok (.ifCond .ne 6, 3) := by decide +kernel
theorem dX1_takenIn_51 : decode cX1_takenIn 51 = .ok (.goto 46, 3) := by decide +kernel
theorem dX1_takenIn_54 : decode cX1_takenIn 54 = .ok (.aload_n 0, 1) := by decide +kernel
theorem dX1_takenIn_55 : decode cX1_takenIn 55 = .ok (.getfield 19, 3) := by decide +kernel
theorem dX1_takenIn_58 : decode cX1_takenIn 58 = .ok (.invokevirtual 60, 3) := by decide +kernel
theorem dX1_takenIn_61 : decode cX1_takenIn 61 = .ok (.ifCond .eq 11, 3) := by decide +kernel
theorem dX1_takenIn_64 : decode cX1_takenIn 64 = .ok (.aload_n 0, 1) := by decide +kernel
theorem dX1_takenIn_65 : decode cX1_takenIn 65 = .ok (.iload_n 1, 1) := by decide +kernel
theorem dX1_takenIn_66 : decode cX1_takenIn 66 = .ok (.invokevirtual 64, 3) := by decide +kernel
theorem dX1_takenIn_69 : decode cX1_takenIn 69 = .ok (.goto 5, 3) := by decide +kernel
theorem dX1_takenIn_72 : decode cX1_takenIn 72 = .ok (.bipush (-5), 2) := by decide +kernel
theorem dX1_takenIn_74 : decode cX1_takenIn 74 = .ok (.istore 4, 2) := by decide +kernel
theorem dX1_takenIn_76 : decode cX1_takenIn 76 = .ok (.aload_n 0, 1) := by decide +kernel
theorem dX1_takenIn_77 : decode cX1_takenIn 77 = .ok (.getfield 15, 3) := by decide +kernel
theorem dX1_takenIn_80 : decode cX1_takenIn 80 = .ok (.invokevirtual 67, 3) := by decide +kernel
theorem dX1_takenIn_83 : decode cX1_takenIn 83 = .ok (.iload 4, 2) := by decide +kernel
theorem dX1_takenIn_85 : decode cX1_takenIn 85 = .ok (.iload_n 2, 1) := by decide +kernel
theorem dX1_takenIn_86 : decode cX1_takenIn 86 = .ok (.if_icmp .eq 11, 3) := by decide +kernel
theorem dX1_takenIn_89 : decode cX1_takenIn 89 = .ok (.aload_n 0, 1) := by decide +kernel
theorem dX1_takenIn_90 : decode cX1_takenIn 90 = .ok (.iload_n 3, 1) := by decide +kernel
theorem dX1_takenIn_91 : decode cX1_takenIn 91 = .ok (.putfield 36, 3) := by decide +kernel
theorem dX1_takenIn_94 : decode cX1_takenIn 94 = .ok (.iload 4, 2) := by decide +kernel
theorem dX1_takenIn_96 : decode cX1_takenIn 96 = .ok (.ireturn, 1) := by decide +kernel
theorem dX1_takenIn_97 : decode cX1_takenIn 97 = .ok (.iinc 3 1, 3) := by decide +kernel
theorem dX1_takenIn_100 : decode cX1_takenIn 100 = .ok (.goto (-71), 3) := by decide +kernel
theorem dX1_takenIn_103 : decode cX1_takenIn 103 = .ok (.iload_n 2, 1) := by decide +kernel
theorem dX1_takenIn_104 : decode cX1_takenIn 104 = .ok (.ireturn, 1) := by decide +kernel
set_option maxRecDepth 20000 in
theorem ggX1_takenBehindAct_X4_colourAt : GoodIn wsX1_takenBehindAct wsX4_colourAt := goodIn_r _ [8, 9, 10, 11, 7, 12, 13, 14, 15, 16, 17, 18, 19, 20, 21, 22, 23, 115, 116, 117, 118, 119, 120, 121, 122, 123] (by decide +kernel) (by decide +kernel)
set_option maxRecDepth 20000 in
theorem gX1_takenBehindAct_X4_colourAt : GoodIn wsX1_takenBehindAct (wsV RX1 27 RX4 yX4_colourAt wsX4_colourAt) := goodIn_app (goodIn_of _ (by decide +kernel)) ggX1_takenBehindAct_X4_colourAt
set_option maxRecDepth 20000 in
theorem ggX1_takenBehindAct_X1_takenIn : GoodIn wsX1_takenBehindAct wsX1_takenIn := goodIn_r _ [28, 1, 3, 29, 30, 31, 32, 33, 34, 35, 7, 36, 13, 37, 38, 39, 40, 41, 42, 43, 44, 45, 18, 46, 47, 48, 49, 50, 9, 10, 11, 12, 14, 15, 16, 17, 19, 51, 52, 53, 54, 55, 56, 57, 22, 58, 59, 60, 61, 62, 63, 64, 65, 66, 67, 68, 69, 20, 21, 23, 70, 71, 72, 73, 74, 75, 76, 77, 78, 79, 80, 81, 82, 83, 84, 85, 86, 87, 88, 89, 90, 91, 92, 93, 94, 95, 96, 97, 98, 99, 100, 27, 101, 102, 103, 104, 105, 106, 107, 108, 0, 2, 4, 5, 6, 8, 24, 25, 26, 109, 110, 111, 112, 113, 114, 115, 116, 117, 118, 119, 120, 121, 122, 123, 124, 125, 126, 127, 128, 129, 130] (by decide +kernel) (by decide +kernel)
set_option maxRecDepth 20000 in
theorem gX1_takenBehindAct_X1_takenIn : GoodIn wsX1_takenBehindAct (wsV RX1 44 RX1 yX1_takenIn wsX1_takenIn) := goodIn_app (goodIn_of _ (by decide +kernel)) ggX1_takenBehindAct_X1_takenIn
theorem dX1_takenBehindAct_0 : decode cX1_takenBehindAct 0 = .ok (.aload_n 0, 1) := by decide +kernel
theorem dX1_takenBehindAct_1 : decode cX1_takenBehindAct 1 = .ok (.getfield 15, 3) := by decide +kernel
theorem dX1_takenBehindAct_4 : decode cX1_takenBehindAct 4 = .ok (.aload_n 0, 1) := by decide +kernel
theorem dX1_takenBehindAct_5 : decode cX1_takenBehindAct 5 = .ok (.getfield 23, 3) := by decide +kernel
theorem dX1_takenBehindAct_8 : decode cX1_takenBehindAct 8 = .ok (.invokevirtual 27, 3) := by decide +kernel
theorem dX1_takenBehindAct_11 : decode cX1_takenBehindAct 11 = .ok (.aload_n 0, 1) := by decide +kernel
theorem dX1_takenBehindAct_12 : decode cX1_takenBehindAct 12 = .ok (.getfield 33, 3) := by decide +kernel
theorem dX1_takenBehindAct_15 : decode cX1_takenBehindAct 15 = .ok (.if_icmp .eq 7, 3) := by decide +kernel
theorem dX1_takenBehindAct_18 : decode cX1_takenBehindAct 18 = .ok (.iconst 1, 1) := by decide +kernel
theorem dX1_takenBehindAct_19 : decode cX1_takenBehindAct 19 = .ok (.goto 10, 3) := by decide +kernel
theorem dX1_takenBehindAct_22 : decode cX1_takenBehindAct 22 = .ok (.aload_n 0, 1) := by decide +kernel
theorem dX1_takenBehindAct_23 : decode cX1_takenBehindAct 23 = .ok (.iload_n 1, 1) := by decide +kernel
theorem dX1_takenBehindAct_24 : decode cX1_takenBehindAct 24 = .ok (.iconst 1, 1) := by decide +kernel
theorem dX1_takenBehindAct_25 : decode cX1_takenBehindAct 25 = .ok (.isub, 1) := by decide +kernel
theorem dX1_takenBehindAct_26 : decode cX1_takenBehindAct 26 = .ok (.invokevirtual 44, 3) := by decide +kernel
theorem dX1_takenBehindAct_29 : decode cX1_takenBehindAct 29 = .ok (.ireturn, 1) := by decide +kernel
theorem dX2_init_0 : decode cX2_init 0 = .ok (.aload_n 0, 1) := by decide +kernel
theorem dX2_init_1 : decode cX2_init 1 = .ok (.invokespecial 3, 3) := by decide +kernel
theorem dX2_init_4 : decode cX2_init 4 = .ok (.return_, 1) := by decide +kernel
theorem dX2_measure_0 : decode cX2_measure 0 = .ok (.aload_n 0, 1) := by decide +kernel
theorem dX2_measure_1 : decode cX2_measure 1 = .ok (.iload_n 1, 1) := by decide +kernel
theorem dX2_measure_2 : decode cX2_measure 2 = .ok (.putfield 9, 3) := by decide +kernel
theorem dX2_measure_5 : decode cX2_measure 5 = .ok (.aload_n 0, 1) := by decide +kernel
theorem dX2_measure_6 : decode cX2_measure 6 = .ok (.iload_n 2, 1) := by decide +kernel
theorem dX2_measure_7 : decode cX2_measure 7 = .ok (.putfield 15, 3) := by decide +kernel
theorem dX2_measure_10 : decode cX2_measure 10 = .ok (.aload_n 0, 1) := by decide +kernel
theorem dX2_measure_11 : decode cX2_measure 11 = .ok (.iload_n 1, 1) := by decide +kernel
theorem dX2_measure_12 : decode cX2_measure 12 = .ok (.iload_n 2, 1) := by decide +kernel
theorem dX2_measure_13 : decode cX2_measure 13 = .ok (.imul, 1) := by decide +kernel
theorem dX2_measure_14 : decode cX2_measure 14 = .ok (.putfield 18, 3) := by decide +kernel
theorem dX2_measure_17 : decode cX2_measure 17 = .ok (.aload_n 0, 1) := by decide +kernel
theorem dX2_measure_18 : decode cX2_measure 18 = .ok (.lconst 1, 1) := by decide +kernel
theorem dX2_measure_19 : decode cX2_measure 19 = .ok (.aload_n 0, 1) := by decide +kernel
theorem dX2_measure_20 : decode cX2_measure 20 = .ok (.getfield 18, 3) := by decide +kernel
theorem dX2_measure_23 : decode cX2_measure 23 = .ok (.lshl, 1) := by decide +kernel
theorem dX2_measure_24 : decode cX2_measure 24 = .ok (.lconst 1, 1) := by decide +kernel
theorem dX2_measure_25 : decode cX2_measure 25 = .ok (.lsub, 1) := by decide +kernel
theorem dX2_measure_26 : decode cX2_measure 26 = .ok (.putfield 21, 3) := by decide +kernel
theorem dX2_measure_29 : decode cX2_measure 29 = .ok (.lconst 0, 1) := by decide +kernel
theorem dX2_measure_30 : decode cX2_measure 30 = .ok (.lstore_n 3, 1) := by decide +kernel
theorem dX2_measure_31 : decode cX2_measure 31 = .ok (.iconst 0, 1) := by decide +kernel
theorem dX2_measure_32 : decode cX2_measure 32 = .ok (.istore 5, 2) := by decide +kernel
theorem dX2_measure_34 : decode cX2_measure 34 = .ok (.iload 5, 2) := by decide +kernel
theorem dX2_measure_36 : decode cX2_measure 36 = .ok (.iload_n 2, 1) := by decide +kernel
theorem dX2_measure_37 : decode cX2_measure 37 = .ok (.if_icmp .ge 18, 3) := by decide +kernel
theorem dX2_measure_40 : decode cX2_measure 40 = .ok (.lload_n 3, 1) := by decide +kernel
theorem dX2_measure_41 : decode cX2_measure 41 = .ok (.lconst 1, 1) := by decide +kernel
theorem dX2_measure_42 : decode cX2_measure 42 = .ok (.iload 5, 2) := by decide +kernel
theorem dX2_measure_44 : decode cX2_measure 44 = .ok (.iload_n 1, 1) := by decide +kernel
theorem dX2_measure_45 : decode cX2_measure 45 = .ok (.imul, 1) := by decide +kernel
theorem dX2_measure_46 : decode cX2_measure 46 = .ok (.lshl, 1) := by decide +kernel
theorem dX2_measure_47 : decode cX2_measure 47 = .ok (.lor, 1) := by decide +kernel
theorem dX2_measure_48 : decode cX2_measure 48 = .ok (.lstore_n 3, 1) := by decide +kernel
theorem dX2_measure_49 : decode cX2_measure 49 = .ok (.iinc 5 1, 3) := by decide +kernel
theorem dX2_measure_52 : decode cX2_measure 52 = .ok (.goto (-18), 3) := by decide +kernel
theorem dX2_measure_55 : decode cX2_measure 55 = .ok (.aload_n 0, 1) := by decide +kernel
theorem dX2_measure_56 : decode cX2_measure 56 = .ok (.aload_n 0, 1) := by decide +kernel
theorem dX2_measure_57 : decode cX2_measure 57 = .ok (.getfield 21, 3) := by decide +kernel
theorem dX2_measure_60 : decode cX2_measure 60 = .ok (.lload_n 3, 1) := by decide +kernel
theorem dX2_measure_61 : decode cX2_measure 61 = .ok (.ldc2_w 25, 3) := by decide +kernel
theorem dX2_measure_64 : decode cX2_measure 64 = .ok (.lxor, 1) := by decide +kernel
theorem dX2_measure_65 : decode cX2_measure 65 = .ok (.land, 1) := by decide +kernel
theorem dX2_measure_66 : decode cX2_measure 66 = .ok (.putfield 27, 3) := by decide +kernel
theorem dX2_measure_69 : decode cX2_measure 69 = .ok (.aload_n 0, 1) := by decide +kernel
theorem dX2_measure_70 : decode cX2_measure 70 = .ok (.aload_n 0, 1) := by decide +kernel
theorem dX2_measure_71 : decode cX2_measure 71 = .ok (.getfield 21, 3) := by decide +kernel
theorem dX2_measure_74 : decode cX2_measure 74 = .ok (.lload_n 3, 1) := by decide +kernel
theorem dX2_measure_75 : decode cX2_measure 75 = .ok (.iload_n 1, 1) := by decide +kernel
theorem dX2_measure_76 : decode cX2_measure 76 = .ok (.iconst 1, 1) := by decide +kernel
theorem dX2_measure_77 : decode cX2_measure 77 = .ok (.isub, 1) := by decide +kernel
theorem dX2_measure_78 : decode cX2_measure 78 = .ok (.lshl, 1) := by decide +kernel
theorem dX2_measure_79 : decode cX2_measure 79 = .ok (.ldc2_w 25, 3) := by decide +kernel
theorem dX2_measure_82 : decode cX2_measure 82 = .ok (.lxor, 1) := by decide +kernel
theorem dX2_measure_83 : decode cX2_measure 83 = .ok (.land, 1) := by decide +kernel
theorem dX2_measure_84 : decode cX2_measure 84 = .ok (.putfield 30, 3) := by decide +kernel
theorem dX2_measure_87 : decode cX2_measure 87 = .ok (.return_, 1) := by decide +kernel
theorem dX2_has_0 : decode cX2_has 0 = .ok (.iload_n 1, 1) := by decide +kernel
theorem dX2_has_1 : decode cX2_has 1 = .ok (.ifCond .lt 15, 3) := by decide +kernel
theorem dX2_has_4 : decode cX2_has 4 = .ok (.iload_n 1, 1) := by decide +kernel
theorem dX2_has_5 : decode cX2_has 5 = .ok (.aload_n 0, 1) := by decide +kernel
theorem dX2_has_6 : decode cX2_has 6 = .ok (.getfield 18, 3) := by decide +kernel
theorem dX2_has_9 : decode cX2_has 9 = .ok (.if_icmp .ge 7, 3) := by decide +kernel
theorem dX2_has_12 : decode cX2_has 12 = .ok (.iconst 1, 1) := by decide +kernel
theorem dX2_has_13 : decode cX2_has 13 = .ok (.goto 4, 3) := by decide +kernel
theorem dX2_has_16 : decode cX2_has 16 = .ok (.iconst 0, 1) := by decide +kernel
theorem dX2_has_17 : decode cX2_has 17 = .ok (.ireturn, 1) := by decide +kernel
theorem dX2_holds_0 : decode cX2_holds 0 = .ok (.lload_n 0, 1) := by decide +kernel
theorem dX2_holds_1 : decode cX2_holds 1 = .ok (.iload_n 2, 1) := by decide +kernel
theorem dX2_holds_2 : decode cX2_holds 2 = .ok (.lushr, 1) := by decide +kernel
theorem dX2_holds_3 : decode cX2_holds 3 = .ok (.lconst 1, 1) := by decide +kernel
theorem dX2_holds_4 : decode cX2_holds 4 = .ok (.land, 1) := by decide +kernel
theorem dX2_holds_5 : decode cX2_holds 5 = .ok (.lconst 0, 1) := by decide +kernel
theorem dX2_holds_6 : decode cX2_holds 6 = .ok (.lcmp, 1) := by decide +kernel
theorem dX2_holds_7 : decode cX2_holds 7 = .ok (.ifCond .eq 7, 3) := by decide +kernel
theorem dX2_holds_10 : decode cX2_holds 10 = .ok (.iconst 1, 1) := by decide +kernel
theorem dX2_holds_11 : decode cX2_holds 11 = .ok (.goto 4, 3) := by decide +kernel
theorem dX2_holds_14 : decode cX2_holds 14 = .ok (.iconst 0, 1) := by decide +kernel
theorem dX2_holds_15 : decode cX2_holds 15 = .ok (.ireturn, 1) := by decide +kernel
theorem dX2_beside_0 : decode cX2_beside 0 = .ok (.lload_n 1, 1) := by decide +kernel
theorem dX2_beside_1 : decode cX2_beside 1 = .ok (.aload_n 0, 1) := by decide +kernel
theorem dX2_beside_2 : decode cX2_beside 2 = .ok (.getfield 30, 3) := by decide +kernel
theorem dX2_beside_5 : decode cX2_beside 5 = .ok (.land, 1) := by decide +kernel
theorem dX2_beside_6 : decode cX2_beside 6 = .ok (.iconst 1, 1) := by decide +kernel
theorem dX2_beside_7 : decode cX2_beside 7 = .ok (.lshl, 1) := by decide +kernel
theorem dX2_beside_8 : decode cX2_beside 8 = .ok (.lload_n 1, 1) := by decide +kernel
theorem dX2_beside_9 : decode cX2_beside 9 = .ok (.aload_n 0, 1) := by decide +kernel
theorem dX2_beside_10 : decode cX2_beside 10 = .ok (.getfield 27, 3) := by decide +kernel
theorem dX2_beside_13 : decode cX2_beside 13 = .ok (.land, 1) := by decide +kernel
theorem dX2_beside_14 : decode cX2_beside 14 = .ok (.iconst 1, 1) := by decide +kernel
theorem dX2_beside_15 : decode cX2_beside 15 = .ok (.lushr, 1) := by decide +kernel
theorem dX2_beside_16 : decode cX2_beside 16 = .ok (.lor, 1) := by decide +kernel
theorem dX2_beside_17 : decode cX2_beside 17 = .ok (.lstore_n 3, 1) := by decide +kernel
theorem dX2_beside_18 : decode cX2_beside 18 = .ok (.lload_n 3, 1) := by decide +kernel
theorem dX2_beside_19 : decode cX2_beside 19 = .ok (.lload_n 1, 1) := by decide +kernel
theorem dX2_beside_20 : decode cX2_beside 20 = .ok (.aload_n 0, 1) := by decide +kernel
theorem dX2_beside_21 : decode cX2_beside 21 = .ok (.getfield 9, 3) := by decide +kernel
theorem dX2_beside_24 : decode cX2_beside 24 = .ok (.lshl, 1) := by decide +kernel
theorem dX2_beside_25 : decode cX2_beside 25 = .ok (.lor, 1) := by decide +kernel
theorem dX2_beside_26 : decode cX2_beside 26 = .ok (.lload_n 1, 1) := by decide +kernel
theorem dX2_beside_27 : decode cX2_beside 27 = .ok (.aload_n 0, 1) := by decide +kernel
theorem dX2_beside_28 : decode cX2_beside 28 = .ok (.getfield 9, 3) := by decide +kernel
theorem dX2_beside_31 : decode cX2_beside 31 = .ok (.lushr, 1) := by decide +kernel
theorem dX2_beside_32 : decode cX2_beside 32 = .ok (.lor, 1) := by decide +kernel
theorem dX2_beside_33 : decode cX2_beside 33 = .ok (.aload_n 0, 1) := by decide +kernel
theorem dX2_beside_34 : decode cX2_beside 34 = .ok (.getfield 21, 3) := by decide +kernel
theorem dX2_beside_37 : decode cX2_beside 37 = .ok (.land, 1) := by decide +kernel
theorem dX2_beside_38 : decode cX2_beside 38 = .ok (.lreturn, 1) := by decide +kernel
set_option maxRecDepth 20000 in
theorem ggX2_spread_X2_beside : GoodIn wsX2_spread wsX2_beside := goodIn_r _ [5, 6, 7, 8, 9, 10, 11, 12, 13, 14, 15] (by decide +kernel) (by decide +kernel)
set_option maxRecDepth 20000 in
theorem gX2_spread_X2_beside : GoodIn wsX2_spread (wsV RX2 33 RX2 yX2_beside wsX2_beside) := goodIn_app (goodIn_of _ (by decide +kernel)) ggX2_spread_X2_beside
theorem dX2_spread_0 : decode cX2_spread 0 = .ok (.lload_n 1, 1) := by decide +kernel
theorem dX2_spread_1 : decode cX2_spread 1 = .ok (.lload_n 3, 1) := by decide +kernel
theorem dX2_spread_2 : decode cX2_spread 2 = .ok (.land, 1) := by decide +kernel
theorem dX2_spread_3 : decode cX2_spread 3 = .ok (.lstore 5, 2) := by decide +kernel
theorem dX2_spread_5 : decode cX2_spread 5 = .ok (.iconst 0, 1) := by decide +kernel
theorem dX2_spread_6 : decode cX2_spread 6 = .ok (.istore 7, 2) := by decide +kernel
theorem dX2_spread_8 : decode cX2_spread 8 = .ok (.iload 7, 2) := by decide +kernel
theorem dX2_spread_10 : decode cX2_spread 10 = .ok (.bipush 49, 2) := by decide +kernel
theorem dX2_spread_12 : decode cX2_spread 12 = .ok (.if_icmp .ge 37, 3) := by decide +kernel
theorem dX2_spread_15 : decode cX2_spread 15 = .ok (.lload 5, 2) := by decide +kernel
theorem dX2_spread_17 : decode cX2_spread 17 = .ok (.aload_n 0, 1) := by decide +kernel
theorem dX2_spread_18 : decode cX2_spread 18 = .ok (.lload 5, 2) := by decide +kernel
theorem dX2_spread_20 : decode cX2_spread 20 = .ok (.invokevirtual 33, 3) := by decide +kernel
theorem dX2_spread_23 : decode cX2_spread 23 = .ok (.lor, 1) := by decide +kernel
theorem dX2_spread_24 : decode cX2_spread 24 = .ok (.lload_n 3, 1) := by decide +kernel
theorem dX2_spread_25 : decode cX2_spread 25 = .ok (.land, 1) := by decide +kernel
theorem dX2_spread_26 : decode cX2_spread 26 = .ok (.lstore 8, 2) := by decide +kernel
theorem dX2_spread_28 : decode cX2_spread 28 = .ok (.lload 8, 2) := by decide +kernel
theorem dX2_spread_30 : decode cX2_spread 30 = .ok (.lload 5, 2) := by decide +kernel
theorem dX2_spread_32 : decode cX2_spread 32 = .ok (.lcmp, 1) := by decide +kernel
theorem dX2_spread_33 : decode cX2_spread 33 = .ok (.ifCond .ne 6, 3) := by decide +kernel
theorem dX2_spread_36 : decode cX2_spread 36 = .ok (.goto 13, 3) := by decide +kernel
theorem dX2_spread_39 : decode cX2_spread 39 = .ok (.lload 8, 2) := by decide +kernel
theorem dX2_spread_41 : decode cX2_spread 41 = .ok (.lstore 5, 2) := by decide +kernel
theorem dX2_spread_43 : decode cX2_spread 43 = .ok (.iinc 7 1, 3) := by decide +kernel
theorem dX2_spread_46 : decode cX2_spread 46 = .ok (.goto (-38), 3) := by decide +kernel
theorem dX2_spread_49 : decode cX2_spread 49 = .ok (.lload 5, 2) := by decide +kernel
theorem dX2_spread_51 : decode cX2_spread 51 = .ok (.lreturn, 1) := by decide +kernel
set_option maxRecDepth 20000 in
theorem ggX2_partFrom_X2_beside : GoodIn wsX2_partFrom wsX2_beside := goodIn_r _ [5, 6, 7, 8, 9, 14, 15, 16, 17, 18, 19] (by decide +kernel) (by decide +kernel)
set_option maxRecDepth 20000 in
theorem gX2_partFrom_X2_beside : GoodIn wsX2_partFrom (wsV RX2 33 RX2 yX2_beside wsX2_beside) := goodIn_app (goodIn_of _ (by decide +kernel)) ggX2_partFrom_X2_beside
set_option maxRecDepth 20000 in
theorem ggX2_partFrom_X2_spread : GoodIn wsX2_partFrom wsX2_spread := goodIn_r _ [13, 1, 2, 3, 4, 5, 6, 7, 8, 9, 14, 15, 16, 17, 18, 19] (by decide +kernel) (by decide +kernel)
set_option maxRecDepth 20000 in
theorem gX2_partFrom_X2_spread : GoodIn wsX2_partFrom (wsV RX2 37 RX2 yX2_spread wsX2_spread) := goodIn_app (goodIn_of _ (by decide +kernel)) ggX2_partFrom_X2_spread
theorem dX2_partFrom_0 : decode cX2_partFrom 0 = .ok (.lconst 1, 1) := by decide +kernel
theorem dX2_partFrom_1 : decode cX2_partFrom 1 = .ok (.iload_n 3, 1) := by decide +kernel
theorem dX2_partFrom_2 : decode cX2_partFrom 2 = .ok (.lshl, 1) := by decide +kernel
theorem dX2_partFrom_3 : decode cX2_partFrom 3 = .ok (.lload_n 1, 1) := by decide +kernel
theorem dX2_partFrom_4 : decode cX2_partFrom 4 = .ok (.land, 1) := by decide +kernel
theorem dX2_partFrom_5 : decode cX2_partFrom 5 = .ok (.lstore 4, 2) := by decide +kernel
theorem dX2_partFrom_7 : decode cX2_partFrom 7 = .ok (.lconst 1, 1) := by decide +kernel
theorem dX2_partFrom_8 : decode cX2_partFrom 8 = .ok (.iload_n 3, 1) := by decide +kernel
theorem dX2_partFrom_9 : decode cX2_partFrom 9 = .ok (.lshl, 1) := by decide +kernel
theorem dX2_partFrom_10 : decode cX2_partFrom 10 = .ok (.lconst 1, 1) := by decide +kernel
theorem dX2_partFrom_11 : decode cX2_partFrom 11 = .ok (.lsub, 1) := by decide +kernel
theorem dX2_partFrom_12 : decode cX2_partFrom 12 = .ok (.lstore 6, 2) := by decide +kernel
theorem dX2_partFrom_14 : decode cX2_partFrom 14 = .ok (.lload 4, 2) := by decide +kernel
theorem dX2_partFrom_16 : decode cX2_partFrom 16 = .ok (.lconst 0, 1) := by decide +kernel
theorem dX2_partFrom_17 : decode cX2_partFrom 17 = .ok (.lcmp, 1) := by decide +kernel
theorem dX2_partFrom_18 : decode cX2_partFrom 18 = .ok (.ifCond .eq 19, 3) := by decide +kernel
theorem dX2_partFrom_21 : decode cX2_partFrom 21 = .ok (.aload_n 0, 1) := by decide +kernel
theorem dX2_partFrom_22 : decode cX2_partFrom 22 = .ok (.lload 4, 2) := by decide +kernel
theorem dX2_partFrom_24 : decode cX2_partFrom 24 = .ok (.invokevirtual 33, 3) := by decide +kernel
theorem dX2_partFrom_27 : decode cX2_partFrom 27 = .ok (.lload_n 1, 1) := by decide +kernel
theorem dX2_partFrom_28 : decode cX2_partFrom 28 = .ok (.land, 1) := by decide +kernel
theorem dX2_partFrom_29 : decode cX2_partFrom 29 = .ok (.lload 6, 2) := by decide +kernel
theorem dX2_partFrom_31 : decode cX2_partFrom 31 = .ok (.land, 1) := by decide +kernel
theorem dX2_partFrom_32 : decode cX2_partFrom 32 = .ok (.lconst 0, 1) := by decide +kernel
theorem dX2_partFrom_33 : decode cX2_partFrom 33 = .ok (.lcmp, 1) := by decide +kernel
theorem dX2_partFrom_34 : decode cX2_partFrom 34 = .ok (.ifCond .eq 5, 3) := by decide +kernel
theorem dX2_partFrom_37 : decode cX2_partFrom 37 = .ok (.lconst 0, 1) := by decide +kernel
theorem dX2_partFrom_38 : decode cX2_partFrom 38 = .ok (.lreturn, 1) := by decide +kernel
theorem dX2_partFrom_39 : decode cX2_partFrom 39 = .ok (.aload_n 0, 1) := by decide +kernel
theorem dX2_partFrom_40 : decode cX2_partFrom 40 = .ok (.lload 4, 2) := by decide +kernel
theorem dX2_partFrom_42 : decode cX2_partFrom 42 = .ok (.lload_n 1, 1) := by decide +kernel
theorem dX2_partFrom_43 : decode cX2_partFrom 43 = .ok (.invokevirtual 37, 3) := by decide +kernel
theorem dX2_partFrom_46 : decode cX2_partFrom 46 = .ok (.lstore 8, 2) := by decide +kernel
theorem dX2_partFrom_48 : decode cX2_partFrom 48 = .ok (.lload 8, 2) := by decide +kernel
theorem dX2_partFrom_50 : decode cX2_partFrom 50 = .ok (.lload 6, 2) := by decide +kernel
theorem dX2_partFrom_52 : decode cX2_partFrom 52 = .ok (.land, 1) := by decide +kernel
theorem dX2_partFrom_53 : decode cX2_partFrom 53 = .ok (.lconst 0, 1) := by decide +kernel
theorem dX2_partFrom_54 : decode cX2_partFrom 54 = .ok (.lcmp, 1) := by decide +kernel
theorem dX2_partFrom_55 : decode cX2_partFrom 55 = .ok (.ifCond .ne 8, 3) := by decide +kernel
theorem dX2_partFrom_58 : decode cX2_partFrom 58 = .ok (.lload 8, 2) := by decide +kernel
theorem dX2_partFrom_60 : decode cX2_partFrom 60 = .ok (.goto 4, 3) := by decide +kernel
theorem dX2_partFrom_63 : decode cX2_partFrom 63 = .ok (.lconst 0, 1) := by decide +kernel
theorem dX2_partFrom_64 : decode cX2_partFrom 64 = .ok (.lreturn, 1) := by decide +kernel
set_option maxRecDepth 20000 in
theorem ggX2_allBreathe_X2_beside : GoodIn wsX2_allBreathe wsX2_beside := goodIn_r _ [5, 6, 7, 8, 9, 14, 15, 16, 17, 18, 19] (by decide +kernel) (by decide +kernel)
set_option maxRecDepth 20000 in
theorem gX2_allBreathe_X2_beside : GoodIn wsX2_allBreathe (wsV RX2 33 RX2 yX2_beside wsX2_beside) := goodIn_app (goodIn_of _ (by decide +kernel)) ggX2_allBreathe_X2_beside
set_option maxRecDepth 20000 in
theorem ggX2_allBreathe_X2_spread : GoodIn wsX2_allBreathe wsX2_spread := goodIn_r _ [13, 1, 2, 3, 4, 5, 6, 7, 8, 9, 14, 15, 16, 17, 18, 19] (by decide +kernel) (by decide +kernel)
set_option maxRecDepth 20000 in
theorem gX2_allBreathe_X2_spread : GoodIn wsX2_allBreathe (wsV RX2 37 RX2 yX2_spread wsX2_spread) := goodIn_app (goodIn_of _ (by decide +kernel)) ggX2_allBreathe_X2_spread
theorem dX2_allBreathe_0 : decode cX2_allBreathe 0 = .ok (.aload_n 0, 1) := by decide +kernel
theorem dX2_allBreathe_1 : decode cX2_allBreathe 1 = .ok (.aload_n 0, 1) := by decide +kernel
theorem dX2_allBreathe_2 : decode cX2_allBreathe 2 = .ok (.lload_n 3, 1) := by decide +kernel
theorem dX2_allBreathe_3 : decode cX2_allBreathe 3 = .ok (.invokevirtual 33, 3) := by decide +kernel
theorem dX2_allBreathe_6 : decode cX2_allBreathe 6 = .ok (.lload_n 1, 1) := by decide +kernel
theorem dX2_allBreathe_7 : decode cX2_allBreathe 7 = .ok (.invokevirtual 37, 3) := by decide +kernel
theorem dX2_allBreathe_10 : decode cX2_allBreathe 10 = .ok (.lload_n 1, 1) := by decide +kernel
theorem dX2_allBreathe_11 : decode cX2_allBreathe 11 = .ok (.lcmp, 1) := by decide +kernel
theorem dX2_allBreathe_12 : decode cX2_allBreathe 12 = .ok (.ifCond .ne 7, 3) := by decide +kernel
theorem dX2_allBreathe_15 : decode cX2_allBreathe 15 = .ok (.iconst 1, 1) := by decide +kernel
theorem dX2_allBreathe_16 : decode cX2_allBreathe 16 = .ok (.goto 4, 3) := by decide +kernel
theorem dX2_allBreathe_19 : decode cX2_allBreathe 19 = .ok (.iconst 0, 1) := by decide +kernel
theorem dX2_allBreathe_20 : decode cX2_allBreathe 20 = .ok (.ireturn, 1) := by decide +kernel
set_option maxRecDepth 20000 in
theorem ggX2_nth_X2_holds : GoodIn wsX2_nth wsX2_holds := goodIn_r _ [5] (by decide +kernel) (by decide +kernel)
set_option maxRecDepth 20000 in
theorem gX2_nth_X2_holds : GoodIn wsX2_nth (va_wsS RX2 41 yX2_holds wsX2_holds) := goodIn_app (goodIn_of _ (by decide +kernel)) ggX2_nth_X2_holds
theorem dX2_nth_0 : decode cX2_nth 0 = .ok (.iconst 0, 1) := by decide +kernel
theorem dX2_nth_1 : decode cX2_nth 1 = .ok (.istore 4, 2) := by decide +kernel
theorem dX2_nth_3 : decode cX2_nth 3 = .ok (.iconst 0, 1) := by decide +kernel
theorem dX2_nth_4 : decode cX2_nth 4 = .ok (.istore 5, 2) := by decide +kernel
theorem dX2_nth_6 : decode cX2_nth 6 = .ok (.iload 5, 2) := by decide +kernel
theorem dX2_nth_8 : decode cX2_nth 8 = .ok (.aload_n 0, 1) := by decide +kernel
theorem dX2_nth_9 : decode cX2_nth 9 = .ok (.getfield 18, 3) := by decide +kernel
theorem dX2_nth_12 : decode cX2_nth 12 = .ok (.if_icmp .ge 30, 3) := by decide +kernel
theorem dX2_nth_15 : decode cX2_nth 15 = .ok (.lload_n 1, 1) := by decide +kernel
theorem dX2_nth_16 : decode cX2_nth 16 = .ok (.iload 5, 2) := by decide +kernel
theorem dX2_nth_18 : decode cX2_nth 18 = .ok (.invokestatic 41, 3) := by decide +kernel
theorem dX2_nth_21 : decode cX2_nth 21 = .ok (.ifCond .eq 15, 3) := by decide +kernel
theorem dX2_nth_24 : decode cX2_nth 24 = .ok (.iload 4, 2) := by decide +kernel
theorem dX2_nth_26 : decode cX2_nth 26 = .ok (.iload_n 3, 1) := by decide +kernel
theorem dX2_nth_27 : decode cX2_nth 27 = .ok (.if_icmp .ne 6, 3) := by decide +kernel
theorem dX2_nth_30 : decode cX2_nth 30 = .ok (.iload 5, 2) := by decide +kernel
theorem dX2_nth_32 : decode cX2_nth 32 = .ok (.ireturn, 1) := by decide +kernel
theorem dX2_nth_33 : decode cX2_nth 33 = .ok (.iinc 4 1, 3) := by decide +kernel
theorem dX2_nth_36 : decode cX2_nth 36 = .ok (.iinc 5 1, 3) := by decide +kernel
theorem dX2_nth_39 : decode cX2_nth 39 = .ok (.goto (-33), 3) := by decide +kernel
theorem dX2_nth_42 : decode cX2_nth 42 = .ok (.iconst (-1), 1) := by decide +kernel
theorem dX2_nth_43 : decode cX2_nth 43 = .ok (.ireturn, 1) := by decide +kernel
set_option maxRecDepth 20000 in
theorem ggX2_freeOf_X2_partFrom : GoodIn wsX2_freeOf wsX2_partFrom := goodIn_r _ [8, 9, 10, 11, 7, 12, 13, 14, 15, 1, 16, 17, 18, 19, 20, 21, 22, 23, 24, 25] (by decide +kernel) (by decide +kernel)
set_option maxRecDepth 20000 in
theorem gX2_freeOf_X2_partFrom : GoodIn wsX2_freeOf (wsV RX2 45 RX2 yX2_partFrom wsX2_partFrom) := goodIn_app (goodIn_of _ (by decide +kernel)) ggX2_freeOf_X2_partFrom
set_option maxRecDepth 20000 in
theorem ggX2_freeOf_X2_beside : GoodIn wsX2_freeOf wsX2_beside := goodIn_r _ [12, 13, 14, 15, 1, 20, 21, 22, 23, 24, 25] (by decide +kernel) (by decide +kernel)
set_option maxRecDepth 20000 in
theorem gX2_freeOf_X2_beside : GoodIn wsX2_freeOf (wsV RX2 33 RX2 yX2_beside wsX2_beside) := goodIn_app (goodIn_of _ (by decide +kernel)) ggX2_freeOf_X2_beside
theorem dX2_freeOf_0 : decode cX2_freeOf 0 = .ok (.aload_n 0, 1) := by decide +kernel
theorem dX2_freeOf_1 : decode cX2_freeOf 1 = .ok (.getfield 21, 3) := by decide +kernel
theorem dX2_freeOf_4 : decode cX2_freeOf 4 = .ok (.lload_n 1, 1) := by decide +kernel
theorem dX2_freeOf_5 : decode cX2_freeOf 5 = .ok (.lload_n 3, 1) := by decide +kernel
theorem dX2_freeOf_6 : decode cX2_freeOf 6 = .ok (.lor, 1) := by decide +kernel
theorem dX2_freeOf_7 : decode cX2_freeOf 7 = .ok (.ldc2_w 25, 3) := by decide +kernel
theorem dX2_freeOf_10 : decode cX2_freeOf 10 = .ok (.lxor, 1) := by decide +kernel
theorem dX2_freeOf_11 : decode cX2_freeOf 11 = .ok (.land, 1) := by decide +kernel
theorem dX2_freeOf_12 : decode cX2_freeOf 12 = .ok (.lstore 5, 2) := by decide +kernel
theorem dX2_freeOf_14 : decode cX2_freeOf 14 = .ok (.lconst 0, 1) := by decide +kernel
theorem dX2_freeOf_15 : decode cX2_freeOf 15 = .ok (.lstore 7, 2) := by decide +kernel
theorem dX2_freeOf_17 : decode cX2_freeOf 17 = .ok (.iconst 0, 1) := by decide +kernel
theorem dX2_freeOf_18 : decode cX2_freeOf 18 = .ok (.istore 9, 2) := by decide +kernel
theorem dX2_freeOf_20 : decode cX2_freeOf 20 = .ok (.iload 9, 2) := by decide +kernel
theorem dX2_freeOf_22 : decode cX2_freeOf 22 = .ok (.aload_n 0, 1) := by decide +kernel
theorem dX2_freeOf_23 : decode cX2_freeOf 23 = .ok (.getfield 18, 3) := by decide +kernel
theorem dX2_freeOf_26 : decode cX2_freeOf 26 = .ok (.if_icmp .ge 52, 3) := by decide +kernel
theorem dX2_freeOf_29 : decode cX2_freeOf 29 = .ok (.aload_n 0, 1) := by decide +kernel
theorem dX2_freeOf_30 : decode cX2_freeOf 30 = .ok (.lload 5, 2) := by decide +kernel
theorem dX2_freeOf_32 : decode cX2_freeOf 32 = .ok (.iload 9, 2) := by decide +kernel
theorem dX2_freeOf_34 : decode cX2_freeOf 34 = .ok (.invokevirtual 45, 3) := by decide +kernel
theorem dX2_freeOf_37 : decode cX2_freeOf 37 = .ok (.lstore 10, 2) := by decide +kernel
theorem dX2_freeOf_39 : decode cX2_freeOf 39 = .ok (.aload_n 0, 1) := by decide +kernel
theorem dX2_freeOf_40 : decode cX2_freeOf 40 = .ok (.lload 10, 2) := by decide +kernel
theorem dX2_freeOf_42 : decode cX2_freeOf 42 = .ok (.invokevirtual 33, 3) := by decide +kernel
theorem dX2_freeOf_45 : decode cX2_freeOf 45 = .ok (.lstore 12, 2) := by decide +kernel
theorem dX2_freeOf_47 : decode cX2_freeOf 47 = .ok (.lload 12, 2) := by decide +kernel
theorem dX2_freeOf_49 : decode cX2_freeOf 49 = .ok (.lload_n 1, 1) := by decide +kernel
theorem dX2_freeOf_50 : decode cX2_freeOf 50 = .ok (.land, 1) := by decide +kernel
theorem dX2_freeOf_51 : decode cX2_freeOf 51 = .ok (.lconst 0, 1) := by decide +kernel
theorem dX2_freeOf_52 : decode cX2_freeOf 52 = .ok (.lcmp, 1) := by decide +kernel
theorem dX2_freeOf_53 : decode cX2_freeOf 53 = .ok (.ifCond .eq 19, 3) := by decide +kernel
theorem dX2_freeOf_56 : decode cX2_freeOf 56 = .ok (.lload 12, 2) := by decide +kernel
theorem dX2_freeOf_58 : decode cX2_freeOf 58 = .ok (.lload_n 3, 1) := by decide +kernel
theorem dX2_freeOf_59 : decode cX2_freeOf 59 = .ok (.land, 1) := by decide +kernel
theorem dX2_freeOf_60 : decode cX2_freeOf 60 = .ok (.lconst 0, 1) := by decide +kernel
theorem dX2_freeOf_61 : decode cX2_freeOf 61 = .ok (.lcmp, 1) := by decide +kernel
theorem dX2_freeOf_62 : decode cX2_freeOf 62 = .ok (.ifCond .ne 10, 3) := by decide +kernel
theorem dX2_freeOf_65 : decode cX2_freeOf 65 = .ok (.lload 7, 2) := by decide +kernel
theorem dX2_freeOf_67 : decode cX2_freeOf 67 = .ok (.lload 10, 2) := by decide +kernel
theorem dX2_freeOf_69 : decode cX2_freeOf 69 = .ok (.lor, 1) := by decide +kernel
theorem dX2_freeOf_70 : decode cX2_freeOf 70 = .ok (.lstore 7, 2) := by decide +kernel
theorem dX2_freeOf_72 : decode cX2_freeOf 72 = .ok (.iinc 9 1, 3) := by decide +kernel
theorem dX2_freeOf_75 : decode cX2_freeOf 75 = .ok (.goto (-55), 3) := by decide +kernel
theorem dX2_freeOf_78 : decode cX2_freeOf 78 = .ok (.lload 7, 2) := by decide +kernel
theorem dX2_freeOf_80 : decode cX2_freeOf 80 = .ok (.lreturn, 1) := by decide +kernel
theorem dX3_init_0 : decode cX3_init 0 = .ok (.aload_n 0, 1) := by decide +kernel
theorem dX3_init_1 : decode cX3_init 1 = .ok (.invokespecial 3, 3) := by decide +kernel
theorem dX3_init_4 : decode cX3_init 4 = .ok (.aload_n 0, 1) := by decide +kernel
theorem dX3_init_5 : decode cX3_init 5 = .ok (.aload_n 1, 1) := by decide +kernel
theorem dX3_init_6 : decode cX3_init 6 = .ok (.putfield 9, 3) := by decide +kernel
theorem dX3_init_9 : decode cX3_init 9 = .ok (.return_, 1) := by decide +kernel
set_option maxRecDepth 20000 in
theorem ggX3_isVital_X2_beside : GoodIn wsX3_isVital wsX2_beside := goodIn_r _ [7, 8, 9, 10, 11, 13, 14, 15, 16, 17, 18] (by decide +kernel) (by decide +kernel)
set_option maxRecDepth 20000 in
theorem gX3_isVital_X2_beside : GoodIn wsX3_isVital (wsV RX3 15 RX2 yX2_beside wsX2_beside) := goodIn_app (goodIn_of _ (by decide +kernel)) ggX3_isVital_X2_beside
theorem dX3_isVital_0 : decode cX3_isVital 0 = .ok (.aload_n 0, 1) := by decide +kernel
theorem dX3_isVital_1 : decode cX3_isVital 1 = .ok (.getfield 9, 3) := by decide +kernel
theorem dX3_isVital_4 : decode cX3_isVital 4 = .ok (.lload_n 3, 1) := by decide +kernel
theorem dX3_isVital_5 : decode cX3_isVital 5 = .ok (.invokevirtual 15, 3) := by decide +kernel
theorem dX3_isVital_8 : decode cX3_isVital 8 = .ok (.lstore 7, 2) := by decide +kernel
theorem dX3_isVital_10 : decode cX3_isVital 10 = .ok (.lload_n 1, 1) := by decide +kernel
theorem dX3_isVital_11 : decode cX3_isVital 11 = .ok (.lload 7, 2) := by decide +kernel
theorem dX3_isVital_13 : decode cX3_isVital 13 = .ok (.land, 1) := by decide +kernel
theorem dX3_isVital_14 : decode cX3_isVital 14 = .ok (.lconst 0, 1) := by decide +kernel
theorem dX3_isVital_15 : decode cX3_isVital 15 = .ok (.lcmp, 1) := by decide +kernel
theorem dX3_isVital_16 : decode cX3_isVital 16 = .ok (.ifCond .eq 23, 3) := by decide +kernel
theorem dX3_isVital_19 : decode cX3_isVital 19 = .ok (.lload_n 1, 1) := by decide +kernel
theorem dX3_isVital_20 : decode cX3_isVital 20 = .ok (.lload 5, 2) := by decide +kernel
theorem dX3_isVital_22 : decode cX3_isVital 22 = .ok (.land, 1) := by decide +kernel
theorem dX3_isVital_23 : decode cX3_isVital 23 = .ok (.lload 7, 2) := by decide +kernel
theorem dX3_isVital_25 : decode cX3_isVital 25 = .ok (.ldc2_w 21, 3) := by decide +kernel
theorem dX3_isVital_28 : decode cX3_isVital 28 = .ok (.lxor, 1) := by decide +kernel
theorem dX3_isVital_29 : decode cX3_isVital 29 = .ok (.land, 1) := by decide +kernel
theorem dX3_isVital_30 : decode cX3_isVital 30 = .ok (.lconst 0, 1) := by decide +kernel
theorem dX3_isVital_31 : decode cX3_isVital 31 = .ok (.lcmp, 1) := by decide +kernel
theorem dX3_isVital_32 : decode cX3_isVital 32 = .ok (.ifCond .ne 7, 3) := by decide +kernel
theorem dX3_isVital_35 : decode cX3_isVital 35 = .ok (.iconst 1, 1) := by decide +kernel
theorem dX3_isVital_36 : decode cX3_isVital 36 = .ok (.goto 4, 3) := by decide +kernel
theorem dX3_isVital_39 : decode cX3_isVital 39 = .ok (.iconst 0, 1) := by decide +kernel
theorem dX3_isVital_40 : decode cX3_isVital 40 = .ok (.ireturn, 1) := by decide +kernel
set_option maxRecDepth 20000 in
theorem ggX3_vitalRegions_X2_partFrom : GoodIn wsX3_vitalRegions wsX2_partFrom := goodIn_r _ [7, 8, 9, 10, 6, 11, 12, 13, 14, 15, 16, 17, 18, 19, 28, 29, 30, 31, 32, 33] (by decide +kernel) (by decide +kernel)
set_option maxRecDepth 20000 in
theorem gX3_vitalRegions_X2_partFrom : GoodIn wsX3_vitalRegions (wsV RX3 27 RX2 yX2_partFrom wsX2_partFrom) := goodIn_app (goodIn_of _ (by decide +kernel)) ggX3_vitalRegions_X2_partFrom
set_option maxRecDepth 20000 in
theorem ggX3_vitalRegions_X3_isVital : GoodIn wsX3_vitalRegions wsX3_isVital := goodIn_r _ [24, 1, 25, 26, 9, 10, 6, 11, 12, 13, 14, 15, 27, 28, 29, 30, 31, 32, 33] (by decide +kernel) (by decide +kernel)
set_option maxRecDepth 20000 in
theorem gX3_vitalRegions_X3_isVital : GoodIn wsX3_vitalRegions (wsV RX3 31 RX3 yX3_isVital wsX3_isVital) := goodIn_app (goodIn_of _ (by decide +kernel)) ggX3_vitalRegions_X3_isVital
theorem dX3_vitalRegions_0 : decode cX3_vitalRegions 0 = .ok (.iconst 0, 1) := by decide +kernel
theorem dX3_vitalRegions_1 : decode cX3_vitalRegions 1 = .ok (.istore 7, 2) := by decide +kernel
theorem dX3_vitalRegions_3 : decode cX3_vitalRegions 3 = .ok (.iconst 0, 1) := by decide +kernel
theorem dX3_vitalRegions_4 : decode cX3_vitalRegions 4 = .ok (.istore 8, 2) := by decide +kernel
theorem dX3_vitalRegions_6 : decode cX3_vitalRegions 6 = .ok (.iload 8, 2) := by decide +kernel
theorem dX3_vitalRegions_8 : decode cX3_vitalRegions 8 = .ok (.aload_n 0, 1) := by decide +kernel
theorem dX3_vitalRegions_9 : decode cX3_vitalRegions 9 = .ok (.getfield 9, 3) := by decide +kernel
theorem dX3_vitalRegions_12 : decode cX3_vitalRegions 12 = .ok (.getfield 23, 3) := by decide +kernel
theorem dX3_vitalRegions_15 : decode cX3_vitalRegions 15 = .ok (.if_icmp .ge 39, 3) := by decide +kernel
theorem dX3_vitalRegions_18 : decode cX3_vitalRegions 18 = .ok (.iload 7, 2) := by decide +kernel
theorem dX3_vitalRegions_20 : decode cX3_vitalRegions 20 = .ok (.aload_n 0, 1) := by decide +kernel
theorem dX3_vitalRegions_21 : decode cX3_vitalRegions 21 = .ok (.aload_n 0, 1) := by decide +kernel
theorem dX3_vitalRegions_22 : decode cX3_vitalRegions 22 = .ok (.getfield 9, 3) := by decide +kernel
theorem dX3_vitalRegions_25 : decode cX3_vitalRegions 25 = .ok (.lload_n 3, 1) := by decide +kernel
theorem dX3_vitalRegions_26 : decode cX3_vitalRegions 26 = .ok (.iload 8, 2) := by decide +kernel
theorem dX3_vitalRegions_28 : decode cX3_vitalRegions 28 = .ok (.invokevirtual 27, 3) := by decide +kernel
theorem dX3_vitalRegions_31 : decode cX3_vitalRegions 31 = .ok (.lload_n 1, 1) := by decide +kernel
theorem dX3_vitalRegions_32 : decode cX3_vitalRegions 32 = .ok (.lload 5, 2) := by decide +kernel
theorem dX3_vitalRegions_34 : decode cX3_vitalRegions 34 = .ok (.invokevirtual 31, 3) := by decide +kernel
theorem dX3_vitalRegions_37 : decode cX3_vitalRegions 37 = .ok (.ifCond .eq 7, 3) := by decide +kernel
theorem dX3_vitalRegions_40 : decode cX3_vitalRegions 40 = .ok (.iconst 1, 1) := by decide +kernel
theorem dX3_vitalRegions_41 : decode cX3_vitalRegions 41 = .ok (.goto 4, 3) := by decide +kernel
theorem dX3_vitalRegions_44 : decode cX3_vitalRegions 44 = .ok (.iconst 0, 1) := by decide +kernel
theorem dX3_vitalRegions_45 : decode cX3_vitalRegions 45 = .ok (.iadd, 1) := by decide +kernel
theorem dX3_vitalRegions_46 : decode cX3_vitalRegions 46 = .ok (.istore 7, 2) := by decide +kernel
theorem dX3_vitalRegions_48 : decode cX3_vitalRegions 48 = .ok (.iinc 8 1, 3) := by decide +kernel
theorem dX3_vitalRegions_51 : decode cX3_vitalRegions 51 = .ok (.goto (-45), 3) := by decide +kernel
theorem dX3_vitalRegions_54 : decode cX3_vitalRegions 54 = .ok (.iload 7, 2) := by decide +kernel
theorem dX3_vitalRegions_56 : decode cX3_vitalRegions 56 = .ok (.ireturn, 1) := by decide +kernel
set_option maxRecDepth 20000 in
theorem ggX3_groupsTouched_X2_beside : GoodIn wsX3_groupsTouched wsX2_beside := goodIn_r _ [7, 8, 9, 10, 11, 22, 23, 24, 25, 26, 27] (by decide +kernel) (by decide +kernel)
set_option maxRecDepth 20000 in
theorem gX3_groupsTouched_X2_beside : GoodIn wsX3_groupsTouched (wsV RX3 15 RX2 yX2_beside wsX2_beside) := goodIn_app (goodIn_of _ (by decide +kernel)) ggX3_groupsTouched_X2_beside
set_option maxRecDepth 20000 in
theorem ggX3_groupsTouched_X2_partFrom : GoodIn wsX3_groupsTouched wsX2_partFrom := goodIn_r _ [15, 16, 4, 5, 6, 7, 8, 9, 10, 11, 17, 18, 19, 20, 22, 23, 24, 25, 26, 27] (by decide +kernel) (by decide +kernel)
set_option maxRecDepth 20000 in
theorem gX3_groupsTouched_X2_partFrom : GoodIn wsX3_groupsTouched (wsV RX3 27 RX2 yX2_partFrom wsX2_partFrom) := goodIn_app (goodIn_of _ (by decide +kernel)) ggX3_groupsTouched_X2_partFrom
theorem dX3_groupsTouched_0 : decode cX3_groupsTouched 0 = .ok (.aload_n 0, 1) := by decide +kernel
theorem dX3_groupsTouched_1 : decode cX3_groupsTouched 1 = .ok (.getfield 9, 3) := by decide +kernel
theorem dX3_groupsTouched_4 : decode cX3_groupsTouched 4 = .ok (.lload_n 1, 1) := by decide +kernel
theorem dX3_groupsTouched_5 : decode cX3_groupsTouched 5 = .ok (.invokevirtual 15, 3) := by decide +kernel
theorem dX3_groupsTouched_8 : decode cX3_groupsTouched 8 = .ok (.lstore 5, 2) := by decide +kernel
theorem dX3_groupsTouched_10 : decode cX3_groupsTouched 10 = .ok (.iconst 0, 1) := by decide +kernel
theorem dX3_groupsTouched_11 : decode cX3_groupsTouched 11 = .ok (.istore 7, 2) := by decide +kernel
theorem dX3_groupsTouched_13 : decode cX3_groupsTouched 13 = .ok (.iconst 0, 1) := by decide +kernel
theorem dX3_groupsTouched_14 : decode cX3_groupsTouched 14 = .ok (.istore 8, 2) := by decide +kernel
theorem dX3_groupsTouched_16 : decode cX3_groupsTouched 16 = .ok (.iload 8, 2) := by decide +kernel
theorem dX3_groupsTouched_18 : decode cX3_groupsTouched 18 = .ok (.aload_n 0, 1) := by decide +kernel
theorem dX3_groupsTouched_19 : decode cX3_groupsTouched 19 = .ok (.getfield 9, 3) := by decide +kernel
theorem dX3_groupsTouched_22 : decode cX3_groupsTouched 22 = .ok (.getfield 23, 3) := by decide +kernel
theorem dX3_groupsTouched_25 : decode cX3_groupsTouched 25 = .ok (.if_icmp .ge 37, 3) := by decide +kernel
theorem dX3_groupsTouched_28 : decode cX3_groupsTouched 28 = .ok (.iload 7, 2) := by decide +kernel
theorem dX3_groupsTouched_30 : decode cX3_groupsTouched 30 = .ok (.aload_n 0, 1) := by decide +kernel
theorem dX3_groupsTouched_31 : decode cX3_groupsTouched 31 = .ok (.getfield 9, 3) := by decide +kernel
theorem dX3_groupsTouched_34 : decode cX3_groupsTouched 34 = .ok (.lload_n 3, 1) := by decide +kernel
theorem dX3_groupsTouched_35 : decode cX3_groupsTouched 35 = .ok (.iload 8, 2) := by decide +kernel
theorem dX3_groupsTouched_37 : decode cX3_groupsTouched 37 = .ok (.invokevirtual 27, 3) := by decide +kernel
theorem dX3_groupsTouched_40 : decode cX3_groupsTouched 40 = .ok (.lload 5, 2) := by decide +kernel
theorem dX3_groupsTouched_42 : decode cX3_groupsTouched 42 = .ok (.land, 1) := by decide +kernel
theorem dX3_groupsTouched_43 : decode cX3_groupsTouched 43 = .ok (.lconst 0, 1) := by decide +kernel
theorem dX3_groupsTouched_44 : decode cX3_groupsTouched 44 = .ok (.lcmp, 1) := by decide +kernel
theorem dX3_groupsTouched_45 : decode cX3_groupsTouched 45 = .ok (.ifCond .eq 7, 3) := by decide +kernel
theorem dX3_groupsTouched_48 : decode cX3_groupsTouched 48 = .ok (.iconst 1, 1) := by decide +kernel
theorem dX3_groupsTouched_49 : decode cX3_groupsTouched 49 = .ok (.goto 4, 3) := by decide +kernel
theorem dX3_groupsTouched_52 : decode cX3_groupsTouched 52 = .ok (.iconst 0, 1) := by decide +kernel
theorem dX3_groupsTouched_53 : decode cX3_groupsTouched 53 = .ok (.iadd, 1) := by decide +kernel
theorem dX3_groupsTouched_54 : decode cX3_groupsTouched 54 = .ok (.istore 7, 2) := by decide +kernel
theorem dX3_groupsTouched_56 : decode cX3_groupsTouched 56 = .ok (.iinc 8 1, 3) := by decide +kernel
theorem dX3_groupsTouched_59 : decode cX3_groupsTouched 59 = .ok (.goto (-43), 3) := by decide +kernel
theorem dX3_groupsTouched_62 : decode cX3_groupsTouched 62 = .ok (.iload 7, 2) := by decide +kernel
theorem dX3_groupsTouched_64 : decode cX3_groupsTouched 64 = .ok (.ireturn, 1) := by decide +kernel
set_option maxRecDepth 20000 in
theorem ggX3_groupsItIsVitalTo_X2_partFrom : GoodIn wsX3_groupsItIsVitalTo wsX2_partFrom := goodIn_r _ [7, 8, 9, 10, 6, 11, 12, 13, 14, 15, 16, 17, 18, 19, 28, 29, 30, 31, 32, 33] (by decide +kernel) (by decide +kernel)
set_option maxRecDepth 20000 in
theorem gX3_groupsItIsVitalTo_X2_partFrom : GoodIn wsX3_groupsItIsVitalTo (wsV RX3 27 RX2 yX2_partFrom wsX2_partFrom) := goodIn_app (goodIn_of _ (by decide +kernel)) ggX3_groupsItIsVitalTo_X2_partFrom
set_option maxRecDepth 20000 in
theorem ggX3_groupsItIsVitalTo_X3_isVital : GoodIn wsX3_groupsItIsVitalTo wsX3_isVital := goodIn_r _ [24, 1, 25, 26, 9, 10, 6, 11, 12, 13, 14, 15, 27, 28, 29, 30, 31, 32, 33] (by decide +kernel) (by decide +kernel)
set_option maxRecDepth 20000 in
theorem gX3_groupsItIsVitalTo_X3_isVital : GoodIn wsX3_groupsItIsVitalTo (wsV RX3 31 RX3 yX3_isVital wsX3_isVital) := goodIn_app (goodIn_of _ (by decide +kernel)) ggX3_groupsItIsVitalTo_X3_isVital
theorem dX3_groupsItIsVitalTo_0 : decode cX3_groupsItIsVitalTo 0 = .ok (.iconst 0, 1) := by decide +kernel
theorem dX3_groupsItIsVitalTo_1 : decode cX3_groupsItIsVitalTo 1 = .ok (.istore 7, 2) := by decide +kernel
theorem dX3_groupsItIsVitalTo_3 : decode cX3_groupsItIsVitalTo 3 = .ok (.iconst 0, 1) := by decide +kernel
theorem dX3_groupsItIsVitalTo_4 : decode cX3_groupsItIsVitalTo 4 = .ok (.istore 8, 2) := by decide +kernel
theorem dX3_groupsItIsVitalTo_6 : decode cX3_groupsItIsVitalTo 6 = .ok (.iload 8, 2) := by decide +kernel
theorem dX3_groupsItIsVitalTo_8 : decode cX3_groupsItIsVitalTo 8 = .ok (.aload_n 0, 1) := by decide +kernel
theorem dX3_groupsItIsVitalTo_9 : decode cX3_groupsItIsVitalTo 9 = .ok (.getfield 9, 3) := by decide +kernel
theorem dX3_groupsItIsVitalTo_12 : decode cX3_groupsItIsVitalTo 12 = .ok (.getfield 23, 3) := by decide +kernel
theorem dX3_groupsItIsVitalTo_15 : decode cX3_groupsItIsVitalTo 15 = .ok (.if_icmp .ge 39, 3) := by decide +kernel
theorem dX3_groupsItIsVitalTo_18 : decode cX3_groupsItIsVitalTo 18 = .ok (.iload 7, 2) := by decide +kernel
theorem dX3_groupsItIsVitalTo_20 : decode cX3_groupsItIsVitalTo 20 = .ok (.aload_n 0, 1) := by decide +kernel
theorem dX3_groupsItIsVitalTo_21 : decode cX3_groupsItIsVitalTo 21 = .ok (.lload_n 1, 1) := by decide +kernel
theorem dX3_groupsItIsVitalTo_22 : decode cX3_groupsItIsVitalTo 22 = .ok (.aload_n 0, 1) := by decide +kernel
theorem dX3_groupsItIsVitalTo_23 : decode cX3_groupsItIsVitalTo 23 = .ok (.getfield 9, 3) := by decide +kernel
theorem dX3_groupsItIsVitalTo_26 : decode cX3_groupsItIsVitalTo 26 = .ok (.lload_n 3, 1) := by decide +kernel
theorem dX3_groupsItIsVitalTo_27 : decode cX3_groupsItIsVitalTo 27 = .ok (.iload 8, 2) := by decide +kernel
theorem dX3_groupsItIsVitalTo_29 : decode cX3_groupsItIsVitalTo 29 = .ok (.invokevirtual 27, 3) := by decide +kernel
theorem dX3_groupsItIsVitalTo_32 : decode cX3_groupsItIsVitalTo 32 = .ok (.lload 5, 2) := by decide +kernel
theorem dX3_groupsItIsVitalTo_34 : decode cX3_groupsItIsVitalTo 34 = .ok (.invokevirtual 31, 3) := by decide +kernel
theorem dX3_groupsItIsVitalTo_37 : decode cX3_groupsItIsVitalTo 37 = .ok (.ifCond .eq 7, 3) := by decide +kernel
theorem dX3_groupsItIsVitalTo_40 : decode cX3_groupsItIsVitalTo 40 = .ok (.iconst 1, 1) := by decide +kernel
theorem dX3_groupsItIsVitalTo_41 : decode cX3_groupsItIsVitalTo 41 = .ok (.goto 4, 3) := by decide +kernel
theorem dX3_groupsItIsVitalTo_44 : decode cX3_groupsItIsVitalTo 44 = .ok (.iconst 0, 1) := by decide +kernel
theorem dX3_groupsItIsVitalTo_45 : decode cX3_groupsItIsVitalTo 45 = .ok (.iadd, 1) := by decide +kernel
theorem dX3_groupsItIsVitalTo_46 : decode cX3_groupsItIsVitalTo 46 = .ok (.istore 7, 2) := by decide +kernel
theorem dX3_groupsItIsVitalTo_48 : decode cX3_groupsItIsVitalTo 48 = .ok (.iinc 8 1, 3) := by decide +kernel
theorem dX3_groupsItIsVitalTo_51 : decode cX3_groupsItIsVitalTo 51 = .ok (.goto (-45), 3) := by decide +kernel
theorem dX3_groupsItIsVitalTo_54 : decode cX3_groupsItIsVitalTo 54 = .ok (.iload 7, 2) := by decide +kernel
theorem dX3_groupsItIsVitalTo_56 : decode cX3_groupsItIsVitalTo 56 = .ok (.ireturn, 1) := by decide +kernel
set_option maxRecDepth 20000 in
theorem ggX3_standingStones_X3_groupsWithoutTwo : GoodIn wsX3_standingStones wsX3_groupsWithoutTwo := goodIn_r _ [8, 1, 9, 10, 11, 12, 13, 14, 15, 16, 17, 18, 19, 20, 21, 22, 23, 24, 25, 26, 27, 28, 29, 7, 30, 31, 32, 33, 34, 3, 35, 37, 38, 39, 40, 41, 42, 43] (by decide +kernel) (by decide +kernel)
set_option maxRecDepth 20000 in
theorem gX3_standingStones_X3_groupsWithoutTwo : GoodIn wsX3_standingStones (wsV RX3 39 RX3 yX3_groupsWithoutTwo wsX3_groupsWithoutTwo) := goodIn_app (goodIn_of _ (by decide +kernel)) ggX3_standingStones_X3_groupsWithoutTwo
set_option maxRecDepth 20000 in
theorem ggX3_standingStones_X2_beside : GoodIn wsX3_standingStones wsX2_beside := goodIn_r _ [18, 19, 20, 21, 22, 38, 39, 40, 41, 42, 43] (by decide +kernel) (by decide +kernel)
set_option maxRecDepth 20000 in
theorem gX3_standingStones_X2_beside : GoodIn wsX3_standingStones (wsV RX3 15 RX2 yX2_beside wsX2_beside) := goodIn_app (goodIn_of _ (by decide +kernel)) ggX3_standingStones_X2_beside
set_option maxRecDepth 20000 in
theorem ggX3_standingStones_X2_spread : GoodIn wsX3_standingStones wsX2_spread := goodIn_r _ [26, 15, 16, 17, 13, 18, 19, 20, 21, 22, 38, 39, 40, 41, 42, 43] (by decide +kernel) (by decide +kernel)
set_option maxRecDepth 20000 in
theorem gX3_standingStones_X2_spread : GoodIn wsX3_standingStones (wsV RX3 43 RX2 yX2_spread wsX2_spread) := goodIn_app (goodIn_of _ (by decide +kernel)) ggX3_standingStones_X2_spread
theorem dX3_standingStones_0 : decode cX3_standingStones 0 = .ok (.lload_n 1, 1) := by decide +kernel
theorem dX3_standingStones_1 : decode cX3_standingStones 1 = .ok (.lstore 5, 2) := by decide +kernel
theorem dX3_standingStones_3 : decode cX3_standingStones 3 = .ok (.aload_n 0, 1) := by decide +kernel
theorem dX3_standingStones_4 : decode cX3_standingStones 4 = .ok (.getfield 9, 3) := by decide +kernel
theorem dX3_standingStones_7 : decode cX3_standingStones 7 = .ok (.getfield 35, 3) := by decide +kernel
theorem dX3_standingStones_10 : decode cX3_standingStones 10 = .ok (.lload_n 1, 1) := by decide +kernel
theorem dX3_standingStones_11 : decode cX3_standingStones 11 = .ok (.ldc2_w 21, 3) := by decide +kernel
theorem dX3_standingStones_14 : decode cX3_standingStones 14 = .ok (.lxor, 1) := by decide +kernel
theorem dX3_standingStones_15 : decode cX3_standingStones 15 = .ok (.land, 1) := by decide +kernel
theorem dX3_standingStones_16 : decode cX3_standingStones 16 = .ok (.lstore 7, 2) := by decide +kernel
theorem dX3_standingStones_18 : decode cX3_standingStones 18 = .ok (.iconst 0, 1) := by decide +kernel
theorem dX3_standingStones_19 : decode cX3_standingStones 19 = .ok (.istore 9, 2) := by decide +kernel
theorem dX3_standingStones_21 : decode cX3_standingStones 21 = .ok (.iload 9, 2) := by decide +kernel
theorem dX3_standingStones_23 : decode cX3_standingStones 23 = .ok (.bipush 49, 2) := by decide +kernel
theorem dX3_standingStones_25 : decode cX3_standingStones 25 = .ok (.if_icmp .ge 68, 3) := by decide +kernel
theorem dX3_standingStones_28 : decode cX3_standingStones 28 = .ok (.aload_n 0, 1) := by decide +kernel
theorem dX3_standingStones_29 : decode cX3_standingStones 29 = .ok (.lload 5, 2) := by decide +kernel
theorem dX3_standingStones_31 : decode cX3_standingStones 31 = .ok (.lload 7, 2) := by decide +kernel
theorem dX3_standingStones_33 : decode cX3_standingStones 33 = .ok (.lload_n 3, 1) := by decide +kernel
theorem dX3_standingStones_34 : decode cX3_standingStones 34 = .ok (.invokevirtual 39, 3) := by decide +kernel
theorem dX3_standingStones_37 : decode cX3_standingStones 37 = .ok (.lstore 10, 2) := by decide +kernel
theorem dX3_standingStones_39 : decode cX3_standingStones 39 = .ok (.lload 10, 2) := by decide +kernel
theorem dX3_standingStones_41 : decode cX3_standingStones 41 = .ok (.lconst 0, 1) := by decide +kernel
theorem dX3_standingStones_42 : decode cX3_standingStones 42 = .ok (.lcmp, 1) := by decide +kernel
theorem dX3_standingStones_43 : decode cX3_standingStones 43 = .ok (.ifCond .ne 6, 3) := by decide +kernel
theorem dX3_standingStones_46 : decode cX3_standingStones 46 = .ok (.goto 47, 3) := by decide +kernel
theorem dX3_standingStones_49 : decode cX3_standingStones 49 = .ok (.lload 5, 2) := by decide +kernel
theorem dX3_standingStones_51 : decode cX3_standingStones 51 = .ok (.lload 10, 2) := by decide +kernel
theorem dX3_standingStones_53 : decode cX3_standingStones 53 = .ok (.ldc2_w 21, 3) := by decide +kernel
theorem dX3_standingStones_56 : decode cX3_standingStones 56 = .ok (.lxor, 1) := by decide +kernel
theorem dX3_standingStones_57 : decode cX3_standingStones 57 = .ok (.land, 1) := by decide +kernel
theorem dX3_standingStones_58 : decode cX3_standingStones 58 = .ok (.lstore 5, 2) := by decide +kernel
theorem dX3_standingStones_60 : decode cX3_standingStones 60 = .ok (.lload 7, 2) := by decide +kernel
theorem dX3_standingStones_62 : decode cX3_standingStones 62 = .ok (.aload_n 0, 1) := by decide +kernel
theorem dX3_standingStones_63 : decode cX3_standingStones 63 = .ok (.getfield 9, 3) := by decide +kernel
theorem dX3_standingStones_66 : decode cX3_standingStones 66 = .ok (.aload_n 0, 1) := by decide +kernel
theorem dX3_standingStones_67 : decode cX3_standingStones 67 = .ok (.getfield 9, 3) := by decide +kernel
end
section
theorem dX3_standingStones_70 : decode cX3_standingStones 70 = .ok (.lload 10, 2) := by decide +kernel
theorem dX3_standingStones_72 : decode cX3_standingStones 72 = .ok (.invokevirtual 15, 3) := by decide +kernel
theorem dX3_standingStones_75 : decode cX3_standingStones 75 = .ok (.lload 7, 2) := by decide +kernel
theorem dX3_standingStones_77 : decode cX3_standingStones 77 = .ok (.invokevirtual 43, 3) := by decide +kernel
theorem dX3_standingStones_80 : decode cX3_standingStones 80 = .ok (.ldc2_w 21, 3) := by decide +kernel
theorem dX3_standingStones_83 : decode cX3_standingStones 83 = .ok (.lxor, 1) := by decide +kernel
theorem dX3_standingStones_84 : decode cX3_standingStones 84 = .ok (.land, 1) := by decide +kernel
theorem dX3_standingStones_85 : decode cX3_standingStones 85 = .ok (.lstore 7, 2) := by decide +kernel
theorem dX3_standingStones_87 : decode cX3_standingStones 87 = .ok (.iinc 9 1, 3) := by decide +kernel
theorem dX3_standingStones_90 : decode cX3_standingStones 90 = .ok (.goto (-69), 3) := by decide +kernel
theorem dX3_standingStones_93 : decode cX3_standingStones 93 = .ok (.lload 5, 2) := by decide +kernel
theorem dX3_standingStones_95 : decode cX3_standingStones 95 = .ok (.lreturn, 1) := by decide +kernel
set_option maxRecDepth 20000 in
theorem ggX3_groupsWithoutTwo_X2_partFrom : GoodIn wsX3_groupsWithoutTwo wsX2_partFrom := goodIn_r _ [7, 8, 9, 10, 6, 11, 12, 13, 14, 15, 16, 17, 18, 19, 32, 33, 34, 35, 36, 37] (by decide +kernel) (by decide +kernel)
set_option maxRecDepth 20000 in
theorem gX3_groupsWithoutTwo_X2_partFrom : GoodIn wsX3_groupsWithoutTwo (wsV RX3 27 RX2 yX2_partFrom wsX2_partFrom) := goodIn_app (goodIn_of _ (by decide +kernel)) ggX3_groupsWithoutTwo_X2_partFrom
set_option maxRecDepth 20000 in
theorem ggX3_groupsWithoutTwo_X3_vitalRegions : GoodIn wsX3_groupsWithoutTwo wsX3_vitalRegions := goodIn_r _ [24, 1, 2, 3, 4, 5, 6, 7, 8, 9, 10, 11, 12, 13, 14, 15, 16, 17, 18, 19, 25, 26, 27, 23, 28, 29, 30, 31, 32, 33, 34, 35, 36, 37] (by decide +kernel) (by decide +kernel)
set_option maxRecDepth 20000 in
theorem gX3_groupsWithoutTwo_X3_vitalRegions : GoodIn wsX3_groupsWithoutTwo (wsV RX3 47 RX3 yX3_vitalRegions wsX3_vitalRegions) := goodIn_app (goodIn_of _ (by decide +kernel)) ggX3_groupsWithoutTwo_X3_vitalRegions
theorem dX3_groupsWithoutTwo_0 : decode cX3_groupsWithoutTwo 0 = .ok (.lconst 0, 1) := by decide +kernel
theorem dX3_groupsWithoutTwo_1 : decode cX3_groupsWithoutTwo 1 = .ok (.lstore 7, 2) := by decide +kernel
theorem dX3_groupsWithoutTwo_3 : decode cX3_groupsWithoutTwo 3 = .ok (.iconst 0, 1) := by decide +kernel
theorem dX3_groupsWithoutTwo_4 : decode cX3_groupsWithoutTwo 4 = .ok (.istore 9, 2) := by decide +kernel
theorem dX3_groupsWithoutTwo_6 : decode cX3_groupsWithoutTwo 6 = .ok (.iload 9, 2) := by decide +kernel
theorem dX3_groupsWithoutTwo_8 : decode cX3_groupsWithoutTwo 8 = .ok (.aload_n 0, 1) := by decide +kernel
theorem dX3_groupsWithoutTwo_9 : decode cX3_groupsWithoutTwo 9 = .ok (.getfield 9, 3) := by decide +kernel
theorem dX3_groupsWithoutTwo_12 : decode cX3_groupsWithoutTwo 12 = .ok (.getfield 23, 3) := by decide +kernel
theorem dX3_groupsWithoutTwo_15 : decode cX3_groupsWithoutTwo 15 = .ok (.if_icmp .ge 48, 3) := by decide +kernel
theorem dX3_groupsWithoutTwo_18 : decode cX3_groupsWithoutTwo 18 = .ok (.aload_n 0, 1) := by decide +kernel
theorem dX3_groupsWithoutTwo_19 : decode cX3_groupsWithoutTwo 19 = .ok (.getfield 9, 3) := by decide +kernel
theorem dX3_groupsWithoutTwo_22 : decode cX3_groupsWithoutTwo 22 = .ok (.lload_n 1, 1) := by decide +kernel
theorem dX3_groupsWithoutTwo_23 : decode cX3_groupsWithoutTwo 23 = .ok (.iload 9, 2) := by decide +kernel
theorem dX3_groupsWithoutTwo_25 : decode cX3_groupsWithoutTwo 25 = .ok (.invokevirtual 27, 3) := by decide +kernel
theorem dX3_groupsWithoutTwo_28 : decode cX3_groupsWithoutTwo 28 = .ok (.lstore 10, 2) := by decide +kernel
theorem dX3_groupsWithoutTwo_30 : decode cX3_groupsWithoutTwo 30 = .ok (.lload 10, 2) := by decide +kernel
theorem dX3_groupsWithoutTwo_32 : decode cX3_groupsWithoutTwo 32 = .ok (.lconst 0, 1) := by decide +kernel
theorem dX3_groupsWithoutTwo_33 : decode cX3_groupsWithoutTwo 33 = .ok (.lcmp, 1) := by decide +kernel
theorem dX3_groupsWithoutTwo_34 : decode cX3_groupsWithoutTwo 34 = .ok (.ifCond .eq 23, 3) := by decide +kernel
theorem dX3_groupsWithoutTwo_37 : decode cX3_groupsWithoutTwo 37 = .ok (.aload_n 0, 1) := by decide +kernel
theorem dX3_groupsWithoutTwo_38 : decode cX3_groupsWithoutTwo 38 = .ok (.lload 10, 2) := by decide +kernel
theorem dX3_groupsWithoutTwo_40 : decode cX3_groupsWithoutTwo 40 = .ok (.lload_n 3, 1) := by decide +kernel
theorem dX3_groupsWithoutTwo_41 : decode cX3_groupsWithoutTwo 41 = .ok (.lload 5, 2) := by decide +kernel
theorem dX3_groupsWithoutTwo_43 : decode cX3_groupsWithoutTwo 43 = .ok (.invokevirtual 47, 3) := by decide +kernel
theorem dX3_groupsWithoutTwo_46 : decode cX3_groupsWithoutTwo 46 = .ok (.iconst 2, 1) := by decide +kernel
theorem dX3_groupsWithoutTwo_47 : decode cX3_groupsWithoutTwo 47 = .ok (.if_icmp .ge 10, 3) := by decide +kernel
theorem dX3_groupsWithoutTwo_50 : decode cX3_groupsWithoutTwo 50 = .ok (.lload 7, 2) := by decide +kernel
theorem dX3_groupsWithoutTwo_52 : decode cX3_groupsWithoutTwo 52 = .ok (.lload 10, 2) := by decide +kernel
theorem dX3_groupsWithoutTwo_54 : decode cX3_groupsWithoutTwo 54 = .ok (.lor, 1) := by decide +kernel
theorem dX3_groupsWithoutTwo_55 : decode cX3_groupsWithoutTwo 55 = .ok (.lstore 7, 2) := by decide +kernel
theorem dX3_groupsWithoutTwo_57 : decode cX3_groupsWithoutTwo 57 = .ok (.iinc 9 1, 3) := by decide +kernel
theorem dX3_groupsWithoutTwo_60 : decode cX3_groupsWithoutTwo 60 = .ok (.goto (-54), 3) := by decide +kernel
theorem dX3_groupsWithoutTwo_63 : decode cX3_groupsWithoutTwo 63 = .ok (.lload 7, 2) := by decide +kernel
theorem dX3_groupsWithoutTwo_65 : decode cX3_groupsWithoutTwo 65 = .ok (.lreturn, 1) := by decide +kernel
theorem dX4_init_0 : decode cX4_init 0 = .ok (.aload_n 0, 1) := by decide +kernel
theorem dX4_init_1 : decode cX4_init 1 = .ok (.invokespecial 3, 3) := by decide +kernel
theorem dX4_init_4 : decode cX4_init 4 = .ok (.aload_n 0, 1) := by decide +kernel
theorem dX4_init_5 : decode cX4_init 5 = .ok (.aload_n 1, 1) := by decide +kernel
theorem dX4_init_6 : decode cX4_init 6 = .ok (.putfield 9, 3) := by decide +kernel
theorem dX4_init_9 : decode cX4_init 9 = .ok (.iload_n 2, 1) := by decide +kernel
theorem dX4_init_10 : decode cX4_init 10 = .ok (.iconst 0, 1) := by decide +kernel
theorem dX4_init_11 : decode cX4_init 11 = .ok (.invokestatic 15, 3) := by decide +kernel
theorem dX4_init_14 : decode cX4_init 14 = .ok (.iconst 1, 1) := by decide +kernel
theorem dX4_init_15 : decode cX4_init 15 = .ok (.iadd, 1) := by decide +kernel
theorem dX4_init_16 : decode cX4_init 16 = .ok (.istore_n 3, 1) := by decide +kernel
theorem dX4_init_17 : decode cX4_init 17 = .ok (.aload_n 0, 1) := by decide +kernel
theorem dX4_init_18 : decode cX4_init 18 = .ok (.iload_n 3, 1) := by decide +kernel
theorem dX4_init_19 : decode cX4_init 19 = .ok (.newarray .long, 2) := by decide +kernel
theorem dX4_init_21 : decode cX4_init 21 = .ok (.putfield 21, 3) := by decide +kernel
theorem dX4_init_24 : decode cX4_init 24 = .ok (.aload_n 0, 1) := by decide +kernel
theorem dX4_init_25 : decode cX4_init 25 = .ok (.iload_n 3, 1) := by decide +kernel
theorem dX4_init_26 : decode cX4_init 26 = .ok (.newarray .long, 2) := by decide +kernel
theorem dX4_init_28 : decode cX4_init 28 = .ok (.putfield 25, 3) := by decide +kernel
theorem dX4_init_31 : decode cX4_init 31 = .ok (.aload_n 0, 1) := by decide +kernel
theorem dX4_init_32 : decode cX4_init 32 = .ok (.iload_n 3, 1) := by decide +kernel
theorem dX4_init_33 : decode cX4_init 33 = .ok (.newarray .int, 2) := by decide +kernel
theorem dX4_init_35 : decode cX4_init 35 = .ok (.putfield 28, 3) := by decide +kernel
theorem dX4_init_38 : decode cX4_init 38 = .ok (.return_, 1) := by decide +kernel
set_option maxRecDepth 20000 in
theorem ggX4_begin_X4_keep : GoodIn wsX4_begin wsX4_keep := goodIn_r _ [8, 9, 10, 11, 12, 13, 14, 15, 16, 17, 18, 19] (by decide +kernel) (by decide +kernel)
set_option maxRecDepth 20000 in
theorem gX4_begin_X4_keep : GoodIn wsX4_begin (wsV RX4 42 RX4 yX4_keep wsX4_keep) := goodIn_app (goodIn_of _ (by decide +kernel)) ggX4_begin_X4_keep
theorem dX4_begin_0 : decode cX4_begin 0 = .ok (.aload_n 0, 1) := by decide +kernel
theorem dX4_begin_1 : decode cX4_begin 1 = .ok (.iload 6, 2) := by decide +kernel
theorem dX4_begin_3 : decode cX4_begin 3 = .ok (.putfield 32, 3) := by decide +kernel
theorem dX4_begin_6 : decode cX4_begin 6 = .ok (.aload_n 0, 1) := by decide +kernel
theorem dX4_begin_7 : decode cX4_begin 7 = .ok (.iconst 0, 1) := by decide +kernel
theorem dX4_begin_8 : decode cX4_begin 8 = .ok (.putfield 36, 3) := by decide +kernel
theorem dX4_begin_11 : decode cX4_begin 11 = .ok (.aload_n 0, 1) := by decide +kernel
theorem dX4_begin_12 : decode cX4_begin 12 = .ok (.iload 5, 2) := by decide +kernel
theorem dX4_begin_14 : decode cX4_begin 14 = .ok (.putfield 39, 3) := by decide +kernel
theorem dX4_begin_17 : decode cX4_begin 17 = .ok (.aload_n 0, 1) := by decide +kernel
theorem dX4_begin_18 : decode cX4_begin 18 = .ok (.iconst 0, 1) := by decide +kernel
theorem dX4_begin_19 : decode cX4_begin 19 = .ok (.lload_n 1, 1) := by decide +kernel
theorem dX4_begin_20 : decode cX4_begin 20 = .ok (.lload_n 3, 1) := by decide +kernel
theorem dX4_begin_21 : decode cX4_begin 21 = .ok (.invokevirtual 42, 3) := by decide +kernel
theorem dX4_begin_24 : decode cX4_begin 24 = .ok (.return_, 1) := by decide +kernel
theorem dX4_keep_0 : decode cX4_keep 0 = .ok (.iload_n 1, 1) := by decide +kernel
theorem dX4_keep_1 : decode cX4_keep 1 = .ok (.ifCond .lt 36, 3) := by decide +kernel
theorem dX4_keep_4 : decode cX4_keep 4 = .ok (.iload_n 1, 1) := by decide +kernel
theorem dX4_keep_5 : decode cX4_keep 5 = .ok (.aload_n 0, 1) := by decide +kernel
theorem dX4_keep_6 : decode cX4_keep 6 = .ok (.getfield 21, 3) := by decide +kernel
theorem dX4_keep_9 : decode cX4_keep 9 = .ok (.arraylength, 1) := by decide +kernel
theorem dX4_keep_10 : decode cX4_keep 10 = .ok (.if_icmp .ge 27, 3) := by decide +kernel
theorem dX4_keep_13 : decode cX4_keep 13 = .ok (.iload_n 1, 1) := by decide +kernel
theorem dX4_keep_14 : decode cX4_keep 14 = .ok (.aload_n 0, 1) := by decide +kernel
theorem dX4_keep_15 : decode cX4_keep 15 = .ok (.getfield 25, 3) := by decide +kernel
theorem dX4_keep_18 : decode cX4_keep 18 = .ok (.arraylength, 1) := by decide +kernel
theorem dX4_keep_19 : decode cX4_keep 19 = .ok (.if_icmp .ge 18, 3) := by decide +kernel
theorem dX4_keep_22 : decode cX4_keep 22 = .ok (.aload_n 0, 1) := by decide +kernel
theorem dX4_keep_23 : decode cX4_keep 23 = .ok (.getfield 21, 3) := by decide +kernel
theorem dX4_keep_26 : decode cX4_keep 26 = .ok (.iload_n 1, 1) := by decide +kernel
theorem dX4_keep_27 : decode cX4_keep 27 = .ok (.lload_n 2, 1) := by decide +kernel
theorem dX4_keep_28 : decode cX4_keep 28 = .ok (.lastore, 1) := by decide +kernel
theorem dX4_keep_29 : decode cX4_keep 29 = .ok (.aload_n 0, 1) := by decide +kernel
theorem dX4_keep_30 : decode cX4_keep 30 = .ok (.getfield 25, 3) := by decide +kernel
theorem dX4_keep_33 : decode cX4_keep 33 = .ok (.iload_n 1, 1) := by decide +kernel
theorem dX4_keep_34 : decode cX4_keep 34 = .ok (.lload 4, 2) := by decide +kernel
theorem dX4_keep_36 : decode cX4_keep 36 = .ok (.lastore, 1) := by decide +kernel
theorem dX4_keep_37 : decode cX4_keep 37 = .ok (.return_, 1) := by decide +kernel
theorem dX4_stonesThen_0 : decode cX4_stonesThen 0 = .ok (.iload_n 2, 1) := by decide +kernel
theorem dX4_stonesThen_1 : decode cX4_stonesThen 1 = .ok (.iconst 1, 1) := by decide +kernel
theorem dX4_stonesThen_2 : decode cX4_stonesThen 2 = .ok (.if_icmp .ne 10, 3) := by decide +kernel
theorem dX4_stonesThen_5 : decode cX4_stonesThen 5 = .ok (.aload_n 0, 1) := by decide +kernel
theorem dX4_stonesThen_6 : decode cX4_stonesThen 6 = .ok (.getfield 21, 3) := by decide +kernel
theorem dX4_stonesThen_9 : decode cX4_stonesThen 9 = .ok (.goto 7, 3) := by decide +kernel
theorem dX4_stonesThen_12 : decode cX4_stonesThen 12 = .ok (.aload_n 0, 1) := by decide +kernel
theorem dX4_stonesThen_13 : decode cX4_stonesThen 13 = .ok (.getfield 25, 3) := by decide +kernel
theorem dX4_stonesThen_16 : decode cX4_stonesThen 16 = .ok (.astore_n 3, 1) := by decide +kernel
theorem dX4_stonesThen_17 : decode cX4_stonesThen 17 = .ok (.iload_n 1, 1) := by decide +kernel
theorem dX4_stonesThen_18 : decode cX4_stonesThen 18 = .ok (.ifCond .lt 15, 3) := by decide +kernel
theorem dX4_stonesThen_21 : decode cX4_stonesThen 21 = .ok (.iload_n 1, 1) := by decide +kernel
theorem dX4_stonesThen_22 : decode cX4_stonesThen 22 = .ok (.aload_n 3, 1) := by decide +kernel
theorem dX4_stonesThen_23 : decode cX4_stonesThen 23 = .ok (.arraylength, 1) := by decide +kernel
theorem dX4_stonesThen_24 : decode cX4_stonesThen 24 = .ok (.if_icmp .ge 9, 3) := by decide +kernel
theorem dX4_stonesThen_27 : decode cX4_stonesThen 27 = .ok (.aload_n 3, 1) := by decide +kernel
theorem dX4_stonesThen_28 : decode cX4_stonesThen 28 = .ok (.iload_n 1, 1) := by decide +kernel
theorem dX4_stonesThen_29 : decode cX4_stonesThen 29 = .ok (.laload, 1) := by decide +kernel
theorem dX4_stonesThen_30 : decode cX4_stonesThen 30 = .ok (.goto 4, 3) := by decide +kernel
theorem dX4_stonesThen_33 : decode cX4_stonesThen 33 = .ok (.lconst 0, 1) := by decide +kernel
theorem dX4_stonesThen_34 : decode cX4_stonesThen 34 = .ok (.lreturn, 1) := by decide +kernel
theorem dX4_moverThen_0 : decode cX4_moverThen 0 = .ok (.iload_n 1, 1) := by decide +kernel
theorem dX4_moverThen_1 : decode cX4_moverThen 1 = .ok (.iconst 1, 1) := by decide +kernel
theorem dX4_moverThen_2 : decode cX4_moverThen 2 = .ok (.iand, 1) := by decide +kernel
theorem dX4_moverThen_3 : decode cX4_moverThen 3 = .ok (.ifCond .ne 10, 3) := by decide +kernel
theorem dX4_moverThen_6 : decode cX4_moverThen 6 = .ok (.aload_n 0, 1) := by decide +kernel
theorem dX4_moverThen_7 : decode cX4_moverThen 7 = .ok (.getfield 39, 3) := by decide +kernel
theorem dX4_moverThen_10 : decode cX4_moverThen 10 = .ok (.goto 9, 3) := by decide +kernel
theorem dX4_moverThen_13 : decode cX4_moverThen 13 = .ok (.iconst 3, 1) := by decide +kernel
theorem dX4_moverThen_14 : decode cX4_moverThen 14 = .ok (.aload_n 0, 1) := by decide +kernel
theorem dX4_moverThen_15 : decode cX4_moverThen 15 = .ok (.getfield 39, 3) := by decide +kernel
theorem dX4_moverThen_18 : decode cX4_moverThen 18 = .ok (.isub, 1) := by decide +kernel
theorem dX4_moverThen_19 : decode cX4_moverThen 19 = .ok (.ireturn, 1) := by decide +kernel
set_option maxRecDepth 20000 in
theorem ggX4_stonesOf_X4_stonesThen : GoodIn wsX4_stonesOf wsX4_stonesThen := goodIn_r _ [6, 7, 8, 9, 10, 11, 12, 13, 14, 15, 16, 17] (by decide +kernel) (by decide +kernel)
set_option maxRecDepth 20000 in
theorem gX4_stonesOf_X4_stonesThen : GoodIn wsX4_stonesOf (wsV RX4 46 RX4 yX4_stonesThen wsX4_stonesThen) := goodIn_app (goodIn_of _ (by decide +kernel)) ggX4_stonesOf_X4_stonesThen
theorem dX4_stonesOf_0 : decode cX4_stonesOf 0 = .ok (.aload_n 0, 1) := by decide +kernel
theorem dX4_stonesOf_1 : decode cX4_stonesOf 1 = .ok (.aload_n 0, 1) := by decide +kernel
theorem dX4_stonesOf_2 : decode cX4_stonesOf 2 = .ok (.getfield 36, 3) := by decide +kernel
theorem dX4_stonesOf_5 : decode cX4_stonesOf 5 = .ok (.iload_n 1, 1) := by decide +kernel
theorem dX4_stonesOf_6 : decode cX4_stonesOf 6 = .ok (.invokevirtual 46, 3) := by decide +kernel
theorem dX4_stonesOf_9 : decode cX4_stonesOf 9 = .ok (.lreturn, 1) := by decide +kernel
set_option maxRecDepth 20000 in
theorem ggX4_mover_X4_moverThen : GoodIn wsX4_mover wsX4_moverThen := goodIn_r _ [6, 7, 8, 9, 10, 11, 12, 13, 14, 15, 16] (by decide +kernel) (by decide +kernel)
set_option maxRecDepth 20000 in
theorem gX4_mover_X4_moverThen : GoodIn wsX4_mover (wsV RX4 50 RX4 yX4_moverThen wsX4_moverThen) := goodIn_app (goodIn_of _ (by decide +kernel)) ggX4_mover_X4_moverThen
theorem dX4_mover_0 : decode cX4_mover 0 = .ok (.aload_n 0, 1) := by decide +kernel
theorem dX4_mover_1 : decode cX4_mover 1 = .ok (.aload_n 0, 1) := by decide +kernel
theorem dX4_mover_2 : decode cX4_mover 2 = .ok (.getfield 36, 3) := by decide +kernel
theorem dX4_mover_5 : decode cX4_mover 5 = .ok (.invokevirtual 50, 3) := by decide +kernel
theorem dX4_mover_8 : decode cX4_mover 8 = .ok (.ireturn, 1) := by decide +kernel
set_option maxRecDepth 20000 in
theorem ggX4_free_X4_stonesThen : GoodIn wsX4_free wsX4_stonesThen := goodIn_r _ [9, 10, 11, 12, 13, 14, 15, 16, 17, 18, 19, 20] (by decide +kernel) (by decide +kernel)
set_option maxRecDepth 20000 in
theorem gX4_free_X4_stonesThen : GoodIn wsX4_free (wsV RX4 46 RX4 yX4_stonesThen wsX4_stonesThen) := goodIn_app (goodIn_of _ (by decide +kernel)) ggX4_free_X4_stonesThen
theorem dX4_free_0 : decode cX4_free 0 = .ok (.aload_n 0, 1) := by decide +kernel
theorem dX4_free_1 : decode cX4_free 1 = .ok (.getfield 9, 3) := by decide +kernel
theorem dX4_free_4 : decode cX4_free 4 = .ok (.getfield 54, 3) := by decide +kernel
theorem dX4_free_7 : decode cX4_free 7 = .ok (.aload_n 0, 1) := by decide +kernel
theorem dX4_free_8 : decode cX4_free 8 = .ok (.aload_n 0, 1) := by decide +kernel
theorem dX4_free_9 : decode cX4_free 9 = .ok (.getfield 36, 3) := by decide +kernel
theorem dX4_free_12 : decode cX4_free 12 = .ok (.iconst 1, 1) := by decide +kernel
theorem dX4_free_13 : decode cX4_free 13 = .ok (.invokevirtual 46, 3) := by decide +kernel
theorem dX4_free_16 : decode cX4_free 16 = .ok (.aload_n 0, 1) := by decide +kernel
theorem dX4_free_17 : decode cX4_free 17 = .ok (.aload_n 0, 1) := by decide +kernel
theorem dX4_free_18 : decode cX4_free 18 = .ok (.getfield 36, 3) := by decide +kernel
theorem dX4_free_21 : decode cX4_free 21 = .ok (.iconst 2, 1) := by decide +kernel
theorem dX4_free_22 : decode cX4_free 22 = .ok (.invokevirtual 46, 3) := by decide +kernel
theorem dX4_free_25 : decode cX4_free 25 = .ok (.lor, 1) := by decide +kernel
theorem dX4_free_26 : decode cX4_free 26 = .ok (.ldc2_w 60, 3) := by decide +kernel
theorem dX4_free_29 : decode cX4_free 29 = .ok (.lxor, 1) := by decide +kernel
theorem dX4_free_30 : decode cX4_free 30 = .ok (.land, 1) := by decide +kernel
theorem dX4_free_31 : decode cX4_free 31 = .ok (.lreturn, 1) := by decide +kernel
set_option maxRecDepth 20000 in
theorem ggX4_colourAt_X4_stonesOf : GoodIn wsX4_colourAt wsX4_stonesOf := goodIn_r _ [5, 6, 7, 8, 9, 4, 10, 11, 12, 17, 18, 19, 20, 21, 22, 23, 24, 25] (by decide +kernel) (by decide +kernel)
set_option maxRecDepth 20000 in
theorem gX4_colourAt_X4_stonesOf : GoodIn wsX4_colourAt (wsV RX4 62 RX4 yX4_stonesOf wsX4_stonesOf) := goodIn_app (goodIn_of _ (by decide +kernel)) ggX4_colourAt_X4_stonesOf
set_option maxRecDepth 20000 in
theorem ggX4_colourAt_X2_holds : GoodIn wsX4_colourAt wsX2_holds := goodIn_r _ [16] (by decide +kernel) (by decide +kernel)
set_option maxRecDepth 20000 in
theorem gX4_colourAt_X2_holds : GoodIn wsX4_colourAt (va_wsS RX4 66 yX2_holds wsX2_holds) := goodIn_app (goodIn_of _ (by decide +kernel)) ggX4_colourAt_X2_holds
theorem dX4_colourAt_0 : decode cX4_colourAt 0 = .ok (.aload_n 0, 1) := by decide +kernel
theorem dX4_colourAt_1 : decode cX4_colourAt 1 = .ok (.iconst 1, 1) := by decide +kernel
theorem dX4_colourAt_2 : decode cX4_colourAt 2 = .ok (.invokevirtual 62, 3) := by decide +kernel
theorem dX4_colourAt_5 : decode cX4_colourAt 5 = .ok (.iload_n 1, 1) := by decide +kernel
theorem dX4_colourAt_6 : decode cX4_colourAt 6 = .ok (.invokestatic 66, 3) := by decide +kernel
theorem dX4_colourAt_9 : decode cX4_colourAt 9 = .ok (.ifCond .eq 5, 3) := by decide +kernel
theorem dX4_colourAt_12 : decode cX4_colourAt 12 = .ok (.iconst 1, 1) := by decide +kernel
theorem dX4_colourAt_13 : decode cX4_colourAt 13 = .ok (.ireturn, 1) := by decide +kernel
theorem dX4_colourAt_14 : decode cX4_colourAt 14 = .ok (.aload_n 0, 1) := by decide +kernel
theorem dX4_colourAt_15 : decode cX4_colourAt 15 = .ok (.iconst 2, 1) := by decide +kernel
theorem dX4_colourAt_16 : decode cX4_colourAt 16 = .ok (.invokevirtual 62, 3) := by decide +kernel
theorem dX4_colourAt_19 : decode cX4_colourAt 19 = .ok (.iload_n 1, 1) := by decide +kernel
theorem dX4_colourAt_20 : decode cX4_colourAt 20 = .ok (.invokestatic 66, 3) := by decide +kernel
theorem dX4_colourAt_23 : decode cX4_colourAt 23 = .ok (.ifCond .eq 7, 3) := by decide +kernel
theorem dX4_colourAt_26 : decode cX4_colourAt 26 = .ok (.iconst 2, 1) := by decide +kernel
theorem dX4_colourAt_27 : decode cX4_colourAt 27 = .ok (.goto 4, 3) := by decide +kernel
theorem dX4_colourAt_30 : decode cX4_colourAt 30 = .ok (.iconst 0, 1) := by decide +kernel
theorem dX4_colourAt_31 : decode cX4_colourAt 31 = .ok (.ireturn, 1) := by decide +kernel
theorem dX4_actAt_0 : decode cX4_actAt 0 = .ok (.iload_n 1, 1) := by decide +kernel
theorem dX4_actAt_1 : decode cX4_actAt 1 = .ok (.ifCond .lt 29, 3) := by decide +kernel
theorem dX4_actAt_4 : decode cX4_actAt 4 = .ok (.iload_n 1, 1) := by decide +kernel
theorem dX4_actAt_5 : decode cX4_actAt 5 = .ok (.aload_n 0, 1) := by decide +kernel
theorem dX4_actAt_6 : decode cX4_actAt 6 = .ok (.getfield 36, 3) := by decide +kernel
theorem dX4_actAt_9 : decode cX4_actAt 9 = .ok (.if_icmp .ge 21, 3) := by decide +kernel
theorem dX4_actAt_12 : decode cX4_actAt 12 = .ok (.iload_n 1, 1) := by decide +kernel
theorem dX4_actAt_13 : decode cX4_actAt 13 = .ok (.aload_n 0, 1) := by decide +kernel
theorem dX4_actAt_14 : decode cX4_actAt 14 = .ok (.getfield 28, 3) := by decide +kernel
theorem dX4_actAt_17 : decode cX4_actAt 17 = .ok (.arraylength, 1) := by decide +kernel
theorem dX4_actAt_18 : decode cX4_actAt 18 = .ok (.if_icmp .ge 12, 3) := by decide +kernel
theorem dX4_actAt_21 : decode cX4_actAt 21 = .ok (.aload_n 0, 1) := by decide +kernel
theorem dX4_actAt_22 : decode cX4_actAt 22 = .ok (.getfield 28, 3) := by decide +kernel
theorem dX4_actAt_25 : decode cX4_actAt 25 = .ok (.iload_n 1, 1) := by decide +kernel
theorem dX4_actAt_26 : decode cX4_actAt 26 = .ok (.iaload, 1) := by decide +kernel
theorem dX4_actAt_27 : decode cX4_actAt 27 = .ok (.goto 4, 3) := by decide +kernel
theorem dX4_actAt_30 : decode cX4_actAt 30 = .ok (.iconst (-1), 1) := by decide +kernel
theorem dX4_actAt_31 : decode cX4_actAt 31 = .ok (.ireturn, 1) := by decide +kernel
set_option maxRecDepth 20000 in
theorem ggX4_reasonAgainst_X4_free : GoodIn wsX4_reasonAgainst wsX4_free := goodIn_r _ [10, 1, 2, 11, 3, 12, 13, 14, 9, 15, 16, 17, 56, 57, 58, 59, 60, 61, 62, 63, 64, 65, 66, 67, 68, 69, 70] (by decide +kernel) (by decide +kernel)
set_option maxRecDepth 20000 in
theorem gX4_reasonAgainst_X4_free : GoodIn wsX4_reasonAgainst (wsV RX4 70 RX4 yX4_free wsX4_free) := goodIn_app (goodIn_of _ (by decide +kernel)) ggX4_reasonAgainst_X4_free
set_option maxRecDepth 20000 in
theorem ggX4_reasonAgainst_X2_holds : GoodIn wsX4_reasonAgainst wsX2_holds := goodIn_r _ [21] (by decide +kernel) (by decide +kernel)
set_option maxRecDepth 20000 in
theorem gX4_reasonAgainst_X2_holds : GoodIn wsX4_reasonAgainst (va_wsS RX4 66 yX2_holds wsX2_holds) := goodIn_app (goodIn_of _ (by decide +kernel)) ggX4_reasonAgainst_X2_holds
set_option maxRecDepth 20000 in
theorem ggX4_reasonAgainst_X4_mover : GoodIn wsX4_reasonAgainst wsX4_mover := goodIn_r _ [25, 11, 26, 27, 28, 9, 29, 30, 56, 57, 58, 59, 60, 61, 62, 63, 64] (by decide +kernel) (by decide +kernel)
set_option maxRecDepth 20000 in
theorem gX4_reasonAgainst_X4_mover : GoodIn wsX4_reasonAgainst (wsV RX4 74 RX4 yX4_mover wsX4_mover) := goodIn_app (goodIn_of _ (by decide +kernel)) ggX4_reasonAgainst_X4_mover
set_option maxRecDepth 20000 in
theorem ggX4_reasonAgainst_X4_stonesOf : GoodIn wsX4_reasonAgainst wsX4_stonesOf := goodIn_r _ [34, 11, 12, 13, 14, 9, 15, 16, 17, 56, 57, 58, 59, 60, 61, 62, 63, 64] (by decide +kernel) (by decide +kernel)
set_option maxRecDepth 20000 in
theorem gX4_reasonAgainst_X4_stonesOf : GoodIn wsX4_reasonAgainst (wsV RX4 62 RX4 yX4_stonesOf wsX4_stonesOf) := goodIn_app (goodIn_of _ (by decide +kernel)) ggX4_reasonAgainst_X4_stonesOf
set_option maxRecDepth 20000 in
theorem ggX4_reasonAgainst_X6_other : GoodIn wsX4_reasonAgainst wsX6_other := goodIn_r _ [37] (by decide +kernel) (by decide +kernel)
set_option maxRecDepth 20000 in
theorem gX4_reasonAgainst_X6_other_n78 : GoodIn wsX4_reasonAgainst (wsX6_other) := ggX4_reasonAgainst_X6_other
set_option maxRecDepth 20000 in
theorem ggX4_reasonAgainst_X2_beside : GoodIn wsX4_reasonAgainst wsX2_beside := goodIn_r _ [41, 42, 43, 44, 45, 65, 66, 67, 68, 69, 70] (by decide +kernel) (by decide +kernel)
set_option maxRecDepth 20000 in
theorem gX4_reasonAgainst_X2_beside : GoodIn wsX4_reasonAgainst (wsV RX4 81 RX2 yX2_beside wsX2_beside) := goodIn_app (goodIn_of _ (by decide +kernel)) ggX4_reasonAgainst_X2_beside
set_option maxRecDepth 20000 in
theorem ggX4_reasonAgainst_X2_spread : GoodIn wsX4_reasonAgainst wsX2_spread := goodIn_r _ [49, 50, 39, 40, 20, 41, 42, 43, 44, 45, 65, 66, 67, 68, 69, 70] (by decide +kernel) (by decide +kernel)
set_option maxRecDepth 20000 in
theorem gX4_reasonAgainst_X2_spread : GoodIn wsX4_reasonAgainst (wsV RX4 85 RX2 yX2_spread wsX2_spread) := goodIn_app (goodIn_of _ (by decide +kernel)) ggX4_reasonAgainst_X2_spread
set_option maxRecDepth 20000 in
theorem ggX4_reasonAgainst_X4_isRefusedByLaw : GoodIn wsX4_reasonAgainst wsX4_isRefusedByLaw := goodIn_r _ [54, 55, 11, 4, 5, 26, 27, 28, 9, 29, 30, 12, 13, 14, 15, 16, 17, 56, 57, 58, 59, 60, 61, 62, 63, 64] (by decide +kernel) (by decide +kernel)
set_option maxRecDepth 20000 in
theorem gX4_reasonAgainst_X4_isRefusedByLaw : GoodIn wsX4_reasonAgainst (wsV RX4 95 RX4 yX4_isRefusedByLaw wsX4_isRefusedByLaw) := goodIn_app (goodIn_of _ (by decide +kernel)) ggX4_reasonAgainst_X4_isRefusedByLaw
theorem dX4_reasonAgainst_0 : decode cX4_reasonAgainst 0 = .ok (.aload_n 0, 1) := by decide +kernel
theorem dX4_reasonAgainst_1 : decode cX4_reasonAgainst 1 = .ok (.invokevirtual 70, 3) := by decide +kernel
theorem dX4_reasonAgainst_4 : decode cX4_reasonAgainst 4 = .ok (.iload_n 1, 1) := by decide +kernel
theorem dX4_reasonAgainst_5 : decode cX4_reasonAgainst 5 = .ok (.invokestatic 66, 3) := by decide +kernel
theorem dX4_reasonAgainst_8 : decode cX4_reasonAgainst 8 = .ok (.ifCond .ne 5, 3) := by decide +kernel
theorem dX4_reasonAgainst_11 : decode cX4_reasonAgainst 11 = .ok (.iconst 1, 1) := by decide +kernel
theorem dX4_reasonAgainst_12 : decode cX4_reasonAgainst 12 = .ok (.ireturn, 1) := by decide +kernel
theorem dX4_reasonAgainst_13 : decode cX4_reasonAgainst 13 = .ok (.lconst 1, 1) := by decide +kernel
theorem dX4_reasonAgainst_14 : decode cX4_reasonAgainst 14 = .ok (.iload_n 1, 1) := by decide +kernel
theorem dX4_reasonAgainst_15 : decode cX4_reasonAgainst 15 = .ok (.lshl, 1) := by decide +kernel
theorem dX4_reasonAgainst_16 : decode cX4_reasonAgainst 16 = .ok (.lstore_n 2, 1) := by decide +kernel
theorem dX4_reasonAgainst_17 : decode cX4_reasonAgainst 17 = .ok (.aload_n 0, 1) := by decide +kernel
theorem dX4_reasonAgainst_18 : decode cX4_reasonAgainst 18 = .ok (.invokevirtual 74, 3) := by decide +kernel
theorem dX4_reasonAgainst_21 : decode cX4_reasonAgainst 21 = .ok (.istore 4, 2) := by decide +kernel
theorem dX4_reasonAgainst_23 : decode cX4_reasonAgainst 23 = .ok (.aload_n 0, 1) := by decide +kernel
theorem dX4_reasonAgainst_24 : decode cX4_reasonAgainst 24 = .ok (.iload 4, 2) := by decide +kernel
theorem dX4_reasonAgainst_26 : decode cX4_reasonAgainst 26 = .ok (.invokevirtual 62, 3) := by decide +kernel
theorem dX4_reasonAgainst_29 : decode cX4_reasonAgainst 29 = .ok (.lload_n 2, 1) := by decide +kernel
theorem dX4_reasonAgainst_30 : decode cX4_reasonAgainst 30 = .ok (.lor, 1) := by decide +kernel
theorem dX4_reasonAgainst_31 : decode cX4_reasonAgainst 31 = .ok (.lstore 5, 2) := by decide +kernel
theorem dX4_reasonAgainst_33 : decode cX4_reasonAgainst 33 = .ok (.aload_n 0, 1) := by decide +kernel
theorem dX4_reasonAgainst_34 : decode cX4_reasonAgainst 34 = .ok (.iload 4, 2) := by decide +kernel
theorem dX4_reasonAgainst_36 : decode cX4_reasonAgainst 36 = .ok (.invokestatic 78, 3) := by decide +kernel
theorem dX4_reasonAgainst_39 : decode cX4_reasonAgainst 39 = .ok (.invokevirtual 62, 3) := by decide +kernel
theorem dX4_reasonAgainst_42 : decode cX4_reasonAgainst 42 = .ok (.lstore 7, 2) := by decide +kernel
theorem dX4_reasonAgainst_44 : decode cX4_reasonAgainst 44 = .ok (.aload_n 0, 1) := by decide +kernel
theorem dX4_reasonAgainst_45 : decode cX4_reasonAgainst 45 = .ok (.getfield 9, 3) := by decide +kernel
theorem dX4_reasonAgainst_48 : decode cX4_reasonAgainst 48 = .ok (.aload_n 0, 1) := by decide +kernel
theorem dX4_reasonAgainst_49 : decode cX4_reasonAgainst 49 = .ok (.getfield 9, 3) := by decide +kernel
theorem dX4_reasonAgainst_52 : decode cX4_reasonAgainst 52 = .ok (.aload_n 0, 1) := by decide +kernel
theorem dX4_reasonAgainst_53 : decode cX4_reasonAgainst 53 = .ok (.getfield 9, 3) := by decide +kernel
theorem dX4_reasonAgainst_56 : decode cX4_reasonAgainst 56 = .ok (.getfield 54, 3) := by decide +kernel
theorem dX4_reasonAgainst_59 : decode cX4_reasonAgainst 59 = .ok (.lload 5, 2) := by decide +kernel
theorem dX4_reasonAgainst_61 : decode cX4_reasonAgainst 61 = .ok (.lload 7, 2) := by decide +kernel
theorem dX4_reasonAgainst_63 : decode cX4_reasonAgainst 63 = .ok (.lor, 1) := by decide +kernel
theorem dX4_reasonAgainst_64 : decode cX4_reasonAgainst 64 = .ok (.ldc2_w 60, 3) := by decide +kernel
theorem dX4_reasonAgainst_67 : decode cX4_reasonAgainst 67 = .ok (.lxor, 1) := by decide +kernel
theorem dX4_reasonAgainst_68 : decode cX4_reasonAgainst 68 = .ok (.land, 1) := by decide +kernel
theorem dX4_reasonAgainst_69 : decode cX4_reasonAgainst 69 = .ok (.invokevirtual 81, 3) := by decide +kernel
theorem dX4_reasonAgainst_72 : decode cX4_reasonAgainst 72 = .ok (.lload 7, 2) := by decide +kernel
theorem dX4_reasonAgainst_74 : decode cX4_reasonAgainst 74 = .ok (.invokevirtual 85, 3) := by decide +kernel
theorem dX4_reasonAgainst_77 : decode cX4_reasonAgainst 77 = .ok (.lstore 7, 2) := by decide +kernel
theorem dX4_reasonAgainst_79 : decode cX4_reasonAgainst 79 = .ok (.aload_n 0, 1) := by decide +kernel
theorem dX4_reasonAgainst_80 : decode cX4_reasonAgainst 80 = .ok (.getfield 9, 3) := by decide +kernel
theorem dX4_reasonAgainst_83 : decode cX4_reasonAgainst 83 = .ok (.getfield 54, 3) := by decide +kernel
theorem dX4_reasonAgainst_86 : decode cX4_reasonAgainst 86 = .ok (.lload 5, 2) := by decide +kernel
theorem dX4_reasonAgainst_88 : decode cX4_reasonAgainst 88 = .ok (.lload 7, 2) := by decide +kernel
theorem dX4_reasonAgainst_90 : decode cX4_reasonAgainst 90 = .ok (.lor, 1) := by decide +kernel
theorem dX4_reasonAgainst_91 : decode cX4_reasonAgainst 91 = .ok (.ldc2_w 60, 3) := by decide +kernel
theorem dX4_reasonAgainst_94 : decode cX4_reasonAgainst 94 = .ok (.lxor, 1) := by decide +kernel
theorem dX4_reasonAgainst_95 : decode cX4_reasonAgainst 95 = .ok (.land, 1) := by decide +kernel
theorem dX4_reasonAgainst_96 : decode cX4_reasonAgainst 96 = .ok (.lstore 9, 2) := by decide +kernel
theorem dX4_reasonAgainst_98 : decode cX4_reasonAgainst 98 = .ok (.aload_n 0, 1) := by decide +kernel
theorem dX4_reasonAgainst_99 : decode cX4_reasonAgainst 99 = .ok (.getfield 9, 3) := by decide +kernel
theorem dX4_reasonAgainst_102 : decode cX4_reasonAgainst 102 = .ok (.aload_n 0, 1) := by decide +kernel
theorem dX4_reasonAgainst_103 : decode cX4_reasonAgainst 103 = .ok (.getfield 9, 3) := by decide +kernel
theorem dX4_reasonAgainst_106 : decode cX4_reasonAgainst 106 = .ok (.lload_n 2, 1) := by decide +kernel
theorem dX4_reasonAgainst_107 : decode cX4_reasonAgainst 107 = .ok (.lload 5, 2) := by decide +kernel
theorem dX4_reasonAgainst_109 : decode cX4_reasonAgainst 109 = .ok (.invokevirtual 85, 3) := by decide +kernel
theorem dX4_reasonAgainst_112 : decode cX4_reasonAgainst 112 = .ok (.invokevirtual 81, 3) := by decide +kernel
theorem dX4_reasonAgainst_115 : decode cX4_reasonAgainst 115 = .ok (.lload 9, 2) := by decide +kernel
theorem dX4_reasonAgainst_117 : decode cX4_reasonAgainst 117 = .ok (.land, 1) := by decide +kernel
theorem dX4_reasonAgainst_118 : decode cX4_reasonAgainst 118 = .ok (.lconst 0, 1) := by decide +kernel
theorem dX4_reasonAgainst_119 : decode cX4_reasonAgainst 119 = .ok (.lcmp, 1) := by decide +kernel
theorem dX4_reasonAgainst_120 : decode cX4_reasonAgainst 120 = .ok (.ifCond .ne 5, 3) := by decide +kernel
theorem dX4_reasonAgainst_123 : decode cX4_reasonAgainst 123 = .ok (.iconst 2, 1) := by decide +kernel
theorem dX4_reasonAgainst_124 : decode cX4_reasonAgainst 124 = .ok (.ireturn, 1) := by decide +kernel
theorem dX4_reasonAgainst_125 : decode cX4_reasonAgainst 125 = .ok (.aload_n 0, 1) := by decide +kernel
theorem dX4_reasonAgainst_126 : decode cX4_reasonAgainst 126 = .ok (.iload 4, 2) := by decide +kernel
theorem dX4_reasonAgainst_128 : decode cX4_reasonAgainst 128 = .ok (.iconst 1, 1) := by decide +kernel
theorem dX4_reasonAgainst_129 : decode cX4_reasonAgainst 129 = .ok (.if_icmp .ne 8, 3) := by decide +kernel
theorem dX4_reasonAgainst_132 : decode cX4_reasonAgainst 132 = .ok (.lload 5, 2) := by decide +kernel
theorem dX4_reasonAgainst_134 : decode cX4_reasonAgainst 134 = .ok (.goto 5, 3) := by decide +kernel
theorem dX4_reasonAgainst_137 : decode cX4_reasonAgainst 137 = .ok (.lload 7, 2) := by decide +kernel
theorem dX4_reasonAgainst_139 : decode cX4_reasonAgainst 139 = .ok (.putfield 89, 3) := by decide +kernel
theorem dX4_reasonAgainst_142 : decode cX4_reasonAgainst 142 = .ok (.aload_n 0, 1) := by decide +kernel
theorem dX4_reasonAgainst_143 : decode cX4_reasonAgainst 143 = .ok (.iload 4, 2) := by decide +kernel
theorem dX4_reasonAgainst_145 : decode cX4_reasonAgainst 145 = .ok (.iconst 1, 1) := by decide +kernel
theorem dX4_reasonAgainst_146 : decode cX4_reasonAgainst 146 = .ok (.if_icmp .ne 8, 3) := by decide +kernel
theorem dX4_reasonAgainst_149 : decode cX4_reasonAgainst 149 = .ok (.lload 7, 2) := by decide +kernel
theorem dX4_reasonAgainst_151 : decode cX4_reasonAgainst 151 = .ok (.goto 5, 3) := by decide +kernel
theorem dX4_reasonAgainst_154 : decode cX4_reasonAgainst 154 = .ok (.lload 5, 2) := by decide +kernel
theorem dX4_reasonAgainst_156 : decode cX4_reasonAgainst 156 = .ok (.putfield 92, 3) := by decide +kernel
theorem dX4_reasonAgainst_159 : decode cX4_reasonAgainst 159 = .ok (.aload_n 0, 1) := by decide +kernel
theorem dX4_reasonAgainst_160 : decode cX4_reasonAgainst 160 = .ok (.invokevirtual 95, 3) := by decide +kernel
theorem dX4_reasonAgainst_163 : decode cX4_reasonAgainst 163 = .ok (.ifCond .eq 7, 3) := by decide +kernel
theorem dX4_reasonAgainst_166 : decode cX4_reasonAgainst 166 = .ok (.iconst 3, 1) := by decide +kernel
theorem dX4_reasonAgainst_167 : decode cX4_reasonAgainst 167 = .ok (.goto 4, 3) := by decide +kernel
theorem dX4_reasonAgainst_170 : decode cX4_reasonAgainst 170 = .ok (.iconst 0, 1) := by decide +kernel
theorem dX4_reasonAgainst_171 : decode cX4_reasonAgainst 171 = .ok (.ireturn, 1) := by decide +kernel
set_option maxRecDepth 20000 in
theorem ggX4_isRefusedByLaw_X4_moverThen : GoodIn wsX4_isRefusedByLaw wsX4_moverThen := goodIn_r _ [9, 10, 17, 18, 19, 20, 21, 22, 23, 24, 25] (by decide +kernel) (by decide +kernel)
set_option maxRecDepth 20000 in
theorem gX4_isRefusedByLaw_X4_moverThen : GoodIn wsX4_isRefusedByLaw (wsV RX4 50 RX4 yX4_moverThen wsX4_moverThen) := goodIn_app (goodIn_of _ (by decide +kernel)) ggX4_isRefusedByLaw_X4_moverThen
set_option maxRecDepth 20000 in
theorem ggX4_isRefusedByLaw_X4_stonesThen : GoodIn wsX4_isRefusedByLaw wsX4_stonesThen := goodIn_r _ [14, 15, 16, 17, 18, 19, 20, 21, 22, 23, 24, 25] (by decide +kernel) (by decide +kernel)
set_option maxRecDepth 20000 in
theorem gX4_isRefusedByLaw_X4_stonesThen : GoodIn wsX4_isRefusedByLaw (wsV RX4 46 RX4 yX4_stonesThen wsX4_stonesThen) := goodIn_app (goodIn_of _ (by decide +kernel)) ggX4_isRefusedByLaw_X4_stonesThen
theorem dX4_isRefusedByLaw_0 : decode cX4_isRefusedByLaw 0 = .ok (.aload_n 0, 1) := by decide +kernel
theorem dX4_isRefusedByLaw_1 : decode cX4_isRefusedByLaw 1 = .ok (.getfield 32, 3) := by decide +kernel
theorem dX4_isRefusedByLaw_4 : decode cX4_isRefusedByLaw 4 = .ok (.ifCond .ne 12, 3) := by decide +kernel
theorem dX4_isRefusedByLaw_7 : decode cX4_isRefusedByLaw 7 = .ok (.aload_n 0, 1) := by decide +kernel
theorem dX4_isRefusedByLaw_8 : decode cX4_isRefusedByLaw 8 = .ok (.getfield 36, 3) := by decide +kernel
theorem dX4_isRefusedByLaw_11 : decode cX4_isRefusedByLaw 11 = .ok (.iconst 1, 1) := by decide +kernel
theorem dX4_isRefusedByLaw_12 : decode cX4_isRefusedByLaw 12 = .ok (.isub, 1) := by decide +kernel
theorem dX4_isRefusedByLaw_13 : decode cX4_isRefusedByLaw 13 = .ok (.goto 4, 3) := by decide +kernel
theorem dX4_isRefusedByLaw_16 : decode cX4_isRefusedByLaw 16 = .ok (.iconst 0, 1) := by decide +kernel
theorem dX4_isRefusedByLaw_17 : decode cX4_isRefusedByLaw 17 = .ok (.istore_n 1, 1) := by decide +kernel
theorem dX4_isRefusedByLaw_18 : decode cX4_isRefusedByLaw 18 = .ok (.aload_n 0, 1) := by decide +kernel
theorem dX4_isRefusedByLaw_19 : decode cX4_isRefusedByLaw 19 = .ok (.getfield 36, 3) := by decide +kernel
theorem dX4_isRefusedByLaw_22 : decode cX4_isRefusedByLaw 22 = .ok (.iconst 1, 1) := by decide +kernel
theorem dX4_isRefusedByLaw_23 : decode cX4_isRefusedByLaw 23 = .ok (.isub, 1) := by decide +kernel
theorem dX4_isRefusedByLaw_24 : decode cX4_isRefusedByLaw 24 = .ok (.istore_n 2, 1) := by decide +kernel
theorem dX4_isRefusedByLaw_25 : decode cX4_isRefusedByLaw 25 = .ok (.iload_n 2, 1) := by decide +kernel
theorem dX4_isRefusedByLaw_26 : decode cX4_isRefusedByLaw 26 = .ok (.iload_n 1, 1) := by decide +kernel
theorem dX4_isRefusedByLaw_27 : decode cX4_isRefusedByLaw 27 = .ok (.if_icmp .lt 79, 3) := by decide +kernel
theorem dX4_isRefusedByLaw_30 : decode cX4_isRefusedByLaw 30 = .ok (.iload_n 2, 1) := by decide +kernel
theorem dX4_isRefusedByLaw_31 : decode cX4_isRefusedByLaw 31 = .ok (.ifCond .lt 75, 3) := by decide +kernel
theorem dX4_isRefusedByLaw_34 : decode cX4_isRefusedByLaw 34 = .ok (.aload_n 0, 1) := by decide +kernel
theorem dX4_isRefusedByLaw_35 : decode cX4_isRefusedByLaw 35 = .ok (.getfield 32, 3) := by decide +kernel
theorem dX4_isRefusedByLaw_38 : decode cX4_isRefusedByLaw 38 = .ok (.iconst 2, 1) := by decide +kernel
theorem dX4_isRefusedByLaw_39 : decode cX4_isRefusedByLaw 39 = .ok (.if_icmp .ne 21, 3) := by decide +kernel
theorem dX4_isRefusedByLaw_42 : decode cX4_isRefusedByLaw 42 = .ok (.aload_n 0, 1) := by decide +kernel
theorem dX4_isRefusedByLaw_43 : decode cX4_isRefusedByLaw 43 = .ok (.iload_n 2, 1) := by decide +kernel
theorem dX4_isRefusedByLaw_44 : decode cX4_isRefusedByLaw 44 = .ok (.invokevirtual 50, 3) := by decide +kernel
theorem dX4_isRefusedByLaw_47 : decode cX4_isRefusedByLaw 47 = .ok (.aload_n 0, 1) := by decide +kernel
theorem dX4_isRefusedByLaw_48 : decode cX4_isRefusedByLaw 48 = .ok (.aload_n 0, 1) := by decide +kernel
theorem dX4_isRefusedByLaw_49 : decode cX4_isRefusedByLaw 49 = .ok (.getfield 36, 3) := by decide +kernel
theorem dX4_isRefusedByLaw_52 : decode cX4_isRefusedByLaw 52 = .ok (.iconst 1, 1) := by decide +kernel
theorem dX4_isRefusedByLaw_53 : decode cX4_isRefusedByLaw 53 = .ok (.iadd, 1) := by decide +kernel
theorem dX4_isRefusedByLaw_54 : decode cX4_isRefusedByLaw 54 = .ok (.invokevirtual 50, 3) := by decide +kernel
theorem dX4_isRefusedByLaw_57 : decode cX4_isRefusedByLaw 57 = .ok (.if_icmp .ne 7, 3) := by decide +kernel
theorem dX4_isRefusedByLaw_60 : decode cX4_isRefusedByLaw 60 = .ok (.iconst 1, 1) := by decide +kernel
theorem dX4_isRefusedByLaw_61 : decode cX4_isRefusedByLaw 61 = .ok (.goto 4, 3) := by decide +kernel
theorem dX4_isRefusedByLaw_64 : decode cX4_isRefusedByLaw 64 = .ok (.iconst 0, 1) := by decide +kernel
theorem dX4_isRefusedByLaw_65 : decode cX4_isRefusedByLaw 65 = .ok (.istore_n 3, 1) := by decide +kernel
theorem dX4_isRefusedByLaw_66 : decode cX4_isRefusedByLaw 66 = .ok (.iload_n 3, 1) := by decide +kernel
theorem dX4_isRefusedByLaw_67 : decode cX4_isRefusedByLaw 67 = .ok (.ifCond .eq 33, 3) := by decide +kernel
theorem dX4_isRefusedByLaw_70 : decode cX4_isRefusedByLaw 70 = .ok (.aload_n 0, 1) := by decide +kernel
theorem dX4_isRefusedByLaw_71 : decode cX4_isRefusedByLaw 71 = .ok (.iload_n 2, 1) := by decide +kernel
theorem dX4_isRefusedByLaw_72 : decode cX4_isRefusedByLaw 72 = .ok (.iconst 1, 1) := by decide +kernel
theorem dX4_isRefusedByLaw_73 : decode cX4_isRefusedByLaw 73 = .ok (.invokevirtual 46, 3) := by decide +kernel
theorem dX4_isRefusedByLaw_76 : decode cX4_isRefusedByLaw 76 = .ok (.aload_n 0, 1) := by decide +kernel
theorem dX4_isRefusedByLaw_77 : decode cX4_isRefusedByLaw 77 = .ok (.getfield 89, 3) := by decide +kernel
theorem dX4_isRefusedByLaw_80 : decode cX4_isRefusedByLaw 80 = .ok (.lcmp, 1) := by decide +kernel
theorem dX4_isRefusedByLaw_81 : decode cX4_isRefusedByLaw 81 = .ok (.ifCond .ne 19, 3) := by decide +kernel
theorem dX4_isRefusedByLaw_84 : decode cX4_isRefusedByLaw 84 = .ok (.aload_n 0, 1) := by decide +kernel
theorem dX4_isRefusedByLaw_85 : decode cX4_isRefusedByLaw 85 = .ok (.iload_n 2, 1) := by decide +kernel
theorem dX4_isRefusedByLaw_86 : decode cX4_isRefusedByLaw 86 = .ok (.iconst 2, 1) := by decide +kernel
theorem dX4_isRefusedByLaw_87 : decode cX4_isRefusedByLaw 87 = .ok (.invokevirtual 46, 3) := by decide +kernel
theorem dX4_isRefusedByLaw_90 : decode cX4_isRefusedByLaw 90 = .ok (.aload_n 0, 1) := by decide +kernel
theorem dX4_isRefusedByLaw_91 : decode cX4_isRefusedByLaw 91 = .ok (.getfield 92, 3) := by decide +kernel
theorem dX4_isRefusedByLaw_94 : decode cX4_isRefusedByLaw 94 = .ok (.lcmp, 1) := by decide +kernel
theorem dX4_isRefusedByLaw_95 : decode cX4_isRefusedByLaw 95 = .ok (.ifCond .ne 5, 3) := by decide +kernel
theorem dX4_isRefusedByLaw_98 : decode cX4_isRefusedByLaw 98 = .ok (.iconst 1, 1) := by decide +kernel
theorem dX4_isRefusedByLaw_99 : decode cX4_isRefusedByLaw 99 = .ok (.ireturn, 1) := by decide +kernel
theorem dX4_isRefusedByLaw_100 : decode cX4_isRefusedByLaw 100 = .ok (.iinc 2 (-1), 3) := by decide +kernel
theorem dX4_isRefusedByLaw_103 : decode cX4_isRefusedByLaw 103 = .ok (.goto (-78), 3) := by decide +kernel
theorem dX4_isRefusedByLaw_106 : decode cX4_isRefusedByLaw 106 = .ok (.iconst 0, 1) := by decide +kernel
theorem dX4_isRefusedByLaw_107 : decode cX4_isRefusedByLaw 107 = .ok (.ireturn, 1) := by decide +kernel
set_option maxRecDepth 20000 in
theorem ggX4_add_X4_stonesOf : GoodIn wsX4_add wsX4_stonesOf := goodIn_r _ [12, 1, 13, 14, 15, 11, 16, 2, 17, 71, 72, 73, 74, 75, 76, 77, 78, 79] (by decide +kernel) (by decide +kernel)
set_option maxRecDepth 20000 in
theorem gX4_add_X4_stonesOf : GoodIn wsX4_add (wsV RX4 62 RX4 yX4_stonesOf wsX4_stonesOf) := goodIn_app (goodIn_of _ (by decide +kernel)) ggX4_add_X4_stonesOf
set_option maxRecDepth 20000 in
theorem ggX4_add_X4_keep : GoodIn wsX4_add wsX4_keep := goodIn_r _ [21, 2, 17, 71, 72, 73, 74, 75, 76, 77, 78, 79] (by decide +kernel) (by decide +kernel)
set_option maxRecDepth 20000 in
theorem gX4_add_X4_keep : GoodIn wsX4_add (wsV RX4 42 RX4 yX4_keep wsX4_keep) := goodIn_app (goodIn_of _ (by decide +kernel)) ggX4_add_X4_keep
set_option maxRecDepth 20000 in
theorem ggX4_add_X2_has : GoodIn wsX4_add wsX2_has := goodIn_r _ [26, 27, 80, 81, 82, 83, 84, 85] (by decide +kernel) (by decide +kernel)
set_option maxRecDepth 20000 in
theorem gX4_add_X2_has : GoodIn wsX4_add (wsV RX4 102 RX2 yX2_has wsX2_has) := goodIn_app (goodIn_of _ (by decide +kernel)) ggX4_add_X2_has
set_option maxRecDepth 20000 in
theorem ggX4_add_X4_reasonAgainst : GoodIn wsX4_add wsX4_reasonAgainst := goodIn_r _ [31, 4, 32, 33, 6, 7, 34, 35, 36, 11, 37, 1, 13, 14, 15, 16, 2, 17, 38, 39, 25, 40, 41, 42, 43, 44, 45, 46, 47, 48, 49, 8, 9, 10, 12, 50, 51, 52, 53, 54, 55, 56, 57, 58, 59, 60, 61, 62, 63, 64, 65, 66, 67, 68, 69, 70, 71, 72, 73, 74, 75, 76, 77, 78, 79, 80, 81, 82, 83, 84, 85] (by decide +kernel) (by decide +kernel)
set_option maxRecDepth 20000 in
theorem gX4_add_X4_reasonAgainst : GoodIn wsX4_add (wsV RX4 106 RX4 yX4_reasonAgainst wsX4_reasonAgainst) := goodIn_app (goodIn_of _ (by decide +kernel)) ggX4_add_X4_reasonAgainst
theorem dX4_add_0 : decode cX4_add 0 = .ok (.aload_n 0, 1) := by decide +kernel
theorem dX4_add_1 : decode cX4_add 1 = .ok (.getfield 36, 3) := by decide +kernel
theorem dX4_add_4 : decode cX4_add 4 = .ok (.iconst 1, 1) := by decide +kernel
theorem dX4_add_5 : decode cX4_add 5 = .ok (.iadd, 1) := by decide +kernel
theorem dX4_add_6 : decode cX4_add 6 = .ok (.aload_n 0, 1) := by decide +kernel
theorem dX4_add_7 : decode cX4_add 7 = .ok (.getfield 21, 3) := by decide +kernel
theorem dX4_add_10 : decode cX4_add 10 = .ok (.arraylength, 1) := by decide +kernel
theorem dX4_add_11 : decode cX4_add 11 = .ok (.if_icmp .ge 22, 3) := by decide +kernel
theorem dX4_add_14 : decode cX4_add 14 = .ok (.aload_n 0, 1) := by decide +kernel
theorem dX4_add_15 : decode cX4_add 15 = .ok (.getfield 36, 3) := by decide +kernel
theorem dX4_add_18 : decode cX4_add 18 = .ok (.ifCond .lt 15, 3) := by decide +kernel
theorem dX4_add_21 : decode cX4_add 21 = .ok (.aload_n 0, 1) := by decide +kernel
theorem dX4_add_22 : decode cX4_add 22 = .ok (.getfield 36, 3) := by decide +kernel
theorem dX4_add_25 : decode cX4_add 25 = .ok (.aload_n 0, 1) := by decide +kernel
theorem dX4_add_26 : decode cX4_add 26 = .ok (.getfield 28, 3) := by decide +kernel
theorem dX4_add_29 : decode cX4_add 29 = .ok (.arraylength, 1) := by decide +kernel
theorem dX4_add_30 : decode cX4_add 30 = .ok (.if_icmp .lt 5, 3) := by decide +kernel
theorem dX4_add_33 : decode cX4_add 33 = .ok (.iconst 0, 1) := by decide +kernel
theorem dX4_add_34 : decode cX4_add 34 = .ok (.ireturn, 1) := by decide +kernel
theorem dX4_add_35 : decode cX4_add 35 = .ok (.iload_n 1, 1) := by decide +kernel
theorem dX4_add_36 : decode cX4_add 36 = .ok (.aload_n 0, 1) := by decide +kernel
theorem dX4_add_37 : decode cX4_add 37 = .ok (.getfield 9, 3) := by decide +kernel
theorem dX4_add_40 : decode cX4_add 40 = .ok (.getfield 99, 3) := by decide +kernel
theorem dX4_add_43 : decode cX4_add 43 = .ok (.if_icmp .ne 26, 3) := by decide +kernel
theorem dX4_add_46 : decode cX4_add 46 = .ok (.aload_n 0, 1) := by decide +kernel
theorem dX4_add_47 : decode cX4_add 47 = .ok (.aload_n 0, 1) := by decide +kernel
theorem dX4_add_48 : decode cX4_add 48 = .ok (.getfield 36, 3) := by decide +kernel
theorem dX4_add_51 : decode cX4_add 51 = .ok (.iconst 1, 1) := by decide +kernel
theorem dX4_add_52 : decode cX4_add 52 = .ok (.iadd, 1) := by decide +kernel
theorem dX4_add_53 : decode cX4_add 53 = .ok (.aload_n 0, 1) := by decide +kernel
theorem dX4_add_54 : decode cX4_add 54 = .ok (.iconst 1, 1) := by decide +kernel
theorem dX4_add_55 : decode cX4_add 55 = .ok (.invokevirtual 62, 3) := by decide +kernel
theorem dX4_add_58 : decode cX4_add 58 = .ok (.aload_n 0, 1) := by decide +kernel
theorem dX4_add_59 : decode cX4_add 59 = .ok (.iconst 2, 1) := by decide +kernel
theorem dX4_add_60 : decode cX4_add 60 = .ok (.invokevirtual 62, 3) := by decide +kernel
theorem dX4_add_63 : decode cX4_add 63 = .ok (.invokevirtual 42, 3) := by decide +kernel
theorem dX4_add_66 : decode cX4_add 66 = .ok (.goto 45, 3) := by decide +kernel
theorem dX4_add_69 : decode cX4_add 69 = .ok (.aload_n 0, 1) := by decide +kernel
theorem dX4_add_70 : decode cX4_add 70 = .ok (.getfield 9, 3) := by decide +kernel
theorem dX4_add_73 : decode cX4_add 73 = .ok (.iload_n 1, 1) := by decide +kernel
theorem dX4_add_74 : decode cX4_add 74 = .ok (.invokevirtual 102, 3) := by decide +kernel
theorem dX4_add_77 : decode cX4_add 77 = .ok (.ifCond .eq 32, 3) := by decide +kernel
theorem dX4_add_80 : decode cX4_add 80 = .ok (.aload_n 0, 1) := by decide +kernel
theorem dX4_add_81 : decode cX4_add 81 = .ok (.iload_n 1, 1) := by decide +kernel
theorem dX4_add_82 : decode cX4_add 82 = .ok (.invokevirtual 106, 3) := by decide +kernel
theorem dX4_add_85 : decode cX4_add 85 = .ok (.ifCond .ne 24, 3) := by decide +kernel
theorem dX4_add_88 : decode cX4_add 88 = .ok (.aload_n 0, 1) := by decide +kernel
theorem dX4_add_89 : decode cX4_add 89 = .ok (.aload_n 0, 1) := by decide +kernel
theorem dX4_add_90 : decode cX4_add 90 = .ok (.getfield 36, 3) := by decide +kernel
theorem dX4_add_93 : decode cX4_add 93 = .ok (.iconst 1, 1) := by decide +kernel
theorem dX4_add_94 : decode cX4_add 94 = .ok (.iadd, 1) := by decide +kernel
theorem dX4_add_95 : decode cX4_add 95 = .ok (.aload_n 0, 1) := by decide +kernel
theorem dX4_add_96 : decode cX4_add 96 = .ok (.getfield 89, 3) := by decide +kernel
theorem dX4_add_99 : decode cX4_add 99 = .ok (.aload_n 0, 1) := by decide +kernel
theorem dX4_add_100 : decode cX4_add 100 = .ok (.getfield 92, 3) := by decide +kernel
theorem dX4_add_103 : decode cX4_add 103 = .ok (.invokevirtual 42, 3) := by decide +kernel
theorem dX4_add_106 : decode cX4_add 106 = .ok (.goto 5, 3) := by decide +kernel
theorem dX4_add_109 : decode cX4_add 109 = .ok (.iconst 0, 1) := by decide +kernel
theorem dX4_add_110 : decode cX4_add 110 = .ok (.ireturn, 1) := by decide +kernel
theorem dX4_add_111 : decode cX4_add 111 = .ok (.aload_n 0, 1) := by decide +kernel
theorem dX4_add_112 : decode cX4_add 112 = .ok (.getfield 28, 3) := by decide +kernel
theorem dX4_add_115 : decode cX4_add 115 = .ok (.aload_n 0, 1) := by decide +kernel
theorem dX4_add_116 : decode cX4_add 116 = .ok (.getfield 36, 3) := by decide +kernel
theorem dX4_add_119 : decode cX4_add 119 = .ok (.iload_n 1, 1) := by decide +kernel
theorem dX4_add_120 : decode cX4_add 120 = .ok (.iastore, 1) := by decide +kernel
theorem dX4_add_121 : decode cX4_add 121 = .ok (.aload_n 0, 1) := by decide +kernel
theorem dX4_add_122 : decode cX4_add 122 = .ok (.dup, 1) := by decide +kernel
theorem dX4_add_123 : decode cX4_add 123 = .ok (.getfield 36, 3) := by decide +kernel
theorem dX4_add_126 : decode cX4_add 126 = .ok (.iconst 1, 1) := by decide +kernel
theorem dX4_add_127 : decode cX4_add 127 = .ok (.iadd, 1) := by decide +kernel
theorem dX4_add_128 : decode cX4_add 128 = .ok (.putfield 36, 3) := by decide +kernel
theorem dX4_add_131 : decode cX4_add 131 = .ok (.iconst 1, 1) := by decide +kernel
theorem dX4_add_132 : decode cX4_add 132 = .ok (.ireturn, 1) := by decide +kernel
theorem dX4_takeBack_0 : decode cX4_takeBack 0 = .ok (.aload_n 0, 1) := by decide +kernel
theorem dX4_takeBack_1 : decode cX4_takeBack 1 = .ok (.aload_n 0, 1) := by decide +kernel
theorem dX4_takeBack_2 : decode cX4_takeBack 2 = .ok (.getfield 36, 3) := by decide +kernel
theorem dX4_takeBack_5 : decode cX4_takeBack 5 = .ok (.iconst 1, 1) := by decide +kernel
theorem dX4_takeBack_6 : decode cX4_takeBack 6 = .ok (.isub, 1) := by decide +kernel
theorem dX4_takeBack_7 : decode cX4_takeBack 7 = .ok (.iconst 0, 1) := by decide +kernel
theorem dX4_takeBack_8 : decode cX4_takeBack 8 = .ok (.invokestatic 15, 3) := by decide +kernel
theorem dX4_takeBack_11 : decode cX4_takeBack 11 = .ok (.putfield 36, 3) := by decide +kernel
theorem dX4_takeBack_14 : decode cX4_takeBack 14 = .ok (.return_, 1) := by decide +kernel
set_option maxRecDepth 20000 in
theorem ggX4_passesNow_X4_actAt : GoodIn wsX4_passesNow wsX4_actAt := goodIn_r _ [8, 1, 9, 10, 11, 12, 13, 14, 15, 16, 17, 18] (by decide +kernel) (by decide +kernel)
set_option maxRecDepth 20000 in
theorem gX4_passesNow_X4_actAt : GoodIn wsX4_passesNow (wsV RX4 109 RX4 yX4_actAt wsX4_actAt) := goodIn_app (goodIn_of _ (by decide +kernel)) ggX4_passesNow_X4_actAt
theorem dX4_passesNow_0 : decode cX4_passesNow 0 = .ok (.iconst 0, 1) := by decide +kernel
theorem dX4_passesNow_1 : decode cX4_passesNow 1 = .ok (.istore_n 1, 1) := by decide +kernel
theorem dX4_passesNow_2 : decode cX4_passesNow 2 = .ok (.aload_n 0, 1) := by decide +kernel
theorem dX4_passesNow_3 : decode cX4_passesNow 3 = .ok (.getfield 36, 3) := by decide +kernel
theorem dX4_passesNow_6 : decode cX4_passesNow 6 = .ok (.iconst 1, 1) := by decide +kernel
theorem dX4_passesNow_7 : decode cX4_passesNow 7 = .ok (.isub, 1) := by decide +kernel
theorem dX4_passesNow_8 : decode cX4_passesNow 8 = .ok (.istore_n 2, 1) := by decide +kernel
theorem dX4_passesNow_9 : decode cX4_passesNow 9 = .ok (.iload_n 2, 1) := by decide +kernel
theorem dX4_passesNow_10 : decode cX4_passesNow 10 = .ok (.ifCond .lt 27, 3) := by decide +kernel
theorem dX4_passesNow_13 : decode cX4_passesNow 13 = .ok (.aload_n 0, 1) := by decide +kernel
theorem dX4_passesNow_14 : decode cX4_passesNow 14 = .ok (.iload_n 2, 1) := by decide +kernel
theorem dX4_passesNow_15 : decode cX4_passesNow 15 = .ok (.invokevirtual 109, 3) := by decide +kernel
theorem dX4_passesNow_18 : decode cX4_passesNow 18 = .ok (.aload_n 0, 1) := by decide +kernel
theorem dX4_passesNow_19 : decode cX4_passesNow 19 = .ok (.getfield 9, 3) := by decide +kernel
theorem dX4_passesNow_22 : decode cX4_passesNow 22 = .ok (.getfield 99, 3) := by decide +kernel
theorem dX4_passesNow_25 : decode cX4_passesNow 25 = .ok (.if_icmp .ne 12, 3) := by decide +kernel
theorem dX4_passesNow_28 : decode cX4_passesNow 28 = .ok (.iinc 1 1, 3) := by decide +kernel
theorem dX4_passesNow_31 : decode cX4_passesNow 31 = .ok (.iinc 2 (-1), 3) := by decide +kernel
theorem dX4_passesNow_34 : decode cX4_passesNow 34 = .ok (.goto (-25), 3) := by decide +kernel
theorem dX4_passesNow_37 : decode cX4_passesNow 37 = .ok (.iload_n 1, 1) := by decide +kernel
theorem dX4_passesNow_38 : decode cX4_passesNow 38 = .ok (.ireturn, 1) := by decide +kernel
set_option maxRecDepth 20000 in
theorem ggX4_takenBy_X4_stonesThen : GoodIn wsX4_takenBy wsX4_stonesThen := goodIn_r _ [6, 7, 8, 16, 17, 18, 19, 20, 21, 22, 23, 24] (by decide +kernel) (by decide +kernel)
set_option maxRecDepth 20000 in
theorem gX4_takenBy_X4_stonesThen : GoodIn wsX4_takenBy (wsV RX4 46 RX4 yX4_stonesThen wsX4_stonesThen) := goodIn_app (goodIn_of _ (by decide +kernel)) ggX4_takenBy_X4_stonesThen
set_option maxRecDepth 20000 in
theorem ggX4_takenBy_J13_bitCount_95d88 : GoodIn wsX4_takenBy wsJ13_bitCount_95d88 := goodIn_r _ [12, 13, 14, 15] (by decide +kernel) (by decide +kernel)
set_option maxRecDepth 20000 in
theorem gX4_takenBy_J13_bitCount_95d88 : GoodIn wsX4_takenBy (va_wsS RX4 112 yJ13_bitCount_95d88 wsJ13_bitCount_95d88) := goodIn_app (goodIn_of _ (by decide +kernel)) ggX4_takenBy_J13_bitCount_95d88
theorem dX4_takenBy_0 : decode cX4_takenBy 0 = .ok (.aload_n 0, 1) := by decide +kernel
theorem dX4_takenBy_1 : decode cX4_takenBy 1 = .ok (.iload_n 1, 1) := by decide +kernel
theorem dX4_takenBy_2 : decode cX4_takenBy 2 = .ok (.iconst 1, 1) := by decide +kernel
theorem dX4_takenBy_3 : decode cX4_takenBy 3 = .ok (.isub, 1) := by decide +kernel
theorem dX4_takenBy_4 : decode cX4_takenBy 4 = .ok (.iload_n 2, 1) := by decide +kernel
theorem dX4_takenBy_5 : decode cX4_takenBy 5 = .ok (.invokevirtual 46, 3) := by decide +kernel
theorem dX4_takenBy_8 : decode cX4_takenBy 8 = .ok (.aload_n 0, 1) := by decide +kernel
theorem dX4_takenBy_9 : decode cX4_takenBy 9 = .ok (.iload_n 1, 1) := by decide +kernel
theorem dX4_takenBy_10 : decode cX4_takenBy 10 = .ok (.iload_n 2, 1) := by decide +kernel
theorem dX4_takenBy_11 : decode cX4_takenBy 11 = .ok (.invokevirtual 46, 3) := by decide +kernel
theorem dX4_takenBy_14 : decode cX4_takenBy 14 = .ok (.ldc2_w 60, 3) := by decide +kernel
theorem dX4_takenBy_17 : decode cX4_takenBy 17 = .ok (.lxor, 1) := by decide +kernel
theorem dX4_takenBy_18 : decode cX4_takenBy 18 = .ok (.land, 1) := by decide +kernel
theorem dX4_takenBy_19 : decode cX4_takenBy 19 = .ok (.invokestatic 112, 3) := by decide +kernel
theorem dX4_takenBy_22 : decode cX4_takenBy 22 = .ok (.ireturn, 1) := by decide +kernel
set_option maxRecDepth 20000 in
theorem ggX4_taken_X4_takenBy : GoodIn wsX4_taken wsX4_takenBy := goodIn_r _ [6, 7, 8, 9, 10, 5, 11, 12, 13, 14, 15, 16, 17, 18, 19, 20, 21, 22, 23, 24, 25, 26, 27, 28, 29] (by decide +kernel) (by decide +kernel)
set_option maxRecDepth 20000 in
theorem gX4_taken_X4_takenBy : GoodIn wsX4_taken (wsV RX4 118 RX4 yX4_takenBy wsX4_takenBy) := goodIn_app (goodIn_of _ (by decide +kernel)) ggX4_taken_X4_takenBy
theorem dX4_taken_0 : decode cX4_taken 0 = .ok (.iconst 0, 1) := by decide +kernel
theorem dX4_taken_1 : decode cX4_taken 1 = .ok (.istore_n 2, 1) := by decide +kernel
theorem dX4_taken_2 : decode cX4_taken 2 = .ok (.iconst 1, 1) := by decide +kernel
theorem dX4_taken_3 : decode cX4_taken 3 = .ok (.istore_n 3, 1) := by decide +kernel
theorem dX4_taken_4 : decode cX4_taken 4 = .ok (.iload_n 3, 1) := by decide +kernel
theorem dX4_taken_5 : decode cX4_taken 5 = .ok (.aload_n 0, 1) := by decide +kernel
theorem dX4_taken_6 : decode cX4_taken 6 = .ok (.getfield 36, 3) := by decide +kernel
theorem dX4_taken_9 : decode cX4_taken 9 = .ok (.if_icmp .gt 18, 3) := by decide +kernel
theorem dX4_taken_12 : decode cX4_taken 12 = .ok (.iload_n 2, 1) := by decide +kernel
theorem dX4_taken_13 : decode cX4_taken 13 = .ok (.aload_n 0, 1) := by decide +kernel
theorem dX4_taken_14 : decode cX4_taken 14 = .ok (.iload_n 3, 1) := by decide +kernel
theorem dX4_taken_15 : decode cX4_taken 15 = .ok (.iload_n 1, 1) := by decide +kernel
theorem dX4_taken_16 : decode cX4_taken 16 = .ok (.invokevirtual 118, 3) := by decide +kernel
theorem dX4_taken_19 : decode cX4_taken 19 = .ok (.iadd, 1) := by decide +kernel
theorem dX4_taken_20 : decode cX4_taken 20 = .ok (.istore_n 2, 1) := by decide +kernel
theorem dX4_taken_21 : decode cX4_taken 21 = .ok (.iinc 3 1, 3) := by decide +kernel
theorem dX4_taken_24 : decode cX4_taken 24 = .ok (.goto (-20), 3) := by decide +kernel
theorem dX4_taken_27 : decode cX4_taken 27 = .ok (.iload_n 2, 1) := by decide +kernel
theorem dX4_taken_28 : decode cX4_taken 28 = .ok (.ireturn, 1) := by decide +kernel
theorem dX5_init_0 : decode cX5_init 0 = .ok (.aload_n 0, 1) := by decide +kernel
theorem dX5_init_1 : decode cX5_init 1 = .ok (.invokespecial 3, 3) := by decide +kernel
theorem dX5_init_4 : decode cX5_init 4 = .ok (.return_, 1) := by decide +kernel
theorem dX5_oneMore_0 : decode cX5_oneMore 0 = .ok (.aload_n 0, 1) := by decide +kernel
theorem dX5_oneMore_1 : decode cX5_oneMore 1 = .ok (.getfield 9, 3) := by decide +kernel
theorem dX5_oneMore_4 : decode cX5_oneMore 4 = .ok (.sipush 600, 3) := by decide +kernel
theorem dX5_oneMore_7 : decode cX5_oneMore 7 = .ok (.if_icmp .lt 5, 3) := by decide +kernel
theorem dX5_oneMore_10 : decode cX5_oneMore 10 = .ok (.iconst 0, 1) := by decide +kernel
theorem dX5_oneMore_11 : decode cX5_oneMore 11 = .ok (.ireturn, 1) := by decide +kernel
theorem dX5_oneMore_12 : decode cX5_oneMore 12 = .ok (.aload_n 0, 1) := by decide +kernel
theorem dX5_oneMore_13 : decode cX5_oneMore 13 = .ok (.dup, 1) := by decide +kernel
theorem dX5_oneMore_14 : decode cX5_oneMore 14 = .ok (.getfield 9, 3) := by decide +kernel
theorem dX5_oneMore_17 : decode cX5_oneMore 17 = .ok (.iconst 1, 1) := by decide +kernel
theorem dX5_oneMore_18 : decode cX5_oneMore 18 = .ok (.iadd, 1) := by decide +kernel
theorem dX5_oneMore_19 : decode cX5_oneMore 19 = .ok (.putfield 9, 3) := by decide +kernel
theorem dX5_oneMore_22 : decode cX5_oneMore 22 = .ok (.iconst 1, 1) := by decide +kernel
theorem dX5_oneMore_23 : decode cX5_oneMore 23 = .ok (.ireturn, 1) := by decide +kernel
set_option maxRecDepth 20000 in
theorem ggX6_init_X2_init : GoodIn wsX6_init wsX2_init := goodIn_r _ [30, 31, 2, 3] (by decide +kernel) (by decide +kernel)
set_option maxRecDepth 20000 in
theorem gX6_init_X2_init_n11 : GoodIn wsX6_init (wsX2_init) := ggX6_init_X2_init
set_option maxRecDepth 20000 in
theorem ggX6_init_X2_measure : GoodIn wsX6_init wsX2_measure := goodIn_r _ [35, 36, 37, 38, 39, 40, 41, 42, 90, 91, 92, 93, 94, 95] (by decide +kernel) (by decide +kernel)
set_option maxRecDepth 20000 in
theorem gX6_init_X2_measure : GoodIn wsX6_init (wsV RX6 16 RX2 yX2_measure wsX2_measure) := goodIn_app (goodIn_of _ (by decide +kernel)) ggX6_init_X2_measure
set_option maxRecDepth 20000 in
theorem ggX6_init_X4_init : GoodIn wsX6_init wsX4_init := goodIn_r _ [45, 46, 2, 3, 47, 48, 49, 50, 51, 52, 53, 54, 55, 56, 103, 104, 105, 106, 107, 108, 109, 110, 111] (by decide +kernel) (by decide +kernel)
set_option maxRecDepth 20000 in
theorem gX6_init_X4_init : GoodIn wsX6_init (wsX4_init) := ggX6_init_X4_init
set_option maxRecDepth 20000 in
theorem ggX6_init_X4_begin : GoodIn wsX6_init wsX4_begin := goodIn_r _ [60, 61, 62, 63, 64, 65, 66, 10, 67, 53, 54, 103, 104, 105, 106, 107, 108, 109, 110, 111] (by decide +kernel) (by decide +kernel)
set_option maxRecDepth 20000 in
theorem gX6_init_X4_begin : GoodIn wsX6_init (wsV RX6 29 RX4 yX4_begin wsX4_begin) := goodIn_app (goodIn_of _ (by decide +kernel)) ggX6_init_X4_begin
set_option maxRecDepth 20000 in
theorem ggX6_init_X3_init : GoodIn wsX6_init wsX3_init := goodIn_r _ [70, 71, 2, 3, 72, 112] (by decide +kernel) (by decide +kernel)
set_option maxRecDepth 20000 in
theorem gX6_init_X3_init : GoodIn wsX6_init (wsX3_init) := ggX6_init_X3_init
set_option maxRecDepth 20000 in
theorem ggX6_init_X5_init : GoodIn wsX6_init wsX5_init := goodIn_r _ [74, 75, 2, 3] (by decide +kernel) (by decide +kernel)
set_option maxRecDepth 20000 in
theorem gX6_init_X5_init_n44 : GoodIn wsX6_init (wsX5_init) := ggX6_init_X5_init
set_option maxRecDepth 20000 in
theorem ggX6_init_X0_init : GoodIn wsX6_init wsX0_init := goodIn_r _ [78, 79, 2, 3, 80, 81, 82, 114, 115, 116, 117, 118] (by decide +kernel) (by decide +kernel)
set_option maxRecDepth 20000 in
theorem gX6_init_X0_init : GoodIn wsX6_init (wsX0_init) := ggX6_init_X0_init
set_option maxRecDepth 20000 in
theorem ggX6_init_X1_init : GoodIn wsX6_init wsX1_init := goodIn_r _ [85, 86, 2, 3, 87, 88, 89, 119, 120, 121, 122, 123, 124] (by decide +kernel) (by decide +kernel)
set_option maxRecDepth 20000 in
theorem gX6_init_X1_init : GoodIn wsX6_init (wsX1_init) := ggX6_init_X1_init
theorem dX6_init_0 : decode cX6_init 0 = .ok (.aload_n 0, 1) := by decide +kernel
theorem dX6_init_1 : decode cX6_init 1 = .ok (.invokespecial 3, 3) := by decide +kernel
theorem dX6_init_4 : decode cX6_init 4 = .ok (.aload_n 0, 1) := by decide +kernel
theorem dX6_init_5 : decode cX6_init 5 = .ok (.new 9, 3) := by decide +kernel
theorem dX6_init_8 : decode cX6_init 8 = .ok (.dup, 1) := by decide +kernel
theorem dX6_init_9 : decode cX6_init 9 = .ok (.invokespecial 11, 3) := by decide +kernel
theorem dX6_init_12 : decode cX6_init 12 = .ok (.putfield 12, 3) := by decide +kernel
theorem dX6_init_15 : decode cX6_init 15 = .ok (.aload_n 0, 1) := by decide +kernel
theorem dX6_init_16 : decode cX6_init 16 = .ok (.getfield 12, 3) := by decide +kernel
theorem dX6_init_19 : decode cX6_init 19 = .ok (.iconst 5, 1) := by decide +kernel
theorem dX6_init_20 : decode cX6_init 20 = .ok (.iconst 5, 1) := by decide +kernel
theorem dX6_init_21 : decode cX6_init 21 = .ok (.invokevirtual 16, 3) := by decide +kernel
theorem dX6_init_24 : decode cX6_init 24 = .ok (.aload_n 0, 1) := by decide +kernel
theorem dX6_init_25 : decode cX6_init 25 = .ok (.new 20, 3) := by decide +kernel
theorem dX6_init_28 : decode cX6_init 28 = .ok (.dup, 1) := by decide +kernel
theorem dX6_init_29 : decode cX6_init 29 = .ok (.aload_n 0, 1) := by decide +kernel
theorem dX6_init_30 : decode cX6_init 30 = .ok (.getfield 12, 3) := by decide +kernel
theorem dX6_init_33 : decode cX6_init 33 = .ok (.bipush 126, 2) := by decide +kernel
theorem dX6_init_35 : decode cX6_init 35 = .ok (.invokespecial 22, 3) := by decide +kernel
theorem dX6_init_38 : decode cX6_init 38 = .ok (.putfield 25, 3) := by decide +kernel
theorem dX6_init_41 : decode cX6_init 41 = .ok (.aload_n 0, 1) := by decide +kernel
theorem dX6_init_42 : decode cX6_init 42 = .ok (.getfield 25, 3) := by decide +kernel
theorem dX6_init_45 : decode cX6_init 45 = .ok (.lconst 0, 1) := by decide +kernel
theorem dX6_init_46 : decode cX6_init 46 = .ok (.lconst 0, 1) := by decide +kernel
theorem dX6_init_47 : decode cX6_init 47 = .ok (.iconst 1, 1) := by decide +kernel
theorem dX6_init_48 : decode cX6_init 48 = .ok (.iconst 0, 1) := by decide +kernel
theorem dX6_init_49 : decode cX6_init 49 = .ok (.invokevirtual 29, 3) := by decide +kernel
theorem dX6_init_52 : decode cX6_init 52 = .ok (.aload_n 0, 1) := by decide +kernel
theorem dX6_init_53 : decode cX6_init 53 = .ok (.new 33, 3) := by decide +kernel
theorem dX6_init_56 : decode cX6_init 56 = .ok (.dup, 1) := by decide +kernel
theorem dX6_init_57 : decode cX6_init 57 = .ok (.aload_n 0, 1) := by decide +kernel
theorem dX6_init_58 : decode cX6_init 58 = .ok (.getfield 12, 3) := by decide +kernel
theorem dX6_init_61 : decode cX6_init 61 = .ok (.invokespecial 35, 3) := by decide +kernel
theorem dX6_init_64 : decode cX6_init 64 = .ok (.putfield 38, 3) := by decide +kernel
theorem dX6_init_67 : decode cX6_init 67 = .ok (.aload_n 0, 1) := by decide +kernel
theorem dX6_init_68 : decode cX6_init 68 = .ok (.new 42, 3) := by decide +kernel
theorem dX6_init_71 : decode cX6_init 71 = .ok (.dup, 1) := by decide +kernel
theorem dX6_init_72 : decode cX6_init 72 = .ok (.invokespecial 44, 3) := by decide +kernel
theorem dX6_init_75 : decode cX6_init 75 = .ok (.putfield 45, 3) := by decide +kernel
theorem dX6_init_78 : decode cX6_init 78 = .ok (.aload_n 0, 1) := by decide +kernel
theorem dX6_init_79 : decode cX6_init 79 = .ok (.new 49, 3) := by decide +kernel
theorem dX6_init_82 : decode cX6_init 82 = .ok (.dup, 1) := by decide +kernel
theorem dX6_init_83 : decode cX6_init 83 = .ok (.aload_n 0, 1) := by decide +kernel
theorem dX6_init_84 : decode cX6_init 84 = .ok (.getfield 12, 3) := by decide +kernel
theorem dX6_init_87 : decode cX6_init 87 = .ok (.new 20, 3) := by decide +kernel
theorem dX6_init_90 : decode cX6_init 90 = .ok (.dup, 1) := by decide +kernel
theorem dX6_init_91 : decode cX6_init 91 = .ok (.aload_n 0, 1) := by decide +kernel
theorem dX6_init_92 : decode cX6_init 92 = .ok (.getfield 12, 3) := by decide +kernel
theorem dX6_init_95 : decode cX6_init 95 = .ok (.bipush 40, 2) := by decide +kernel
theorem dX6_init_97 : decode cX6_init 97 = .ok (.invokespecial 22, 3) := by decide +kernel
theorem dX6_init_100 : decode cX6_init 100 = .ok (.aload_n 0, 1) := by decide +kernel
theorem dX6_init_101 : decode cX6_init 101 = .ok (.getfield 45, 3) := by decide +kernel
theorem dX6_init_104 : decode cX6_init 104 = .ok (.invokespecial 51, 3) := by decide +kernel
theorem dX6_init_107 : decode cX6_init 107 = .ok (.putfield 54, 3) := by decide +kernel
theorem dX6_init_110 : decode cX6_init 110 = .ok (.aload_n 0, 1) := by decide +kernel
theorem dX6_init_111 : decode cX6_init 111 = .ok (.new 58, 3) := by decide +kernel
theorem dX6_init_114 : decode cX6_init 114 = .ok (.dup, 1) := by decide +kernel
theorem dX6_init_115 : decode cX6_init 115 = .ok (.aload_n 0, 1) := by decide +kernel
theorem dX6_init_116 : decode cX6_init 116 = .ok (.getfield 12, 3) := by decide +kernel
theorem dX6_init_119 : decode cX6_init 119 = .ok (.aload_n 0, 1) := by decide +kernel
theorem dX6_init_120 : decode cX6_init 120 = .ok (.getfield 25, 3) := by decide +kernel
theorem dX6_init_123 : decode cX6_init 123 = .ok (.aload_n 0, 1) := by decide +kernel
theorem dX6_init_124 : decode cX6_init 124 = .ok (.getfield 45, 3) := by decide +kernel
theorem dX6_init_127 : decode cX6_init 127 = .ok (.invokespecial 60, 3) := by decide +kernel
theorem dX6_init_130 : decode cX6_init 130 = .ok (.putfield 61, 3) := by decide +kernel
theorem dX6_init_133 : decode cX6_init 133 = .ok (.aload_n 0, 1) := by decide +kernel
theorem dX6_init_134 : decode cX6_init 134 = .ok (.iconst (-1), 1) := by decide +kernel
theorem dX6_init_135 : decode cX6_init 135 = .ok (.putfield 65, 3) := by decide +kernel
theorem dX6_init_138 : decode cX6_init 138 = .ok (.return_, 1) := by decide +kernel
set_option maxRecDepth 20000 in
theorem ggX6_board_X6_isSide : GoodIn wsX6_board wsX6_isSide := goodIn_r _ [7] (by decide +kernel) (by decide +kernel)
set_option maxRecDepth 20000 in
theorem gX6_board_X6_isSide : GoodIn wsX6_board (va_wsS RX6 69 yX6_isSide wsX6_isSide) := goodIn_app (goodIn_of _ (by decide +kernel)) ggX6_board_X6_isSide
set_option maxRecDepth 20000 in
theorem ggX6_board_X2_measure : GoodIn wsX6_board wsX2_measure := goodIn_r _ [12, 13, 14, 15, 16, 17, 18, 19, 50, 51, 52, 53, 54, 55] (by decide +kernel) (by decide +kernel)
set_option maxRecDepth 20000 in
theorem gX6_board_X2_measure : GoodIn wsX6_board (wsV RX6 16 RX2 yX2_measure wsX2_measure) := goodIn_app (goodIn_of _ (by decide +kernel)) ggX6_board_X2_measure
set_option maxRecDepth 20000 in
theorem ggX6_board_X4_begin : GoodIn wsX6_board wsX4_begin := goodIn_r _ [24, 25, 26, 27, 28, 29, 30, 23, 31, 32, 33, 41, 42, 43, 44, 45, 46, 47, 48, 49] (by decide +kernel) (by decide +kernel)
set_option maxRecDepth 20000 in
theorem gX6_board_X4_begin : GoodIn wsX6_board (wsV RX6 29 RX4 yX4_begin wsX4_begin) := goodIn_app (goodIn_of _ (by decide +kernel)) ggX6_board_X4_begin
theorem dX6_board_0 : decode cX6_board 0 = .ok (.iload_n 1, 1) := by decide +kernel
theorem dX6_board_1 : decode cX6_board 1 = .ok (.invokestatic 69, 3) := by decide +kernel
theorem dX6_board_4 : decode cX6_board 4 = .ok (.ifCond .eq 19, 3) := by decide +kernel
theorem dX6_board_7 : decode cX6_board 7 = .ok (.iload_n 2, 1) := by decide +kernel
theorem dX6_board_8 : decode cX6_board 8 = .ok (.invokestatic 69, 3) := by decide +kernel
theorem dX6_board_11 : decode cX6_board 11 = .ok (.ifCond .eq 12, 3) := by decide +kernel
theorem dX6_board_14 : decode cX6_board 14 = .ok (.iload_n 3, 1) := by decide +kernel
theorem dX6_board_15 : decode cX6_board 15 = .ok (.ifCond .lt 8, 3) := by decide +kernel
theorem dX6_board_18 : decode cX6_board 18 = .ok (.iload_n 3, 1) := by decide +kernel
theorem dX6_board_19 : decode cX6_board 19 = .ok (.iconst 2, 1) := by decide +kernel
theorem dX6_board_20 : decode cX6_board 20 = .ok (.if_icmp .le 6, 3) := by decide +kernel
theorem dX6_board_23 : decode cX6_board 23 = .ok (.bipush (-2), 2) := by decide +kernel
theorem dX6_board_25 : decode cX6_board 25 = .ok (.ireturn, 1) := by decide +kernel
theorem dX6_board_26 : decode cX6_board 26 = .ok (.aload_n 0, 1) := by decide +kernel
theorem dX6_board_27 : decode cX6_board 27 = .ok (.getfield 25, 3) := by decide +kernel
theorem dX6_board_30 : decode cX6_board 30 = .ok (.getfield 73, 3) := by decide +kernel
theorem dX6_board_33 : decode cX6_board 33 = .ok (.istore 4, 2) := by decide +kernel
theorem dX6_board_35 : decode cX6_board 35 = .ok (.aload_n 0, 1) := by decide +kernel
theorem dX6_board_36 : decode cX6_board 36 = .ok (.getfield 12, 3) := by decide +kernel
theorem dX6_board_39 : decode cX6_board 39 = .ok (.iload_n 1, 1) := by decide +kernel
theorem dX6_board_40 : decode cX6_board 40 = .ok (.iload_n 2, 1) := by decide +kernel
theorem dX6_board_41 : decode cX6_board 41 = .ok (.invokevirtual 16, 3) := by decide +kernel
theorem dX6_board_44 : decode cX6_board 44 = .ok (.aload_n 0, 1) := by decide +kernel
theorem dX6_board_45 : decode cX6_board 45 = .ok (.getfield 25, 3) := by decide +kernel
theorem dX6_board_48 : decode cX6_board 48 = .ok (.lconst 0, 1) := by decide +kernel
theorem dX6_board_49 : decode cX6_board 49 = .ok (.lconst 0, 1) := by decide +kernel
theorem dX6_board_50 : decode cX6_board 50 = .ok (.iconst 1, 1) := by decide +kernel
theorem dX6_board_51 : decode cX6_board 51 = .ok (.iload_n 3, 1) := by decide +kernel
theorem dX6_board_52 : decode cX6_board 52 = .ok (.invokevirtual 29, 3) := by decide +kernel
theorem dX6_board_55 : decode cX6_board 55 = .ok (.iload 4, 2) := by decide +kernel
theorem dX6_board_57 : decode cX6_board 57 = .ok (.ireturn, 1) := by decide +kernel
set_option maxRecDepth 20000 in
theorem ggX6_set_X2_has : GoodIn wsX6_set wsX2_has := goodIn_r _ [11, 12, 62, 63, 64, 65, 66, 67] (by decide +kernel) (by decide +kernel)
set_option maxRecDepth 20000 in
theorem gX6_set_X2_has : GoodIn wsX6_set (wsV RX6 76 RX2 yX2_has wsX2_has) := goodIn_app (goodIn_of _ (by decide +kernel)) ggX6_set_X2_has
set_option maxRecDepth 20000 in
theorem ggX6_set_X6_isColour : GoodIn wsX6_set wsX6_isColour := goodIn_r _ [16] (by decide +kernel) (by decide +kernel)
set_option maxRecDepth 20000 in
theorem gX6_set_X6_isColour : GoodIn wsX6_set (va_wsS RX6 79 yX6_isColour wsX6_isColour) := goodIn_app (goodIn_of _ (by decide +kernel)) ggX6_set_X6_isColour
set_option maxRecDepth 20000 in
theorem ggX6_set_X4_stonesOf : GoodIn wsX6_set wsX4_stonesOf := goodIn_r _ [21, 22, 23, 24, 25, 20, 26, 27, 28, 68, 69, 70, 71, 72, 73, 74, 75, 76] (by decide +kernel) (by decide +kernel)
set_option maxRecDepth 20000 in
theorem gX6_set_X4_stonesOf : GoodIn wsX6_set (wsV RX6 82 RX4 yX4_stonesOf wsX4_stonesOf) := goodIn_app (goodIn_of _ (by decide +kernel)) ggX6_set_X4_stonesOf
set_option maxRecDepth 20000 in
theorem ggX6_set_X2_allBreathe : GoodIn wsX6_set wsX2_allBreathe := goodIn_r _ [32, 33, 34, 35, 10, 36, 37, 38, 39, 40, 41, 42, 43, 44, 62, 63, 64, 65, 66, 67] (by decide +kernel) (by decide +kernel)
set_option maxRecDepth 20000 in
theorem gX6_set_X2_allBreathe : GoodIn wsX6_set (wsV RX6 92 RX2 yX2_allBreathe wsX2_allBreathe) := goodIn_app (goodIn_of _ (by decide +kernel)) ggX6_set_X2_allBreathe
set_option maxRecDepth 20000 in
theorem ggX6_set_X4_begin : GoodIn wsX6_set wsX4_begin := goodIn_r _ [48, 49, 22, 50, 51, 52, 53, 20, 54, 27, 28, 68, 69, 70, 71, 72, 73, 74, 75, 76] (by decide +kernel) (by decide +kernel)
set_option maxRecDepth 20000 in
theorem gX6_set_X4_begin : GoodIn wsX6_set (wsV RX6 29 RX4 yX4_begin wsX4_begin) := goodIn_app (goodIn_of _ (by decide +kernel)) ggX6_set_X4_begin
theorem dX6_set_0 : decode cX6_set 0 = .ok (.aload_n 0, 1) := by decide +kernel
theorem dX6_set_1 : decode cX6_set 1 = .ok (.getfield 12, 3) := by decide +kernel
theorem dX6_set_4 : decode cX6_set 4 = .ok (.iload_n 1, 1) := by decide +kernel
theorem dX6_set_5 : decode cX6_set 5 = .ok (.invokevirtual 76, 3) := by decide +kernel
theorem dX6_set_8 : decode cX6_set 8 = .ok (.ifCond .eq 19, 3) := by decide +kernel
theorem dX6_set_11 : decode cX6_set 11 = .ok (.iload_n 2, 1) := by decide +kernel
theorem dX6_set_12 : decode cX6_set 12 = .ok (.ifCond .lt 15, 3) := by decide +kernel
theorem dX6_set_15 : decode cX6_set 15 = .ok (.iload_n 2, 1) := by decide +kernel
theorem dX6_set_16 : decode cX6_set 16 = .ok (.iconst 2, 1) := by decide +kernel
theorem dX6_set_17 : decode cX6_set 17 = .ok (.if_icmp .gt 10, 3) := by decide +kernel
theorem dX6_set_20 : decode cX6_set 20 = .ok (.iload_n 3, 1) := by decide +kernel
theorem dX6_set_21 : decode cX6_set 21 = .ok (.invokestatic 79, 3) := by decide +kernel
theorem dX6_set_24 : decode cX6_set 24 = .ok (.ifCond .ne 6, 3) := by decide +kernel
theorem dX6_set_27 : decode cX6_set 27 = .ok (.bipush (-2), 2) := by decide +kernel
theorem dX6_set_29 : decode cX6_set 29 = .ok (.ireturn, 1) := by decide +kernel
theorem dX6_set_30 : decode cX6_set 30 = .ok (.lconst 1, 1) := by decide +kernel
theorem dX6_set_31 : decode cX6_set 31 = .ok (.iload_n 1, 1) := by decide +kernel
theorem dX6_set_32 : decode cX6_set 32 = .ok (.lshl, 1) := by decide +kernel
theorem dX6_set_33 : decode cX6_set 33 = .ok (.lstore 4, 2) := by decide +kernel
theorem dX6_set_35 : decode cX6_set 35 = .ok (.aload_n 0, 1) := by decide +kernel
theorem dX6_set_36 : decode cX6_set 36 = .ok (.getfield 25, 3) := by decide +kernel
theorem dX6_set_39 : decode cX6_set 39 = .ok (.iconst 1, 1) := by decide +kernel
theorem dX6_set_40 : decode cX6_set 40 = .ok (.invokevirtual 82, 3) := by decide +kernel
theorem dX6_set_43 : decode cX6_set 43 = .ok (.lload 4, 2) := by decide +kernel
theorem dX6_set_45 : decode cX6_set 45 = .ok (.ldc2_w 86, 3) := by decide +kernel
theorem dX6_set_48 : decode cX6_set 48 = .ok (.lxor, 1) := by decide +kernel
theorem dX6_set_49 : decode cX6_set 49 = .ok (.land, 1) := by decide +kernel
theorem dX6_set_50 : decode cX6_set 50 = .ok (.iload_n 2, 1) := by decide +kernel
theorem dX6_set_51 : decode cX6_set 51 = .ok (.iconst 1, 1) := by decide +kernel
theorem dX6_set_52 : decode cX6_set 52 = .ok (.if_icmp .ne 8, 3) := by decide +kernel
theorem dX6_set_55 : decode cX6_set 55 = .ok (.lload 4, 2) := by decide +kernel
theorem dX6_set_57 : decode cX6_set 57 = .ok (.goto 4, 3) := by decide +kernel
theorem dX6_set_60 : decode cX6_set 60 = .ok (.lconst 0, 1) := by decide +kernel
theorem dX6_set_61 : decode cX6_set 61 = .ok (.lor, 1) := by decide +kernel
theorem dX6_set_62 : decode cX6_set 62 = .ok (.lstore 6, 2) := by decide +kernel
theorem dX6_set_64 : decode cX6_set 64 = .ok (.aload_n 0, 1) := by decide +kernel
theorem dX6_set_65 : decode cX6_set 65 = .ok (.getfield 25, 3) := by decide +kernel
theorem dX6_set_68 : decode cX6_set 68 = .ok (.iconst 2, 1) := by decide +kernel
theorem dX6_set_69 : decode cX6_set 69 = .ok (.invokevirtual 82, 3) := by decide +kernel
theorem dX6_set_72 : decode cX6_set 72 = .ok (.lload 4, 2) := by decide +kernel
theorem dX6_set_74 : decode cX6_set 74 = .ok (.ldc2_w 86, 3) := by decide +kernel
theorem dX6_set_77 : decode cX6_set 77 = .ok (.lxor, 1) := by decide +kernel
theorem dX6_set_78 : decode cX6_set 78 = .ok (.land, 1) := by decide +kernel
theorem dX6_set_79 : decode cX6_set 79 = .ok (.iload_n 2, 1) := by decide +kernel
theorem dX6_set_80 : decode cX6_set 80 = .ok (.iconst 2, 1) := by decide +kernel
theorem dX6_set_81 : decode cX6_set 81 = .ok (.if_icmp .ne 8, 3) := by decide +kernel
theorem dX6_set_84 : decode cX6_set 84 = .ok (.lload 4, 2) := by decide +kernel
theorem dX6_set_86 : decode cX6_set 86 = .ok (.goto 4, 3) := by decide +kernel
theorem dX6_set_89 : decode cX6_set 89 = .ok (.lconst 0, 1) := by decide +kernel
theorem dX6_set_90 : decode cX6_set 90 = .ok (.lor, 1) := by decide +kernel
theorem dX6_set_91 : decode cX6_set 91 = .ok (.lstore 8, 2) := by decide +kernel
theorem dX6_set_93 : decode cX6_set 93 = .ok (.aload_n 0, 1) := by decide +kernel
theorem dX6_set_94 : decode cX6_set 94 = .ok (.getfield 12, 3) := by decide +kernel
theorem dX6_set_97 : decode cX6_set 97 = .ok (.getfield 88, 3) := by decide +kernel
theorem dX6_set_100 : decode cX6_set 100 = .ok (.lload 6, 2) := by decide +kernel
theorem dX6_set_102 : decode cX6_set 102 = .ok (.lload 8, 2) := by decide +kernel
theorem dX6_set_104 : decode cX6_set 104 = .ok (.lor, 1) := by decide +kernel
theorem dX6_set_105 : decode cX6_set 105 = .ok (.ldc2_w 86, 3) := by decide +kernel
theorem dX6_set_108 : decode cX6_set 108 = .ok (.lxor, 1) := by decide +kernel
theorem dX6_set_109 : decode cX6_set 109 = .ok (.land, 1) := by decide +kernel
theorem dX6_set_110 : decode cX6_set 110 = .ok (.lstore 10, 2) := by decide +kernel
theorem dX6_set_112 : decode cX6_set 112 = .ok (.aload_n 0, 1) := by decide +kernel
theorem dX6_set_113 : decode cX6_set 113 = .ok (.getfield 25, 3) := by decide +kernel
theorem dX6_set_116 : decode cX6_set 116 = .ok (.getfield 73, 3) := by decide +kernel
theorem dX6_set_119 : decode cX6_set 119 = .ok (.ifCond .gt 31, 3) := by decide +kernel
theorem dX6_set_122 : decode cX6_set 122 = .ok (.aload_n 0, 1) := by decide +kernel
theorem dX6_set_123 : decode cX6_set 123 = .ok (.getfield 12, 3) := by decide +kernel
theorem dX6_set_126 : decode cX6_set 126 = .ok (.lload 6, 2) := by decide +kernel
theorem dX6_set_128 : decode cX6_set 128 = .ok (.lload 10, 2) := by decide +kernel
theorem dX6_set_130 : decode cX6_set 130 = .ok (.invokevirtual 92, 3) := by decide +kernel
theorem dX6_set_133 : decode cX6_set 133 = .ok (.ifCond .eq 17, 3) := by decide +kernel
theorem dX6_set_136 : decode cX6_set 136 = .ok (.aload_n 0, 1) := by decide +kernel
theorem dX6_set_137 : decode cX6_set 137 = .ok (.getfield 12, 3) := by decide +kernel
theorem dX6_set_140 : decode cX6_set 140 = .ok (.lload 8, 2) := by decide +kernel
theorem dX6_set_142 : decode cX6_set 142 = .ok (.lload 10, 2) := by decide +kernel
theorem dX6_set_144 : decode cX6_set 144 = .ok (.invokevirtual 92, 3) := by decide +kernel
theorem dX6_set_147 : decode cX6_set 147 = .ok (.ifCond .ne 6, 3) := by decide +kernel
theorem dX6_set_150 : decode cX6_set 150 = .ok (.bipush (-3), 2) := by decide +kernel
theorem dX6_set_152 : decode cX6_set 152 = .ok (.ireturn, 1) := by decide +kernel
theorem dX6_set_153 : decode cX6_set 153 = .ok (.aload_n 0, 1) := by decide +kernel
theorem dX6_set_154 : decode cX6_set 154 = .ok (.getfield 25, 3) := by decide +kernel
theorem dX6_set_157 : decode cX6_set 157 = .ok (.lload 6, 2) := by decide +kernel
theorem dX6_set_159 : decode cX6_set 159 = .ok (.lload 8, 2) := by decide +kernel
theorem dX6_set_161 : decode cX6_set 161 = .ok (.iload_n 3, 1) := by decide +kernel
theorem dX6_set_162 : decode cX6_set 162 = .ok (.aload_n 0, 1) := by decide +kernel
theorem dX6_set_163 : decode cX6_set 163 = .ok (.getfield 25, 3) := by decide +kernel
theorem dX6_set_166 : decode cX6_set 166 = .ok (.getfield 96, 3) := by decide +kernel
theorem dX6_set_169 : decode cX6_set 169 = .ok (.invokevirtual 29, 3) := by decide +kernel
theorem dX6_set_172 : decode cX6_set 172 = .ok (.iconst 1, 1) := by decide +kernel
theorem dX6_set_173 : decode cX6_set 173 = .ok (.ireturn, 1) := by decide +kernel
set_option maxRecDepth 20000 in
theorem ggX6_lay_X2_has : GoodIn wsX6_lay wsX2_has := goodIn_r _ [8, 9, 108, 109, 110, 111, 112, 113] (by decide +kernel) (by decide +kernel)
set_option maxRecDepth 20000 in
theorem gX6_lay_X2_has : GoodIn wsX6_lay (wsV RX6 76 RX2 yX2_has wsX2_has) := goodIn_app (goodIn_of _ (by decide +kernel)) ggX6_lay_X2_has
set_option maxRecDepth 20000 in
theorem ggX6_lay_X4_reasonAgainst : GoodIn wsX6_lay wsX4_reasonAgainst := goodIn_r _ [14, 15, 16, 17, 18, 19, 20, 21, 22, 13, 23, 24, 25, 26, 27, 28, 29, 30, 31, 32, 7, 33, 34, 35, 36, 37, 38, 39, 40, 41, 42, 43, 44, 45, 46, 47, 48, 49, 50, 51, 52, 53, 54, 55, 56, 57, 58, 59, 60, 61, 62, 63, 64, 65, 66, 67, 99, 100, 101, 102, 103, 104, 105, 106, 107, 108, 109, 110, 111, 112, 113] (by decide +kernel) (by decide +kernel)
set_option maxRecDepth 20000 in
theorem gX6_lay_X4_reasonAgainst : GoodIn wsX6_lay (wsV RX6 99 RX4 yX4_reasonAgainst wsX4_reasonAgainst) := goodIn_app (goodIn_of _ (by decide +kernel)) ggX6_lay_X4_reasonAgainst
set_option maxRecDepth 20000 in
theorem ggX6_lay_X4_add : GoodIn wsX6_lay wsX4_add := goodIn_r _ [71, 24, 29, 72, 15, 73, 18, 19, 43, 44, 45, 13, 46, 25, 26, 27, 28, 30, 74, 75, 76, 77, 78, 5, 6, 7, 8, 9, 79, 11, 12, 14, 16, 17, 20, 21, 22, 23, 31, 32, 33, 34, 35, 36, 37, 38, 39, 40, 41, 42, 47, 48, 49, 50, 51, 52, 53, 54, 55, 56, 57, 58, 59, 60, 61, 62, 63, 64, 65, 66, 67, 99, 100, 101, 102, 103, 104, 105, 106, 107, 108, 109, 110, 111, 112, 113] (by decide +kernel) (by decide +kernel)
set_option maxRecDepth 20000 in
theorem gX6_lay_X4_add : GoodIn wsX6_lay (wsV RX6 103 RX4 yX4_add wsX4_add) := goodIn_app (goodIn_of _ (by decide +kernel)) ggX6_lay_X4_add
set_option maxRecDepth 20000 in
theorem ggX6_lay_X4_mover : GoodIn wsX6_lay wsX4_mover := goodIn_r _ [37, 24, 38, 39, 40, 13, 41, 42, 99, 100, 101, 102, 103, 104, 105, 106, 107] (by decide +kernel) (by decide +kernel)
set_option maxRecDepth 20000 in
theorem gX6_lay_X4_mover : GoodIn wsX6_lay (wsV RX6 106 RX4 yX4_mover wsX4_mover) := goodIn_app (goodIn_of _ (by decide +kernel)) ggX6_lay_X4_mover
set_option maxRecDepth 20000 in
theorem ggX6_lay_X4_takenBy : GoodIn wsX6_lay wsX4_takenBy := goodIn_r _ [84, 17, 25, 26, 27, 13, 28, 29, 30, 85, 86, 87, 88, 89, 90, 91, 99, 100, 101, 102, 103, 104, 105, 106, 107] (by decide +kernel) (by decide +kernel)
set_option maxRecDepth 20000 in
theorem gX6_lay_X4_takenBy : GoodIn wsX6_lay (wsV RX6 110 RX4 yX4_takenBy wsX4_takenBy) := goodIn_app (goodIn_of _ (by decide +kernel)) ggX6_lay_X4_takenBy
theorem dX6_lay_0 : decode cX6_lay 0 = .ok (.aload_n 0, 1) := by decide +kernel
theorem dX6_lay_1 : decode cX6_lay 1 = .ok (.getfield 12, 3) := by decide +kernel
theorem dX6_lay_4 : decode cX6_lay 4 = .ok (.iload_n 1, 1) := by decide +kernel
theorem dX6_lay_5 : decode cX6_lay 5 = .ok (.invokevirtual 76, 3) := by decide +kernel
theorem dX6_lay_8 : decode cX6_lay 8 = .ok (.ifCond .ne 6, 3) := by decide +kernel
theorem dX6_lay_11 : decode cX6_lay 11 = .ok (.bipush (-2), 2) := by decide +kernel
theorem dX6_lay_13 : decode cX6_lay 13 = .ok (.ireturn, 1) := by decide +kernel
theorem dX6_lay_14 : decode cX6_lay 14 = .ok (.aload_n 0, 1) := by decide +kernel
theorem dX6_lay_15 : decode cX6_lay 15 = .ok (.getfield 25, 3) := by decide +kernel
theorem dX6_lay_18 : decode cX6_lay 18 = .ok (.iload_n 1, 1) := by decide +kernel
theorem dX6_lay_19 : decode cX6_lay 19 = .ok (.invokevirtual 99, 3) := by decide +kernel
theorem dX6_lay_22 : decode cX6_lay 22 = .ok (.ifCond .eq 6, 3) := by decide +kernel
theorem dX6_lay_25 : decode cX6_lay 25 = .ok (.bipush (-3), 2) := by decide +kernel
theorem dX6_lay_27 : decode cX6_lay 27 = .ok (.ireturn, 1) := by decide +kernel
theorem dX6_lay_28 : decode cX6_lay 28 = .ok (.aload_n 0, 1) := by decide +kernel
theorem dX6_lay_29 : decode cX6_lay 29 = .ok (.getfield 25, 3) := by decide +kernel
theorem dX6_lay_32 : decode cX6_lay 32 = .ok (.getfield 73, 3) := by decide +kernel
theorem dX6_lay_35 : decode cX6_lay 35 = .ok (.bipush 120, 2) := by decide +kernel
theorem dX6_lay_37 : decode cX6_lay 37 = .ok (.if_icmp .lt 6, 3) := by decide +kernel
theorem dX6_lay_40 : decode cX6_lay 40 = .ok (.bipush (-4), 2) := by decide +kernel
theorem dX6_lay_42 : decode cX6_lay 42 = .ok (.ireturn, 1) := by decide +kernel
theorem dX6_lay_43 : decode cX6_lay 43 = .ok (.aload_n 0, 1) := by decide +kernel
theorem dX6_lay_44 : decode cX6_lay 44 = .ok (.getfield 25, 3) := by decide +kernel
theorem dX6_lay_47 : decode cX6_lay 47 = .ok (.iload_n 1, 1) := by decide +kernel
theorem dX6_lay_48 : decode cX6_lay 48 = .ok (.invokevirtual 103, 3) := by decide +kernel
theorem dX6_lay_51 : decode cX6_lay 51 = .ok (.pop, 1) := by decide +kernel
theorem dX6_lay_52 : decode cX6_lay 52 = .ok (.aload_n 0, 1) := by decide +kernel
theorem dX6_lay_53 : decode cX6_lay 53 = .ok (.getfield 25, 3) := by decide +kernel
theorem dX6_lay_56 : decode cX6_lay 56 = .ok (.aload_n 0, 1) := by decide +kernel
theorem dX6_lay_57 : decode cX6_lay 57 = .ok (.getfield 25, 3) := by decide +kernel
theorem dX6_lay_60 : decode cX6_lay 60 = .ok (.getfield 73, 3) := by decide +kernel
theorem dX6_lay_63 : decode cX6_lay 63 = .ok (.aload_n 0, 1) := by decide +kernel
theorem dX6_lay_64 : decode cX6_lay 64 = .ok (.getfield 25, 3) := by decide +kernel
theorem dX6_lay_67 : decode cX6_lay 67 = .ok (.invokevirtual 106, 3) := by decide +kernel
theorem dX6_lay_70 : decode cX6_lay 70 = .ok (.invokevirtual 110, 3) := by decide +kernel
theorem dX6_lay_73 : decode cX6_lay 73 = .ok (.ireturn, 1) := by decide +kernel
set_option maxRecDepth 20000 in
theorem ggX6_pass_X4_add : GoodIn wsX6_pass wsX4_add := goodIn_r _ [9, 10, 11, 12, 13, 14, 15, 16, 17, 18, 19, 8, 20, 21, 22, 23, 24, 25, 26, 27, 28, 29, 30, 31, 32, 33, 34, 35, 36, 37, 38, 39, 40, 41, 42, 43, 44, 45, 46, 47, 48, 49, 50, 51, 52, 53, 54, 55, 56, 57, 58, 59, 60, 61, 62, 63, 64, 65, 66, 67, 68, 69, 70, 71, 72, 73, 74, 75, 76, 77, 78, 94, 95, 96, 97, 98, 99, 100, 101, 102, 103, 104, 105, 106, 107, 108] (by decide +kernel) (by decide +kernel)
set_option maxRecDepth 20000 in
theorem gX6_pass_X4_add : GoodIn wsX6_pass (wsV RX6 103 RX4 yX4_add wsX4_add) := goodIn_app (goodIn_of _ (by decide +kernel)) ggX6_pass_X4_add
set_option maxRecDepth 20000 in
theorem ggX6_pass_X4_passesNow : GoodIn wsX6_pass wsX4_passesNow := goodIn_r _ [82, 10, 13, 14, 83, 84, 85, 8, 86, 12, 94, 95, 96, 97, 98, 99, 100, 101, 102, 103, 104, 105, 106, 107, 108] (by decide +kernel) (by decide +kernel)
set_option maxRecDepth 20000 in
theorem gX6_pass_X4_passesNow : GoodIn wsX6_pass (wsV RX6 117 RX4 yX4_passesNow wsX4_passesNow) := goodIn_app (goodIn_of _ (by decide +kernel)) ggX6_pass_X4_passesNow
theorem dX6_pass_0 : decode cX6_pass 0 = .ok (.aload_n 0, 1) := by decide +kernel
theorem dX6_pass_1 : decode cX6_pass 1 = .ok (.getfield 25, 3) := by decide +kernel
theorem dX6_pass_4 : decode cX6_pass 4 = .ok (.getfield 73, 3) := by decide +kernel
theorem dX6_pass_7 : decode cX6_pass 7 = .ok (.bipush 120, 2) := by decide +kernel
theorem dX6_pass_9 : decode cX6_pass 9 = .ok (.if_icmp .lt 6, 3) := by decide +kernel
theorem dX6_pass_12 : decode cX6_pass 12 = .ok (.bipush (-4), 2) := by decide +kernel
theorem dX6_pass_14 : decode cX6_pass 14 = .ok (.ireturn, 1) := by decide +kernel
theorem dX6_pass_15 : decode cX6_pass 15 = .ok (.aload_n 0, 1) := by decide +kernel
theorem dX6_pass_16 : decode cX6_pass 16 = .ok (.getfield 25, 3) := by decide +kernel
theorem dX6_pass_19 : decode cX6_pass 19 = .ok (.aload_n 0, 1) := by decide +kernel
theorem dX6_pass_20 : decode cX6_pass 20 = .ok (.getfield 12, 3) := by decide +kernel
theorem dX6_pass_23 : decode cX6_pass 23 = .ok (.getfield 114, 3) := by decide +kernel
theorem dX6_pass_26 : decode cX6_pass 26 = .ok (.invokevirtual 103, 3) := by decide +kernel
theorem dX6_pass_29 : decode cX6_pass 29 = .ok (.pop, 1) := by decide +kernel
theorem dX6_pass_30 : decode cX6_pass 30 = .ok (.aload_n 0, 1) := by decide +kernel
theorem dX6_pass_31 : decode cX6_pass 31 = .ok (.getfield 25, 3) := by decide +kernel
theorem dX6_pass_34 : decode cX6_pass 34 = .ok (.invokevirtual 117, 3) := by decide +kernel
theorem dX6_pass_37 : decode cX6_pass 37 = .ok (.ireturn, 1) := by decide +kernel
set_option maxRecDepth 20000 in
theorem ggX6_why_X2_has : GoodIn wsX6_why wsX2_has := goodIn_r _ [7, 8, 74, 75, 76, 77, 78, 79] (by decide +kernel) (by decide +kernel)
set_option maxRecDepth 20000 in
theorem gX6_why_X2_has : GoodIn wsX6_why (wsV RX6 76 RX2 yX2_has wsX2_has) := goodIn_app (goodIn_of _ (by decide +kernel)) ggX6_why_X2_has
set_option maxRecDepth 20000 in
theorem ggX6_why_X4_reasonAgainst : GoodIn wsX6_why wsX4_reasonAgainst := goodIn_r _ [13, 14, 15, 16, 17, 18, 19, 20, 21, 12, 22, 23, 24, 25, 26, 27, 28, 29, 30, 31, 6, 32, 33, 34, 35, 36, 37, 38, 39, 40, 41, 42, 43, 44, 45, 46, 47, 48, 49, 50, 51, 52, 53, 54, 55, 56, 57, 58, 59, 60, 61, 62, 63, 64, 65, 66, 80, 81, 82, 83, 84, 85, 86, 87, 88, 74, 75, 76, 77, 78, 79] (by decide +kernel) (by decide +kernel)
set_option maxRecDepth 20000 in
theorem gX6_why_X4_reasonAgainst : GoodIn wsX6_why (wsV RX6 99 RX4 yX4_reasonAgainst wsX4_reasonAgainst) := goodIn_app (goodIn_of _ (by decide +kernel)) ggX6_why_X4_reasonAgainst
theorem dX6_why_0 : decode cX6_why 0 = .ok (.aload_n 0, 1) := by decide +kernel
theorem dX6_why_1 : decode cX6_why 1 = .ok (.getfield 12, 3) := by decide +kernel
theorem dX6_why_4 : decode cX6_why 4 = .ok (.iload_n 1, 1) := by decide +kernel
theorem dX6_why_5 : decode cX6_why 5 = .ok (.invokevirtual 76, 3) := by decide +kernel
theorem dX6_why_8 : decode cX6_why 8 = .ok (.ifCond .eq 14, 3) := by decide +kernel
theorem dX6_why_11 : decode cX6_why 11 = .ok (.aload_n 0, 1) := by decide +kernel
theorem dX6_why_12 : decode cX6_why 12 = .ok (.getfield 25, 3) := by decide +kernel
theorem dX6_why_15 : decode cX6_why 15 = .ok (.iload_n 1, 1) := by decide +kernel
theorem dX6_why_16 : decode cX6_why 16 = .ok (.invokevirtual 99, 3) := by decide +kernel
theorem dX6_why_19 : decode cX6_why 19 = .ok (.goto 5, 3) := by decide +kernel
theorem dX6_why_22 : decode cX6_why 22 = .ok (.bipush (-2), 2) := by decide +kernel
theorem dX6_why_24 : decode cX6_why 24 = .ok (.ireturn, 1) := by decide +kernel
set_option maxRecDepth 20000 in
theorem ggX6_undo_X4_takeBack : GoodIn wsX6_undo wsX4_takeBack := goodIn_r _ [7, 8, 9, 10, 11, 12, 20, 21, 22, 23, 24, 25, 26, 27, 28] (by decide +kernel) (by decide +kernel)
set_option maxRecDepth 20000 in
theorem gX6_undo_X4_takeBack : GoodIn wsX6_undo (wsV RX6 120 RX4 yX4_takeBack wsX4_takeBack) := goodIn_app (goodIn_of _ (by decide +kernel)) ggX6_undo_X4_takeBack
theorem dX6_undo_0 : decode cX6_undo 0 = .ok (.aload_n 0, 1) := by decide +kernel
theorem dX6_undo_1 : decode cX6_undo 1 = .ok (.getfield 25, 3) := by decide +kernel
theorem dX6_undo_4 : decode cX6_undo 4 = .ok (.getfield 73, 3) := by decide +kernel
theorem dX6_undo_7 : decode cX6_undo 7 = .ok (.ifCond .gt 6, 3) := by decide +kernel
theorem dX6_undo_10 : decode cX6_undo 10 = .ok (.bipush (-3), 2) := by decide +kernel
theorem dX6_undo_12 : decode cX6_undo 12 = .ok (.ireturn, 1) := by decide +kernel
theorem dX6_undo_13 : decode cX6_undo 13 = .ok (.aload_n 0, 1) := by decide +kernel
theorem dX6_undo_14 : decode cX6_undo 14 = .ok (.getfield 25, 3) := by decide +kernel
theorem dX6_undo_17 : decode cX6_undo 17 = .ok (.invokevirtual 120, 3) := by decide +kernel
theorem dX6_undo_20 : decode cX6_undo 20 = .ok (.aload_n 0, 1) := by decide +kernel
theorem dX6_undo_21 : decode cX6_undo 21 = .ok (.getfield 25, 3) := by decide +kernel
theorem dX6_undo_24 : decode cX6_undo 24 = .ok (.getfield 73, 3) := by decide +kernel
theorem dX6_undo_27 : decode cX6_undo 27 = .ok (.ireturn, 1) := by decide +kernel
set_option maxRecDepth 20000 in
theorem ggX6_at_X2_has : GoodIn wsX6_at wsX2_has := goodIn_r _ [7, 8, 35, 36, 37, 38, 39, 40] (by decide +kernel) (by decide +kernel)
set_option maxRecDepth 20000 in
theorem gX6_at_X2_has : GoodIn wsX6_at (wsV RX6 76 RX2 yX2_has wsX2_has) := goodIn_app (goodIn_of _ (by decide +kernel)) ggX6_at_X2_has
set_option maxRecDepth 20000 in
theorem ggX6_at_X4_colourAt : GoodIn wsX6_at wsX4_colourAt := goodIn_r _ [13, 14, 15, 16, 12, 17, 18, 19, 20, 21, 22, 23, 24, 25, 26, 6, 27, 41, 42, 43, 44, 45, 46, 47, 48, 49] (by decide +kernel) (by decide +kernel)
set_option maxRecDepth 20000 in
theorem gX6_at_X4_colourAt : GoodIn wsX6_at (wsV RX6 123 RX4 yX4_colourAt wsX4_colourAt) := goodIn_app (goodIn_of _ (by decide +kernel)) ggX6_at_X4_colourAt
theorem dX6_at_0 : decode cX6_at 0 = .ok (.aload_n 0, 1) := by decide +kernel
theorem dX6_at_1 : decode cX6_at 1 = .ok (.getfield 12, 3) := by decide +kernel
theorem dX6_at_4 : decode cX6_at 4 = .ok (.iload_n 1, 1) := by decide +kernel
theorem dX6_at_5 : decode cX6_at 5 = .ok (.invokevirtual 76, 3) := by decide +kernel
theorem dX6_at_8 : decode cX6_at 8 = .ok (.ifCond .eq 14, 3) := by decide +kernel
theorem dX6_at_11 : decode cX6_at 11 = .ok (.aload_n 0, 1) := by decide +kernel
theorem dX6_at_12 : decode cX6_at 12 = .ok (.getfield 25, 3) := by decide +kernel
theorem dX6_at_15 : decode cX6_at 15 = .ok (.iload_n 1, 1) := by decide +kernel
theorem dX6_at_16 : decode cX6_at 16 = .ok (.invokevirtual 123, 3) := by decide +kernel
theorem dX6_at_19 : decode cX6_at 19 = .ok (.goto 5, 3) := by decide +kernel
theorem dX6_at_22 : decode cX6_at 22 = .ok (.bipush (-2), 2) := by decide +kernel
end
section
theorem dX6_at_24 : decode cX6_at 24 = .ok (.ireturn, 1) := by decide +kernel
set_option maxRecDepth 20000 in
theorem ggX6_group_X2_has : GoodIn wsX6_group wsX2_has := goodIn_r _ [10, 11, 100, 101, 102, 103, 104, 105] (by decide +kernel) (by decide +kernel)
set_option maxRecDepth 20000 in
theorem gX6_group_X2_has : GoodIn wsX6_group (wsV RX6 76 RX2 yX2_has wsX2_has) := goodIn_app (goodIn_of _ (by decide +kernel)) ggX6_group_X2_has
set_option maxRecDepth 20000 in
theorem ggX6_group_X4_colourAt : GoodIn wsX6_group wsX4_colourAt := goodIn_r _ [16, 17, 18, 19, 15, 20, 21, 22, 23, 24, 25, 26, 27, 28, 29, 9, 30, 106, 107, 108, 109, 110, 111, 112, 113, 114] (by decide +kernel) (by decide +kernel)
set_option maxRecDepth 20000 in
theorem gX6_group_X4_colourAt : GoodIn wsX6_group (wsV RX6 123 RX4 yX4_colourAt wsX4_colourAt) := goodIn_app (goodIn_of _ (by decide +kernel)) ggX6_group_X4_colourAt
set_option maxRecDepth 20000 in
theorem ggX6_group_X4_stonesOf : GoodIn wsX6_group wsX4_stonesOf := goodIn_r _ [20, 21, 22, 23, 24, 15, 25, 26, 27, 106, 107, 108, 109, 110, 111, 112, 113, 114] (by decide +kernel) (by decide +kernel)
set_option maxRecDepth 20000 in
theorem gX6_group_X4_stonesOf : GoodIn wsX6_group (wsV RX6 82 RX4 yX4_stonesOf wsX4_stonesOf) := goodIn_app (goodIn_of _ (by decide +kernel)) ggX6_group_X4_stonesOf
set_option maxRecDepth 20000 in
theorem ggX6_group_X2_spread : GoodIn wsX6_group wsX2_spread := goodIn_r _ [35, 36, 37, 38, 9, 39, 40, 41, 42, 43, 100, 101, 102, 103, 104, 105] (by decide +kernel) (by decide +kernel)
set_option maxRecDepth 20000 in
theorem gX6_group_X2_spread : GoodIn wsX6_group (wsV RX6 126 RX2 yX2_spread wsX2_spread) := goodIn_app (goodIn_of _ (by decide +kernel)) ggX6_group_X2_spread
set_option maxRecDepth 20000 in
theorem ggX6_group_J13_bitCount_95d88 : GoodIn wsX6_group wsJ13_bitCount_95d88 := goodIn_r _ [47, 48, 49, 50] (by decide +kernel) (by decide +kernel)
set_option maxRecDepth 20000 in
theorem gX6_group_J13_bitCount_95d88 : GoodIn wsX6_group (va_wsS RX6 130 yJ13_bitCount_95d88 wsJ13_bitCount_95d88) := goodIn_app (goodIn_of _ (by decide +kernel)) ggX6_group_J13_bitCount_95d88
set_option maxRecDepth 20000 in
theorem ggX6_group_X2_beside : GoodIn wsX6_group wsX2_beside := goodIn_r _ [39, 40, 41, 42, 43, 100, 101, 102, 103, 104, 105] (by decide +kernel) (by decide +kernel)
set_option maxRecDepth 20000 in
theorem gX6_group_X2_beside : GoodIn wsX6_group (wsV RX6 136 RX2 yX2_beside wsX2_beside) := goodIn_app (goodIn_of _ (by decide +kernel)) ggX6_group_X2_beside
set_option maxRecDepth 20000 in
theorem ggX6_group_X4_free : GoodIn wsX6_group wsX4_free := goodIn_r _ [55, 56, 57, 21, 58, 22, 23, 24, 15, 25, 26, 27, 106, 107, 108, 109, 110, 111, 112, 113, 114, 100, 101, 102, 103, 104, 105] (by decide +kernel) (by decide +kernel)
set_option maxRecDepth 20000 in
theorem gX6_group_X4_free : GoodIn wsX6_group (wsV RX6 140 RX4 yX4_free wsX4_free) := goodIn_app (goodIn_of _ (by decide +kernel)) ggX6_group_X4_free
set_option maxRecDepth 20000 in
theorem ggX6_group_X2_nth : GoodIn wsX6_group wsX2_nth := goodIn_r _ [62, 11, 63, 29, 9, 30, 100, 101, 102, 103, 104, 105] (by decide +kernel) (by decide +kernel)
set_option maxRecDepth 20000 in
theorem gX6_group_X2_nth : GoodIn wsX6_group (wsV RX6 144 RX2 yX2_nth wsX2_nth) := goodIn_app (goodIn_of _ (by decide +kernel)) ggX6_group_X2_nth
set_option maxRecDepth 20000 in
theorem ggX6_group_X3_vitalRegions : GoodIn wsX6_group wsX3_vitalRegions := goodIn_r _ [68, 69, 70, 71, 72, 73, 9, 74, 36, 37, 38, 39, 40, 41, 42, 43, 75, 33, 34, 35, 76, 77, 78, 67, 79, 80, 81, 115, 100, 101, 102, 103, 104, 105] (by decide +kernel) (by decide +kernel)
set_option maxRecDepth 20000 in
theorem gX6_group_X3_vitalRegions : GoodIn wsX6_group (wsV RX6 148 RX3 yX3_vitalRegions wsX3_vitalRegions) := goodIn_app (goodIn_of _ (by decide +kernel)) ggX6_group_X3_vitalRegions
set_option maxRecDepth 20000 in
theorem ggX6_group_X3_standingStones : GoodIn wsX6_group wsX3_standingStones := goodIn_r _ [85, 69, 86, 80, 87, 88, 89, 67, 90, 70, 71, 72, 73, 9, 74, 36, 37, 38, 39, 40, 41, 42, 43, 75, 33, 34, 35, 91, 65, 66, 68, 76, 77, 78, 79, 81, 92, 115, 100, 101, 102, 103, 104, 105] (by decide +kernel) (by decide +kernel)
set_option maxRecDepth 20000 in
theorem gX6_group_X3_standingStones : GoodIn wsX6_group (wsV RX6 152 RX3 yX3_standingStones wsX3_standingStones) := goodIn_app (goodIn_of _ (by decide +kernel)) ggX6_group_X3_standingStones
theorem dX6_group_0 : decode cX6_group 0 = .ok (.aload_n 0, 1) := by decide +kernel
theorem dX6_group_1 : decode cX6_group 1 = .ok (.getfield 12, 3) := by decide +kernel
theorem dX6_group_4 : decode cX6_group 4 = .ok (.iload_n 1, 1) := by decide +kernel
theorem dX6_group_5 : decode cX6_group 5 = .ok (.invokevirtual 76, 3) := by decide +kernel
theorem dX6_group_8 : decode cX6_group 8 = .ok (.ifCond .eq 12, 3) := by decide +kernel
theorem dX6_group_11 : decode cX6_group 11 = .ok (.iload_n 2, 1) := by decide +kernel
theorem dX6_group_12 : decode cX6_group 12 = .ok (.ifCond .lt 8, 3) := by decide +kernel
theorem dX6_group_15 : decode cX6_group 15 = .ok (.iload_n 2, 1) := by decide +kernel
theorem dX6_group_16 : decode cX6_group 16 = .ok (.iconst 4, 1) := by decide +kernel
theorem dX6_group_17 : decode cX6_group 17 = .ok (.if_icmp .le 6, 3) := by decide +kernel
theorem dX6_group_20 : decode cX6_group 20 = .ok (.bipush (-2), 2) := by decide +kernel
theorem dX6_group_22 : decode cX6_group 22 = .ok (.ireturn, 1) := by decide +kernel
theorem dX6_group_23 : decode cX6_group 23 = .ok (.aload_n 0, 1) := by decide +kernel
theorem dX6_group_24 : decode cX6_group 24 = .ok (.getfield 25, 3) := by decide +kernel
theorem dX6_group_27 : decode cX6_group 27 = .ok (.iload_n 1, 1) := by decide +kernel
theorem dX6_group_28 : decode cX6_group 28 = .ok (.invokevirtual 123, 3) := by decide +kernel
theorem dX6_group_31 : decode cX6_group 31 = .ok (.istore_n 3, 1) := by decide +kernel
theorem dX6_group_32 : decode cX6_group 32 = .ok (.iload_n 3, 1) := by decide +kernel
theorem dX6_group_33 : decode cX6_group 33 = .ok (.ifCond .ne 6, 3) := by decide +kernel
theorem dX6_group_36 : decode cX6_group 36 = .ok (.bipush (-3), 2) := by decide +kernel
theorem dX6_group_38 : decode cX6_group 38 = .ok (.ireturn, 1) := by decide +kernel
theorem dX6_group_39 : decode cX6_group 39 = .ok (.aload_n 0, 1) := by decide +kernel
theorem dX6_group_40 : decode cX6_group 40 = .ok (.getfield 25, 3) := by decide +kernel
theorem dX6_group_43 : decode cX6_group 43 = .ok (.iload_n 3, 1) := by decide +kernel
theorem dX6_group_44 : decode cX6_group 44 = .ok (.invokevirtual 82, 3) := by decide +kernel
theorem dX6_group_47 : decode cX6_group 47 = .ok (.lstore 4, 2) := by decide +kernel
theorem dX6_group_49 : decode cX6_group 49 = .ok (.aload_n 0, 1) := by decide +kernel
theorem dX6_group_50 : decode cX6_group 50 = .ok (.getfield 12, 3) := by decide +kernel
theorem dX6_group_53 : decode cX6_group 53 = .ok (.lconst 1, 1) := by decide +kernel
theorem dX6_group_54 : decode cX6_group 54 = .ok (.iload_n 1, 1) := by decide +kernel
theorem dX6_group_55 : decode cX6_group 55 = .ok (.lshl, 1) := by decide +kernel
theorem dX6_group_56 : decode cX6_group 56 = .ok (.lload 4, 2) := by decide +kernel
theorem dX6_group_58 : decode cX6_group 58 = .ok (.invokevirtual 126, 3) := by decide +kernel
theorem dX6_group_61 : decode cX6_group 61 = .ok (.lstore 6, 2) := by decide +kernel
theorem dX6_group_63 : decode cX6_group 63 = .ok (.iload_n 2, 1) := by decide +kernel
theorem dX6_group_64 : decode cX6_group 64 = .ok (.tableswitch 101 0 3 #[32, 38, 59, 70], 32) := by decide +kernel
theorem dX6_group_96 : decode cX6_group 96 = .ok (.lload 6, 2) := by decide +kernel
theorem dX6_group_98 : decode cX6_group 98 = .ok (.invokestatic 130, 3) := by decide +kernel
theorem dX6_group_101 : decode cX6_group 101 = .ok (.ireturn, 1) := by decide +kernel
theorem dX6_group_102 : decode cX6_group 102 = .ok (.aload_n 0, 1) := by decide +kernel
theorem dX6_group_103 : decode cX6_group 103 = .ok (.getfield 12, 3) := by decide +kernel
theorem dX6_group_106 : decode cX6_group 106 = .ok (.lload 6, 2) := by decide +kernel
theorem dX6_group_108 : decode cX6_group 108 = .ok (.invokevirtual 136, 3) := by decide +kernel
theorem dX6_group_111 : decode cX6_group 111 = .ok (.aload_n 0, 1) := by decide +kernel
theorem dX6_group_112 : decode cX6_group 112 = .ok (.getfield 25, 3) := by decide +kernel
theorem dX6_group_115 : decode cX6_group 115 = .ok (.invokevirtual 140, 3) := by decide +kernel
theorem dX6_group_118 : decode cX6_group 118 = .ok (.land, 1) := by decide +kernel
theorem dX6_group_119 : decode cX6_group 119 = .ok (.invokestatic 130, 3) := by decide +kernel
theorem dX6_group_122 : decode cX6_group 122 = .ok (.ireturn, 1) := by decide +kernel
theorem dX6_group_123 : decode cX6_group 123 = .ok (.aload_n 0, 1) := by decide +kernel
theorem dX6_group_124 : decode cX6_group 124 = .ok (.getfield 12, 3) := by decide +kernel
theorem dX6_group_127 : decode cX6_group 127 = .ok (.lload 6, 2) := by decide +kernel
theorem dX6_group_129 : decode cX6_group 129 = .ok (.iconst 0, 1) := by decide +kernel
theorem dX6_group_130 : decode cX6_group 130 = .ok (.invokevirtual 144, 3) := by decide +kernel
theorem dX6_group_133 : decode cX6_group 133 = .ok (.ireturn, 1) := by decide +kernel
theorem dX6_group_134 : decode cX6_group 134 = .ok (.aload_n 0, 1) := by decide +kernel
theorem dX6_group_135 : decode cX6_group 135 = .ok (.getfield 38, 3) := by decide +kernel
theorem dX6_group_138 : decode cX6_group 138 = .ok (.lload 6, 2) := by decide +kernel
theorem dX6_group_140 : decode cX6_group 140 = .ok (.aload_n 0, 1) := by decide +kernel
theorem dX6_group_141 : decode cX6_group 141 = .ok (.getfield 12, 3) := by decide +kernel
theorem dX6_group_144 : decode cX6_group 144 = .ok (.getfield 88, 3) := by decide +kernel
theorem dX6_group_147 : decode cX6_group 147 = .ok (.lload 4, 2) := by decide +kernel
theorem dX6_group_149 : decode cX6_group 149 = .ok (.ldc2_w 86, 3) := by decide +kernel
theorem dX6_group_152 : decode cX6_group 152 = .ok (.lxor, 1) := by decide +kernel
theorem dX6_group_153 : decode cX6_group 153 = .ok (.land, 1) := by decide +kernel
theorem dX6_group_154 : decode cX6_group 154 = .ok (.aload_n 0, 1) := by decide +kernel
theorem dX6_group_155 : decode cX6_group 155 = .ok (.getfield 25, 3) := by decide +kernel
theorem dX6_group_158 : decode cX6_group 158 = .ok (.invokevirtual 140, 3) := by decide +kernel
theorem dX6_group_161 : decode cX6_group 161 = .ok (.invokevirtual 148, 3) := by decide +kernel
theorem dX6_group_164 : decode cX6_group 164 = .ok (.ireturn, 1) := by decide +kernel
theorem dX6_group_165 : decode cX6_group 165 = .ok (.lload 6, 2) := by decide +kernel
theorem dX6_group_167 : decode cX6_group 167 = .ok (.aload_n 0, 1) := by decide +kernel
theorem dX6_group_168 : decode cX6_group 168 = .ok (.getfield 38, 3) := by decide +kernel
theorem dX6_group_171 : decode cX6_group 171 = .ok (.lload 4, 2) := by decide +kernel
theorem dX6_group_173 : decode cX6_group 173 = .ok (.aload_n 0, 1) := by decide +kernel
theorem dX6_group_174 : decode cX6_group 174 = .ok (.getfield 25, 3) := by decide +kernel
theorem dX6_group_177 : decode cX6_group 177 = .ok (.invokevirtual 140, 3) := by decide +kernel
theorem dX6_group_180 : decode cX6_group 180 = .ok (.invokevirtual 152, 3) := by decide +kernel
theorem dX6_group_183 : decode cX6_group 183 = .ok (.land, 1) := by decide +kernel
theorem dX6_group_184 : decode cX6_group 184 = .ok (.lconst 0, 1) := by decide +kernel
theorem dX6_group_185 : decode cX6_group 185 = .ok (.lcmp, 1) := by decide +kernel
theorem dX6_group_186 : decode cX6_group 186 = .ok (.ifCond .eq 7, 3) := by decide +kernel
theorem dX6_group_189 : decode cX6_group 189 = .ok (.iconst 1, 1) := by decide +kernel
theorem dX6_group_190 : decode cX6_group 190 = .ok (.goto 4, 3) := by decide +kernel
theorem dX6_group_193 : decode cX6_group 193 = .ok (.iconst 0, 1) := by decide +kernel
theorem dX6_group_194 : decode cX6_group 194 = .ok (.ireturn, 1) := by decide +kernel
set_option maxRecDepth 20000 in
theorem ggX6_breath_X2_has : GoodIn wsX6_breath wsX2_has := goodIn_r _ [7, 8, 61, 62, 63, 64, 65, 66] (by decide +kernel) (by decide +kernel)
set_option maxRecDepth 20000 in
theorem gX6_breath_X2_has : GoodIn wsX6_breath (wsV RX6 76 RX2 yX2_has wsX2_has) := goodIn_app (goodIn_of _ (by decide +kernel)) ggX6_breath_X2_has
set_option maxRecDepth 20000 in
theorem ggX6_breath_X4_colourAt : GoodIn wsX6_breath wsX4_colourAt := goodIn_r _ [13, 14, 15, 16, 12, 17, 18, 19, 20, 21, 22, 23, 24, 25, 26, 6, 27, 67, 68, 69, 70, 71, 72, 73, 74, 75] (by decide +kernel) (by decide +kernel)
set_option maxRecDepth 20000 in
theorem gX6_breath_X4_colourAt : GoodIn wsX6_breath (wsV RX6 123 RX4 yX4_colourAt wsX4_colourAt) := goodIn_app (goodIn_of _ (by decide +kernel)) ggX6_breath_X4_colourAt
set_option maxRecDepth 20000 in
theorem ggX6_breath_X4_stonesOf : GoodIn wsX6_breath wsX4_stonesOf := goodIn_r _ [17, 18, 19, 20, 21, 12, 22, 23, 24, 67, 68, 69, 70, 71, 72, 73, 74, 75] (by decide +kernel) (by decide +kernel)
set_option maxRecDepth 20000 in
theorem gX6_breath_X4_stonesOf : GoodIn wsX6_breath (wsV RX6 82 RX4 yX4_stonesOf wsX4_stonesOf) := goodIn_app (goodIn_of _ (by decide +kernel)) ggX6_breath_X4_stonesOf
set_option maxRecDepth 20000 in
theorem ggX6_breath_X2_spread : GoodIn wsX6_breath wsX2_spread := goodIn_r _ [32, 33, 34, 35, 6, 36, 37, 38, 39, 40, 61, 62, 63, 64, 65, 66] (by decide +kernel) (by decide +kernel)
set_option maxRecDepth 20000 in
theorem gX6_breath_X2_spread : GoodIn wsX6_breath (wsV RX6 126 RX2 yX2_spread wsX2_spread) := goodIn_app (goodIn_of _ (by decide +kernel)) ggX6_breath_X2_spread
set_option maxRecDepth 20000 in
theorem ggX6_breath_X2_beside : GoodIn wsX6_breath wsX2_beside := goodIn_r _ [36, 37, 38, 39, 40, 61, 62, 63, 64, 65, 66] (by decide +kernel) (by decide +kernel)
set_option maxRecDepth 20000 in
theorem gX6_breath_X2_beside : GoodIn wsX6_breath (wsV RX6 136 RX2 yX2_beside wsX2_beside) := goodIn_app (goodIn_of _ (by decide +kernel)) ggX6_breath_X2_beside
set_option maxRecDepth 20000 in
theorem ggX6_breath_X4_free : GoodIn wsX6_breath wsX4_free := goodIn_r _ [45, 46, 47, 18, 48, 19, 20, 21, 12, 22, 23, 24, 67, 68, 69, 70, 71, 72, 73, 74, 75, 61, 62, 63, 64, 65, 66] (by decide +kernel) (by decide +kernel)
set_option maxRecDepth 20000 in
theorem gX6_breath_X4_free : GoodIn wsX6_breath (wsV RX6 140 RX4 yX4_free wsX4_free) := goodIn_app (goodIn_of _ (by decide +kernel)) ggX6_breath_X4_free
set_option maxRecDepth 20000 in
theorem ggX6_breath_X2_nth : GoodIn wsX6_breath wsX2_nth := goodIn_r _ [52, 8, 53, 26, 6, 27, 61, 62, 63, 64, 65, 66] (by decide +kernel) (by decide +kernel)
set_option maxRecDepth 20000 in
theorem gX6_breath_X2_nth : GoodIn wsX6_breath (wsV RX6 144 RX2 yX2_nth wsX2_nth) := goodIn_app (goodIn_of _ (by decide +kernel)) ggX6_breath_X2_nth
theorem dX6_breath_0 : decode cX6_breath 0 = .ok (.aload_n 0, 1) := by decide +kernel
theorem dX6_breath_1 : decode cX6_breath 1 = .ok (.getfield 12, 3) := by decide +kernel
theorem dX6_breath_4 : decode cX6_breath 4 = .ok (.iload_n 1, 1) := by decide +kernel
theorem dX6_breath_5 : decode cX6_breath 5 = .ok (.invokevirtual 76, 3) := by decide +kernel
theorem dX6_breath_8 : decode cX6_breath 8 = .ok (.ifCond .ne 6, 3) := by decide +kernel
theorem dX6_breath_11 : decode cX6_breath 11 = .ok (.bipush (-2), 2) := by decide +kernel
theorem dX6_breath_13 : decode cX6_breath 13 = .ok (.ireturn, 1) := by decide +kernel
theorem dX6_breath_14 : decode cX6_breath 14 = .ok (.aload_n 0, 1) := by decide +kernel
theorem dX6_breath_15 : decode cX6_breath 15 = .ok (.getfield 25, 3) := by decide +kernel
theorem dX6_breath_18 : decode cX6_breath 18 = .ok (.iload_n 1, 1) := by decide +kernel
theorem dX6_breath_19 : decode cX6_breath 19 = .ok (.invokevirtual 123, 3) := by decide +kernel
theorem dX6_breath_22 : decode cX6_breath 22 = .ok (.istore_n 3, 1) := by decide +kernel
theorem dX6_breath_23 : decode cX6_breath 23 = .ok (.iload_n 3, 1) := by decide +kernel
theorem dX6_breath_24 : decode cX6_breath 24 = .ok (.ifCond .ne 6, 3) := by decide +kernel
theorem dX6_breath_27 : decode cX6_breath 27 = .ok (.bipush (-3), 2) := by decide +kernel
theorem dX6_breath_29 : decode cX6_breath 29 = .ok (.ireturn, 1) := by decide +kernel
theorem dX6_breath_30 : decode cX6_breath 30 = .ok (.aload_n 0, 1) := by decide +kernel
theorem dX6_breath_31 : decode cX6_breath 31 = .ok (.getfield 12, 3) := by decide +kernel
theorem dX6_breath_34 : decode cX6_breath 34 = .ok (.lconst 1, 1) := by decide +kernel
theorem dX6_breath_35 : decode cX6_breath 35 = .ok (.iload_n 1, 1) := by decide +kernel
theorem dX6_breath_36 : decode cX6_breath 36 = .ok (.lshl, 1) := by decide +kernel
theorem dX6_breath_37 : decode cX6_breath 37 = .ok (.aload_n 0, 1) := by decide +kernel
theorem dX6_breath_38 : decode cX6_breath 38 = .ok (.getfield 25, 3) := by decide +kernel
theorem dX6_breath_41 : decode cX6_breath 41 = .ok (.iload_n 3, 1) := by decide +kernel
theorem dX6_breath_42 : decode cX6_breath 42 = .ok (.invokevirtual 82, 3) := by decide +kernel
theorem dX6_breath_45 : decode cX6_breath 45 = .ok (.invokevirtual 126, 3) := by decide +kernel
theorem dX6_breath_48 : decode cX6_breath 48 = .ok (.lstore 4, 2) := by decide +kernel
theorem dX6_breath_50 : decode cX6_breath 50 = .ok (.aload_n 0, 1) := by decide +kernel
theorem dX6_breath_51 : decode cX6_breath 51 = .ok (.getfield 12, 3) := by decide +kernel
theorem dX6_breath_54 : decode cX6_breath 54 = .ok (.aload_n 0, 1) := by decide +kernel
theorem dX6_breath_55 : decode cX6_breath 55 = .ok (.getfield 12, 3) := by decide +kernel
theorem dX6_breath_58 : decode cX6_breath 58 = .ok (.lload 4, 2) := by decide +kernel
theorem dX6_breath_60 : decode cX6_breath 60 = .ok (.invokevirtual 136, 3) := by decide +kernel
theorem dX6_breath_63 : decode cX6_breath 63 = .ok (.aload_n 0, 1) := by decide +kernel
theorem dX6_breath_64 : decode cX6_breath 64 = .ok (.getfield 25, 3) := by decide +kernel
theorem dX6_breath_67 : decode cX6_breath 67 = .ok (.invokevirtual 140, 3) := by decide +kernel
theorem dX6_breath_70 : decode cX6_breath 70 = .ok (.land, 1) := by decide +kernel
theorem dX6_breath_71 : decode cX6_breath 71 = .ok (.iload_n 2, 1) := by decide +kernel
theorem dX6_breath_72 : decode cX6_breath 72 = .ok (.invokevirtual 144, 3) := by decide +kernel
theorem dX6_breath_75 : decode cX6_breath 75 = .ok (.ireturn, 1) := by decide +kernel
set_option maxRecDepth 20000 in
theorem ggX6_region_X6_isColour : GoodIn wsX6_region wsX6_isColour := goodIn_r _ [9] (by decide +kernel) (by decide +kernel)
set_option maxRecDepth 20000 in
theorem gX6_region_X6_isColour : GoodIn wsX6_region (va_wsS RX6 79 yX6_isColour wsX6_isColour) := goodIn_app (goodIn_of _ (by decide +kernel)) ggX6_region_X6_isColour
set_option maxRecDepth 20000 in
theorem ggX6_region_X2_has : GoodIn wsX6_region wsX2_has := goodIn_r _ [14, 15, 96, 97, 98, 99, 100, 101] (by decide +kernel) (by decide +kernel)
set_option maxRecDepth 20000 in
theorem gX6_region_X2_has : GoodIn wsX6_region (wsV RX6 76 RX2 yX2_has wsX2_has) := goodIn_app (goodIn_of _ (by decide +kernel)) ggX6_region_X2_has
set_option maxRecDepth 20000 in
theorem ggX6_region_X4_colourAt : GoodIn wsX6_region wsX4_colourAt := goodIn_r _ [20, 21, 22, 23, 19, 24, 25, 26, 27, 28, 29, 30, 31, 32, 33, 13, 34, 102, 103, 104, 105, 106, 107, 108, 109, 110] (by decide +kernel) (by decide +kernel)
set_option maxRecDepth 20000 in
theorem gX6_region_X4_colourAt : GoodIn wsX6_region (wsV RX6 123 RX4 yX4_colourAt wsX4_colourAt) := goodIn_app (goodIn_of _ (by decide +kernel)) ggX6_region_X4_colourAt
set_option maxRecDepth 20000 in
theorem ggX6_region_X4_stonesOf : GoodIn wsX6_region wsX4_stonesOf := goodIn_r _ [24, 25, 26, 27, 28, 19, 29, 30, 31, 102, 103, 104, 105, 106, 107, 108, 109, 110] (by decide +kernel) (by decide +kernel)
set_option maxRecDepth 20000 in
theorem gX6_region_X4_stonesOf : GoodIn wsX6_region (wsV RX6 82 RX4 yX4_stonesOf wsX4_stonesOf) := goodIn_app (goodIn_of _ (by decide +kernel)) ggX6_region_X4_stonesOf
set_option maxRecDepth 20000 in
theorem ggX6_region_X2_spread : GoodIn wsX6_region wsX2_spread := goodIn_r _ [39, 40, 41, 42, 13, 43, 44, 45, 46, 47, 96, 97, 98, 99, 100, 101] (by decide +kernel) (by decide +kernel)
set_option maxRecDepth 20000 in
theorem gX6_region_X2_spread : GoodIn wsX6_region (wsV RX6 126 RX2 yX2_spread wsX2_spread) := goodIn_app (goodIn_of _ (by decide +kernel)) ggX6_region_X2_spread
set_option maxRecDepth 20000 in
theorem ggX6_region_J13_bitCount_95d88 : GoodIn wsX6_region wsJ13_bitCount_95d88 := goodIn_r _ [51, 52, 53, 54] (by decide +kernel) (by decide +kernel)
set_option maxRecDepth 20000 in
theorem gX6_region_J13_bitCount_95d88 : GoodIn wsX6_region (va_wsS RX6 130 yJ13_bitCount_95d88 wsJ13_bitCount_95d88) := goodIn_app (goodIn_of _ (by decide +kernel)) ggX6_region_J13_bitCount_95d88
set_option maxRecDepth 20000 in
theorem ggX6_region_X4_free : GoodIn wsX6_region wsX4_free := goodIn_r _ [58, 59, 60, 25, 61, 26, 27, 28, 19, 29, 30, 31, 102, 103, 104, 105, 106, 107, 108, 109, 110, 96, 97, 98, 99, 100, 101] (by decide +kernel) (by decide +kernel)
set_option maxRecDepth 20000 in
theorem gX6_region_X4_free : GoodIn wsX6_region (wsV RX6 140 RX4 yX4_free wsX4_free) := goodIn_app (goodIn_of _ (by decide +kernel)) ggX6_region_X4_free
set_option maxRecDepth 20000 in
theorem ggX6_region_X3_groupsTouched : GoodIn wsX6_region wsX3_groupsTouched := goodIn_r _ [66, 67, 68, 69, 41, 42, 13, 43, 44, 45, 46, 47, 70, 71, 72, 73, 40, 74, 37, 38, 39, 111, 96, 97, 98, 99, 100, 101] (by decide +kernel) (by decide +kernel)
set_option maxRecDepth 20000 in
theorem gX6_region_X3_groupsTouched : GoodIn wsX6_region (wsV RX6 155 RX3 yX3_groupsTouched wsX3_groupsTouched) := goodIn_app (goodIn_of _ (by decide +kernel)) ggX6_region_X3_groupsTouched
set_option maxRecDepth 20000 in
theorem ggX6_region_X3_groupsItIsVitalTo : GoodIn wsX6_region wsX3_groupsItIsVitalTo := goodIn_r _ [78, 67, 68, 70, 71, 72, 13, 73, 40, 41, 42, 43, 44, 45, 46, 47, 74, 37, 38, 39, 79, 80, 81, 65, 82, 83, 69, 111, 96, 97, 98, 99, 100, 101] (by decide +kernel) (by decide +kernel)
set_option maxRecDepth 20000 in
theorem gX6_region_X3_groupsItIsVitalTo : GoodIn wsX6_region (wsV RX6 159 RX3 yX3_groupsItIsVitalTo wsX3_groupsItIsVitalTo) := goodIn_app (goodIn_of _ (by decide +kernel)) ggX6_region_X3_groupsItIsVitalTo
set_option maxRecDepth 20000 in
theorem ggX6_region_X2_nth : GoodIn wsX6_region wsX2_nth := goodIn_r _ [87, 15, 88, 33, 13, 34, 96, 97, 98, 99, 100, 101] (by decide +kernel) (by decide +kernel)
set_option maxRecDepth 20000 in
theorem gX6_region_X2_nth : GoodIn wsX6_region (wsV RX6 144 RX2 yX2_nth wsX2_nth) := goodIn_app (goodIn_of _ (by decide +kernel)) ggX6_region_X2_nth
theorem dX6_region_0 : decode cX6_region 0 = .ok (.iload_n 1, 1) := by decide +kernel
theorem dX6_region_1 : decode cX6_region 1 = .ok (.invokestatic 79, 3) := by decide +kernel
theorem dX6_region_4 : decode cX6_region 4 = .ok (.ifCond .eq 23, 3) := by decide +kernel
theorem dX6_region_7 : decode cX6_region 7 = .ok (.aload_n 0, 1) := by decide +kernel
theorem dX6_region_8 : decode cX6_region 8 = .ok (.getfield 12, 3) := by decide +kernel
theorem dX6_region_11 : decode cX6_region 11 = .ok (.iload_n 2, 1) := by decide +kernel
theorem dX6_region_12 : decode cX6_region 12 = .ok (.invokevirtual 76, 3) := by decide +kernel
theorem dX6_region_15 : decode cX6_region 15 = .ok (.ifCond .eq 12, 3) := by decide +kernel
theorem dX6_region_18 : decode cX6_region 18 = .ok (.iload_n 3, 1) := by decide +kernel
theorem dX6_region_19 : decode cX6_region 19 = .ok (.ifCond .lt 8, 3) := by decide +kernel
theorem dX6_region_22 : decode cX6_region 22 = .ok (.iload_n 3, 1) := by decide +kernel
theorem dX6_region_23 : decode cX6_region 23 = .ok (.iconst 4, 1) := by decide +kernel
theorem dX6_region_24 : decode cX6_region 24 = .ok (.if_icmp .le 6, 3) := by decide +kernel
theorem dX6_region_27 : decode cX6_region 27 = .ok (.bipush (-2), 2) := by decide +kernel
theorem dX6_region_29 : decode cX6_region 29 = .ok (.ireturn, 1) := by decide +kernel
theorem dX6_region_30 : decode cX6_region 30 = .ok (.aload_n 0, 1) := by decide +kernel
theorem dX6_region_31 : decode cX6_region 31 = .ok (.getfield 25, 3) := by decide +kernel
theorem dX6_region_34 : decode cX6_region 34 = .ok (.iload_n 2, 1) := by decide +kernel
theorem dX6_region_35 : decode cX6_region 35 = .ok (.invokevirtual 123, 3) := by decide +kernel
theorem dX6_region_38 : decode cX6_region 38 = .ok (.iload_n 1, 1) := by decide +kernel
theorem dX6_region_39 : decode cX6_region 39 = .ok (.if_icmp .ne 6, 3) := by decide +kernel
theorem dX6_region_42 : decode cX6_region 42 = .ok (.bipush (-3), 2) := by decide +kernel
theorem dX6_region_44 : decode cX6_region 44 = .ok (.ireturn, 1) := by decide +kernel
theorem dX6_region_45 : decode cX6_region 45 = .ok (.aload_n 0, 1) := by decide +kernel
theorem dX6_region_46 : decode cX6_region 46 = .ok (.getfield 25, 3) := by decide +kernel
theorem dX6_region_49 : decode cX6_region 49 = .ok (.iload_n 1, 1) := by decide +kernel
theorem dX6_region_50 : decode cX6_region 50 = .ok (.invokevirtual 82, 3) := by decide +kernel
theorem dX6_region_53 : decode cX6_region 53 = .ok (.lstore 4, 2) := by decide +kernel
theorem dX6_region_55 : decode cX6_region 55 = .ok (.aload_n 0, 1) := by decide +kernel
theorem dX6_region_56 : decode cX6_region 56 = .ok (.getfield 12, 3) := by decide +kernel
theorem dX6_region_59 : decode cX6_region 59 = .ok (.lconst 1, 1) := by decide +kernel
theorem dX6_region_60 : decode cX6_region 60 = .ok (.iload_n 2, 1) := by decide +kernel
theorem dX6_region_61 : decode cX6_region 61 = .ok (.lshl, 1) := by decide +kernel
theorem dX6_region_62 : decode cX6_region 62 = .ok (.aload_n 0, 1) := by decide +kernel
theorem dX6_region_63 : decode cX6_region 63 = .ok (.getfield 12, 3) := by decide +kernel
theorem dX6_region_66 : decode cX6_region 66 = .ok (.getfield 88, 3) := by decide +kernel
theorem dX6_region_69 : decode cX6_region 69 = .ok (.lload 4, 2) := by decide +kernel
theorem dX6_region_71 : decode cX6_region 71 = .ok (.ldc2_w 86, 3) := by decide +kernel
theorem dX6_region_74 : decode cX6_region 74 = .ok (.lxor, 1) := by decide +kernel
theorem dX6_region_75 : decode cX6_region 75 = .ok (.land, 1) := by decide +kernel
theorem dX6_region_76 : decode cX6_region 76 = .ok (.invokevirtual 126, 3) := by decide +kernel
theorem dX6_region_79 : decode cX6_region 79 = .ok (.lstore 6, 2) := by decide +kernel
theorem dX6_region_81 : decode cX6_region 81 = .ok (.iload_n 3, 1) := by decide +kernel
theorem dX6_region_82 : decode cX6_region 82 = .ok (.tableswitch 81 0 3 #[30, 36, 50, 62], 30) := by decide +kernel
theorem dX6_region_112 : decode cX6_region 112 = .ok (.lload 6, 2) := by decide +kernel
theorem dX6_region_114 : decode cX6_region 114 = .ok (.invokestatic 130, 3) := by decide +kernel
theorem dX6_region_117 : decode cX6_region 117 = .ok (.ireturn, 1) := by decide +kernel
theorem dX6_region_118 : decode cX6_region 118 = .ok (.lload 6, 2) := by decide +kernel
theorem dX6_region_120 : decode cX6_region 120 = .ok (.aload_n 0, 1) := by decide +kernel
theorem dX6_region_121 : decode cX6_region 121 = .ok (.getfield 25, 3) := by decide +kernel
theorem dX6_region_124 : decode cX6_region 124 = .ok (.invokevirtual 140, 3) := by decide +kernel
theorem dX6_region_127 : decode cX6_region 127 = .ok (.land, 1) := by decide +kernel
theorem dX6_region_128 : decode cX6_region 128 = .ok (.invokestatic 130, 3) := by decide +kernel
theorem dX6_region_131 : decode cX6_region 131 = .ok (.ireturn, 1) := by decide +kernel
theorem dX6_region_132 : decode cX6_region 132 = .ok (.aload_n 0, 1) := by decide +kernel
theorem dX6_region_133 : decode cX6_region 133 = .ok (.getfield 38, 3) := by decide +kernel
theorem dX6_region_136 : decode cX6_region 136 = .ok (.lload 6, 2) := by decide +kernel
theorem dX6_region_138 : decode cX6_region 138 = .ok (.lload 4, 2) := by decide +kernel
theorem dX6_region_140 : decode cX6_region 140 = .ok (.invokevirtual 155, 3) := by decide +kernel
theorem dX6_region_143 : decode cX6_region 143 = .ok (.ireturn, 1) := by decide +kernel
theorem dX6_region_144 : decode cX6_region 144 = .ok (.aload_n 0, 1) := by decide +kernel
theorem dX6_region_145 : decode cX6_region 145 = .ok (.getfield 38, 3) := by decide +kernel
theorem dX6_region_148 : decode cX6_region 148 = .ok (.lload 6, 2) := by decide +kernel
theorem dX6_region_150 : decode cX6_region 150 = .ok (.lload 4, 2) := by decide +kernel
theorem dX6_region_152 : decode cX6_region 152 = .ok (.aload_n 0, 1) := by decide +kernel
theorem dX6_region_153 : decode cX6_region 153 = .ok (.getfield 25, 3) := by decide +kernel
theorem dX6_region_156 : decode cX6_region 156 = .ok (.invokevirtual 140, 3) := by decide +kernel
theorem dX6_region_159 : decode cX6_region 159 = .ok (.invokevirtual 159, 3) := by decide +kernel
theorem dX6_region_162 : decode cX6_region 162 = .ok (.ireturn, 1) := by decide +kernel
theorem dX6_region_163 : decode cX6_region 163 = .ok (.aload_n 0, 1) := by decide +kernel
theorem dX6_region_164 : decode cX6_region 164 = .ok (.getfield 12, 3) := by decide +kernel
theorem dX6_region_167 : decode cX6_region 167 = .ok (.lload 6, 2) := by decide +kernel
theorem dX6_region_169 : decode cX6_region 169 = .ok (.iconst 0, 1) := by decide +kernel
theorem dX6_region_170 : decode cX6_region 170 = .ok (.invokevirtual 144, 3) := by decide +kernel
theorem dX6_region_173 : decode cX6_region 173 = .ok (.ireturn, 1) := by decide +kernel
set_option maxRecDepth 20000 in
theorem ggX6_standing_X6_isColour : GoodIn wsX6_standing wsX6_isColour := goodIn_r _ [6] (by decide +kernel) (by decide +kernel)
set_option maxRecDepth 20000 in
theorem gX6_standing_X6_isColour : GoodIn wsX6_standing (va_wsS RX6 79 yX6_isColour wsX6_isColour) := goodIn_app (goodIn_of _ (by decide +kernel)) ggX6_standing_X6_isColour
set_option maxRecDepth 20000 in
theorem ggX6_standing_X4_stonesOf : GoodIn wsX6_standing wsX4_stonesOf := goodIn_r _ [11, 12, 13, 14, 15, 10, 16, 17, 18, 80, 81, 82, 83, 84, 85, 86, 87, 88] (by decide +kernel) (by decide +kernel)
set_option maxRecDepth 20000 in
theorem gX6_standing_X4_stonesOf : GoodIn wsX6_standing (wsV RX6 82 RX4 yX4_stonesOf wsX4_stonesOf) := goodIn_app (goodIn_of _ (by decide +kernel)) ggX6_standing_X4_stonesOf
set_option maxRecDepth 20000 in
theorem ggX6_standing_X4_free : GoodIn wsX6_standing wsX4_free := goodIn_r _ [22, 23, 24, 12, 25, 13, 14, 15, 10, 16, 17, 18, 80, 81, 82, 83, 84, 85, 86, 87, 88, 89, 90, 91, 92, 93, 94] (by decide +kernel) (by decide +kernel)
set_option maxRecDepth 20000 in
theorem gX6_standing_X4_free : GoodIn wsX6_standing (wsV RX6 140 RX4 yX4_free wsX4_free) := goodIn_app (goodIn_of _ (by decide +kernel)) ggX6_standing_X4_free
set_option maxRecDepth 20000 in
theorem ggX6_standing_X3_standingStones : GoodIn wsX6_standing wsX3_standingStones := goodIn_r _ [30, 31, 32, 33, 34, 35, 36, 29, 37, 38, 39, 40, 41, 42, 43, 44, 45, 46, 47, 48, 49, 50, 51, 52, 53, 54, 55, 56, 57, 58, 59, 60, 61, 62, 63, 64, 65, 95, 89, 90, 91, 92, 93, 94] (by decide +kernel) (by decide +kernel)
set_option maxRecDepth 20000 in
theorem gX6_standing_X3_standingStones : GoodIn wsX6_standing (wsV RX6 152 RX3 yX3_standingStones wsX3_standingStones) := goodIn_app (goodIn_of _ (by decide +kernel)) ggX6_standing_X3_standingStones
set_option maxRecDepth 20000 in
theorem ggX6_standing_J13_bitCount_95d88 : GoodIn wsX6_standing wsJ13_bitCount_95d88 := goodIn_r _ [69, 70, 71, 72] (by decide +kernel) (by decide +kernel)
set_option maxRecDepth 20000 in
theorem gX6_standing_J13_bitCount_95d88 : GoodIn wsX6_standing (va_wsS RX6 130 yJ13_bitCount_95d88 wsJ13_bitCount_95d88) := goodIn_app (goodIn_of _ (by decide +kernel)) ggX6_standing_J13_bitCount_95d88
theorem dX6_standing_0 : decode cX6_standing 0 = .ok (.iload_n 1, 1) := by decide +kernel
theorem dX6_standing_1 : decode cX6_standing 1 = .ok (.invokestatic 79, 3) := by decide +kernel
theorem dX6_standing_4 : decode cX6_standing 4 = .ok (.ifCond .eq 31, 3) := by decide +kernel
theorem dX6_standing_7 : decode cX6_standing 7 = .ok (.aload_n 0, 1) := by decide +kernel
theorem dX6_standing_8 : decode cX6_standing 8 = .ok (.getfield 38, 3) := by decide +kernel
theorem dX6_standing_11 : decode cX6_standing 11 = .ok (.aload_n 0, 1) := by decide +kernel
theorem dX6_standing_12 : decode cX6_standing 12 = .ok (.getfield 25, 3) := by decide +kernel
theorem dX6_standing_15 : decode cX6_standing 15 = .ok (.iload_n 1, 1) := by decide +kernel
theorem dX6_standing_16 : decode cX6_standing 16 = .ok (.invokevirtual 82, 3) := by decide +kernel
theorem dX6_standing_19 : decode cX6_standing 19 = .ok (.aload_n 0, 1) := by decide +kernel
theorem dX6_standing_20 : decode cX6_standing 20 = .ok (.getfield 25, 3) := by decide +kernel
theorem dX6_standing_23 : decode cX6_standing 23 = .ok (.invokevirtual 140, 3) := by decide +kernel
theorem dX6_standing_26 : decode cX6_standing 26 = .ok (.invokevirtual 152, 3) := by decide +kernel
theorem dX6_standing_29 : decode cX6_standing 29 = .ok (.invokestatic 130, 3) := by decide +kernel
theorem dX6_standing_32 : decode cX6_standing 32 = .ok (.goto 5, 3) := by decide +kernel
theorem dX6_standing_35 : decode cX6_standing 35 = .ok (.bipush (-2), 2) := by decide +kernel
theorem dX6_standing_37 : decode cX6_standing 37 = .ok (.ireturn, 1) := by decide +kernel
set_option maxRecDepth 20000 in
theorem ggX6_chase_X2_has : GoodIn wsX6_chase wsX2_has := goodIn_r _ [8, 9, 160, 161, 162, 163, 164, 165] (by decide +kernel) (by decide +kernel)
set_option maxRecDepth 20000 in
theorem gX6_chase_X2_has : GoodIn wsX6_chase (wsV RX6 76 RX2 yX2_has wsX2_has) := goodIn_app (goodIn_of _ (by decide +kernel)) ggX6_chase_X2_has
set_option maxRecDepth 20000 in
theorem ggX6_chase_X4_colourAt : GoodIn wsX6_chase wsX4_colourAt := goodIn_r _ [14, 15, 16, 17, 13, 18, 19, 20, 21, 22, 23, 24, 25, 26, 27, 7, 28, 166, 167, 168, 169, 170, 171, 172, 173, 174] (by decide +kernel) (by decide +kernel)
set_option maxRecDepth 20000 in
theorem gX6_chase_X4_colourAt : GoodIn wsX6_chase (wsV RX6 123 RX4 yX4_colourAt wsX4_colourAt) := goodIn_app (goodIn_of _ (by decide +kernel)) ggX6_chase_X4_colourAt
set_option maxRecDepth 20000 in
theorem ggX6_chase_X0_read : GoodIn wsX6_chase wsX0_read := goodIn_r _ [33, 34, 35, 36, 37, 38, 39, 11, 12, 13, 14, 15, 16, 17, 18, 19, 20, 21, 22, 23, 24, 25, 26, 27, 7, 28, 40, 41, 42, 43, 44, 45, 46, 47, 48, 49, 50, 51, 52, 53, 54, 55, 56, 32, 57, 58, 59, 60, 61, 62, 63, 64, 65, 66, 67, 68, 69, 70, 71, 72, 73, 74, 75, 76, 77, 78, 79, 80, 81, 82, 83, 84, 85, 86, 87, 88, 89, 90, 91, 92, 93, 94, 95, 96, 97, 98, 99, 100, 5, 6, 8, 9, 101, 102, 103, 104, 105, 106, 107, 108, 109, 110, 111, 112, 113, 114, 115, 116, 117, 118, 119, 120, 121, 122, 123, 124, 125, 126, 127, 128, 129, 130, 131, 132, 133, 134, 135, 136, 137, 138, 139, 140, 141, 142, 143, 144, 145, 146, 147, 148, 149, 150, 151, 152, 175, 176, 177, 178, 179, 180, 166, 167, 168, 169, 170, 171, 172, 173, 174, 160, 161, 162, 163, 164, 165] (by decide +kernel) (by decide +kernel)
set_option maxRecDepth 20000 in
theorem gX6_chase_X0_read : GoodIn wsX6_chase (wsV RX6 162 RX0 yX0_read wsX0_read) := goodIn_app (goodIn_of _ (by decide +kernel)) ggX6_chase_X0_read
theorem dX6_chase_0 : decode cX6_chase 0 = .ok (.aload_n 0, 1) := by decide +kernel
theorem dX6_chase_1 : decode cX6_chase 1 = .ok (.getfield 12, 3) := by decide +kernel
theorem dX6_chase_4 : decode cX6_chase 4 = .ok (.iload_n 1, 1) := by decide +kernel
theorem dX6_chase_5 : decode cX6_chase 5 = .ok (.invokevirtual 76, 3) := by decide +kernel
theorem dX6_chase_8 : decode cX6_chase 8 = .ok (.ifCond .eq 14, 3) := by decide +kernel
theorem dX6_chase_11 : decode cX6_chase 11 = .ok (.iload_n 2, 1) := by decide +kernel
theorem dX6_chase_12 : decode cX6_chase 12 = .ok (.iconst 1, 1) := by decide +kernel
theorem dX6_chase_13 : decode cX6_chase 13 = .ok (.if_icmp .lt 9, 3) := by decide +kernel
theorem dX6_chase_16 : decode cX6_chase 16 = .ok (.iload_n 2, 1) := by decide +kernel
theorem dX6_chase_17 : decode cX6_chase 17 = .ok (.bipush 20, 2) := by decide +kernel
theorem dX6_chase_19 : decode cX6_chase 19 = .ok (.if_icmp .le 6, 3) := by decide +kernel
theorem dX6_chase_22 : decode cX6_chase 22 = .ok (.bipush (-2), 2) := by decide +kernel
theorem dX6_chase_24 : decode cX6_chase 24 = .ok (.ireturn, 1) := by decide +kernel
theorem dX6_chase_25 : decode cX6_chase 25 = .ok (.aload_n 0, 1) := by decide +kernel
theorem dX6_chase_26 : decode cX6_chase 26 = .ok (.getfield 25, 3) := by decide +kernel
theorem dX6_chase_29 : decode cX6_chase 29 = .ok (.iload_n 1, 1) := by decide +kernel
theorem dX6_chase_30 : decode cX6_chase 30 = .ok (.invokevirtual 123, 3) := by decide +kernel
theorem dX6_chase_33 : decode cX6_chase 33 = .ok (.ifCond .ne 8, 3) := by decide +kernel
theorem dX6_chase_36 : decode cX6_chase 36 = .ok (.bipush (-3), 2) := by decide +kernel
theorem dX6_chase_38 : decode cX6_chase 38 = .ok (.goto 16, 3) := by decide +kernel
theorem dX6_chase_41 : decode cX6_chase 41 = .ok (.aload_n 0, 1) := by decide +kernel
theorem dX6_chase_42 : decode cX6_chase 42 = .ok (.getfield 54, 3) := by decide +kernel
theorem dX6_chase_45 : decode cX6_chase 45 = .ok (.aload_n 0, 1) := by decide +kernel
theorem dX6_chase_46 : decode cX6_chase 46 = .ok (.getfield 25, 3) := by decide +kernel
theorem dX6_chase_49 : decode cX6_chase 49 = .ok (.iload_n 1, 1) := by decide +kernel
theorem dX6_chase_50 : decode cX6_chase 50 = .ok (.iload_n 2, 1) := by decide +kernel
theorem dX6_chase_51 : decode cX6_chase 51 = .ok (.invokevirtual 162, 3) := by decide +kernel
theorem dX6_chase_54 : decode cX6_chase 54 = .ok (.ireturn, 1) := by decide +kernel
set_option maxRecDepth 20000 in
theorem ggX6_fight_X2_has : GoodIn wsX6_fight wsX2_has := goodIn_r _ [10, 11, 136, 137, 138, 139, 140, 141] (by decide +kernel) (by decide +kernel)
set_option maxRecDepth 20000 in
theorem gX6_fight_X2_has : GoodIn wsX6_fight (wsV RX6 76 RX2 yX2_has wsX2_has) := goodIn_app (goodIn_of _ (by decide +kernel)) ggX6_fight_X2_has
set_option maxRecDepth 20000 in
theorem ggX6_fight_X4_colourAt : GoodIn wsX6_fight wsX4_colourAt := goodIn_r _ [16, 17, 18, 19, 15, 20, 21, 22, 23, 24, 25, 26, 27, 28, 29, 9, 30, 142, 143, 144, 145, 146, 147, 148, 149, 150] (by decide +kernel) (by decide +kernel)
set_option maxRecDepth 20000 in
theorem gX6_fight_X4_colourAt : GoodIn wsX6_fight (wsV RX6 123 RX4 yX4_colourAt wsX4_colourAt) := goodIn_app (goodIn_of _ (by decide +kernel)) ggX6_fight_X4_colourAt
set_option maxRecDepth 20000 in
theorem ggX6_fight_X1_read : GoodIn wsX6_fight wsX1_read := goodIn_r _ [35, 36, 37, 38, 39, 40, 41, 42, 13, 14, 15, 16, 17, 18, 19, 20, 21, 22, 23, 24, 25, 26, 27, 28, 29, 9, 30, 43, 44, 45, 34, 46, 47, 48, 49, 50, 51, 52, 53, 54, 55, 56, 57, 58, 59, 60, 61, 62, 63, 64, 65, 66, 67, 68, 69, 70, 71, 7, 8, 10, 11, 72, 73, 74, 75, 76, 77, 78, 79, 80, 81, 82, 83, 84, 85, 86, 87, 88, 89, 90, 91, 92, 93, 94, 95, 96, 97, 98, 99, 100, 101, 102, 103, 104, 105, 106, 107, 108, 109, 110, 111, 112, 113, 114, 115, 116, 117, 118, 119, 120, 121, 130, 131, 132, 133, 134, 135, 151, 142, 143, 144, 145, 146, 147, 148, 149, 150, 136, 137, 138, 139, 140, 141] (by decide +kernel) (by decide +kernel)
set_option maxRecDepth 20000 in
theorem gX6_fight_X1_read : GoodIn wsX6_fight (wsV RX6 166 RX1 yX1_read wsX1_read) := goodIn_app (goodIn_of _ (by decide +kernel)) ggX6_fight_X1_read
set_option maxRecDepth 20000 in
theorem ggX6_fight_X4_mover : GoodIn wsX6_fight wsX4_mover := goodIn_r _ [52, 21, 53, 54, 55, 15, 56, 57, 142, 143, 144, 145, 146, 147, 148, 149, 150] (by decide +kernel) (by decide +kernel)
set_option maxRecDepth 20000 in
theorem gX6_fight_X4_mover : GoodIn wsX6_fight (wsV RX6 106 RX4 yX4_mover wsX4_mover) := goodIn_app (goodIn_of _ (by decide +kernel)) ggX6_fight_X4_mover
theorem dX6_fight_0 : decode cX6_fight 0 = .ok (.aload_n 0, 1) := by decide +kernel
theorem dX6_fight_1 : decode cX6_fight 1 = .ok (.getfield 12, 3) := by decide +kernel
theorem dX6_fight_4 : decode cX6_fight 4 = .ok (.iload_n 1, 1) := by decide +kernel
theorem dX6_fight_5 : decode cX6_fight 5 = .ok (.invokevirtual 76, 3) := by decide +kernel
theorem dX6_fight_8 : decode cX6_fight 8 = .ok (.ifCond .eq 14, 3) := by decide +kernel
theorem dX6_fight_11 : decode cX6_fight 11 = .ok (.iload_n 2, 1) := by decide +kernel
theorem dX6_fight_12 : decode cX6_fight 12 = .ok (.iconst 1, 1) := by decide +kernel
theorem dX6_fight_13 : decode cX6_fight 13 = .ok (.if_icmp .lt 9, 3) := by decide +kernel
theorem dX6_fight_16 : decode cX6_fight 16 = .ok (.iload_n 2, 1) := by decide +kernel
theorem dX6_fight_17 : decode cX6_fight 17 = .ok (.bipush 6, 2) := by decide +kernel
theorem dX6_fight_19 : decode cX6_fight 19 = .ok (.if_icmp .le 6, 3) := by decide +kernel
theorem dX6_fight_22 : decode cX6_fight 22 = .ok (.bipush (-2), 2) := by decide +kernel
theorem dX6_fight_24 : decode cX6_fight 24 = .ok (.ireturn, 1) := by decide +kernel
theorem dX6_fight_25 : decode cX6_fight 25 = .ok (.aload_n 0, 1) := by decide +kernel
theorem dX6_fight_26 : decode cX6_fight 26 = .ok (.getfield 25, 3) := by decide +kernel
theorem dX6_fight_29 : decode cX6_fight 29 = .ok (.iload_n 1, 1) := by decide +kernel
theorem dX6_fight_30 : decode cX6_fight 30 = .ok (.invokevirtual 123, 3) := by decide +kernel
theorem dX6_fight_33 : decode cX6_fight 33 = .ok (.istore_n 3, 1) := by decide +kernel
theorem dX6_fight_34 : decode cX6_fight 34 = .ok (.iload_n 3, 1) := by decide +kernel
theorem dX6_fight_35 : decode cX6_fight 35 = .ok (.ifCond .ne 6, 3) := by decide +kernel
theorem dX6_fight_38 : decode cX6_fight 38 = .ok (.bipush (-3), 2) := by decide +kernel
theorem dX6_fight_40 : decode cX6_fight 40 = .ok (.ireturn, 1) := by decide +kernel
theorem dX6_fight_41 : decode cX6_fight 41 = .ok (.aload_n 0, 1) := by decide +kernel
theorem dX6_fight_42 : decode cX6_fight 42 = .ok (.getfield 61, 3) := by decide +kernel
theorem dX6_fight_45 : decode cX6_fight 45 = .ok (.iload_n 1, 1) := by decide +kernel
theorem dX6_fight_46 : decode cX6_fight 46 = .ok (.iload_n 2, 1) := by decide +kernel
theorem dX6_fight_47 : decode cX6_fight 47 = .ok (.invokevirtual 166, 3) := by decide +kernel
theorem dX6_fight_50 : decode cX6_fight 50 = .ok (.istore 4, 2) := by decide +kernel
theorem dX6_fight_52 : decode cX6_fight 52 = .ok (.iload 4, 2) := by decide +kernel
theorem dX6_fight_54 : decode cX6_fight 54 = .ok (.iconst 1, 1) := by decide +kernel
theorem dX6_fight_55 : decode cX6_fight 55 = .ok (.if_icmp .ne 25, 3) := by decide +kernel
theorem dX6_fight_58 : decode cX6_fight 58 = .ok (.iload_n 3, 1) := by decide +kernel
theorem dX6_fight_59 : decode cX6_fight 59 = .ok (.aload_n 0, 1) := by decide +kernel
theorem dX6_fight_60 : decode cX6_fight 60 = .ok (.getfield 25, 3) := by decide +kernel
theorem dX6_fight_63 : decode cX6_fight 63 = .ok (.invokevirtual 106, 3) := by decide +kernel
theorem dX6_fight_66 : decode cX6_fight 66 = .ok (.if_icmp .eq 14, 3) := by decide +kernel
theorem dX6_fight_69 : decode cX6_fight 69 = .ok (.aload_n 0, 1) := by decide +kernel
theorem dX6_fight_70 : decode cX6_fight 70 = .ok (.aload_n 0, 1) := by decide +kernel
theorem dX6_fight_71 : decode cX6_fight 71 = .ok (.getfield 61, 3) := by decide +kernel
theorem dX6_fight_74 : decode cX6_fight 74 = .ok (.getfield 168, 3) := by decide +kernel
theorem dX6_fight_77 : decode cX6_fight 77 = .ok (.putfield 65, 3) := by decide +kernel
theorem dX6_fight_80 : decode cX6_fight 80 = .ok (.iload 4, 2) := by decide +kernel
theorem dX6_fight_82 : decode cX6_fight 82 = .ok (.ireturn, 1) := by decide +kernel
theorem dX6_tries_0 : decode cX6_tries 0 = .ok (.aload_n 0, 1) := by decide +kernel
theorem dX6_tries_1 : decode cX6_tries 1 = .ok (.getfield 45, 3) := by decide +kernel
theorem dX6_tries_4 : decode cX6_tries 4 = .ok (.getfield 171, 3) := by decide +kernel
theorem dX6_tries_7 : decode cX6_tries 7 = .ok (.ireturn, 1) := by decide +kernel
theorem dX6_first_0 : decode cX6_first 0 = .ok (.aload_n 0, 1) := by decide +kernel
theorem dX6_first_1 : decode cX6_first 1 = .ok (.getfield 65, 3) := by decide +kernel
theorem dX6_first_4 : decode cX6_first 4 = .ok (.ireturn, 1) := by decide +kernel
set_option maxRecDepth 20000 in
theorem ggX6_points_X6_isColour : GoodIn wsX6_points wsX6_isColour := goodIn_r _ [6] (by decide +kernel) (by decide +kernel)
set_option maxRecDepth 20000 in
theorem gX6_points_X6_isColour : GoodIn wsX6_points (va_wsS RX6 79 yX6_isColour wsX6_isColour) := goodIn_app (goodIn_of _ (by decide +kernel)) ggX6_points_X6_isColour
set_option maxRecDepth 20000 in
theorem ggX6_points_X4_stonesOf : GoodIn wsX6_points wsX4_stonesOf := goodIn_r _ [11, 12, 13, 14, 15, 10, 16, 17, 18, 69, 70, 71, 72, 73, 74, 75, 76, 77] (by decide +kernel) (by decide +kernel)
set_option maxRecDepth 20000 in
theorem gX6_points_X4_stonesOf : GoodIn wsX6_points (wsV RX6 82 RX4 yX4_stonesOf wsX4_stonesOf) := goodIn_app (goodIn_of _ (by decide +kernel)) ggX6_points_X4_stonesOf
set_option maxRecDepth 20000 in
theorem ggX6_points_X6_other : GoodIn wsX6_points wsX6_other := goodIn_r _ [21] (by decide +kernel) (by decide +kernel)
set_option maxRecDepth 20000 in
theorem gX6_points_X6_other : GoodIn wsX6_points (va_wsS RX6 174 yX6_other wsX6_other) := goodIn_app (goodIn_of _ (by decide +kernel)) ggX6_points_X6_other
set_option maxRecDepth 20000 in
theorem ggX6_points_X2_freeOf : GoodIn wsX6_points wsX2_freeOf := goodIn_r _ [26, 27, 28, 29, 30, 31, 32, 25, 33, 34, 35, 36, 37, 38, 39, 40, 41, 42, 43, 44, 78, 79, 80, 81, 82, 83] (by decide +kernel) (by decide +kernel)
set_option maxRecDepth 20000 in
theorem gX6_points_X2_freeOf : GoodIn wsX6_points (wsV RX6 177 RX2 yX2_freeOf wsX2_freeOf) := goodIn_app (goodIn_of _ (by decide +kernel)) ggX6_points_X2_freeOf
set_option maxRecDepth 20000 in
theorem ggX6_points_J13_bitCount_95d88 : GoodIn wsX6_points wsJ13_bitCount_95d88 := goodIn_r _ [48, 49, 50, 51] (by decide +kernel) (by decide +kernel)
set_option maxRecDepth 20000 in
theorem gX6_points_J13_bitCount_95d88 : GoodIn wsX6_points (va_wsS RX6 130 yJ13_bitCount_95d88 wsJ13_bitCount_95d88) := goodIn_app (goodIn_of _ (by decide +kernel)) ggX6_points_J13_bitCount_95d88
set_option maxRecDepth 20000 in
theorem ggX6_points_X4_taken : GoodIn wsX6_points wsX4_taken := goodIn_r _ [55, 12, 56, 57, 58, 10, 59, 60, 13, 14, 15, 16, 17, 18, 61, 46, 47, 48, 49, 50, 51, 69, 70, 71, 72, 73, 74, 75, 76, 77] (by decide +kernel) (by decide +kernel)
set_option maxRecDepth 20000 in
theorem gX6_points_X4_taken : GoodIn wsX6_points (wsV RX6 180 RX4 yX4_taken wsX4_taken) := goodIn_app (goodIn_of _ (by decide +kernel)) ggX6_points_X4_taken
theorem dX6_points_0 : decode cX6_points 0 = .ok (.iload_n 1, 1) := by decide +kernel
theorem dX6_points_1 : decode cX6_points 1 = .ok (.invokestatic 79, 3) := by decide +kernel
theorem dX6_points_4 : decode cX6_points 4 = .ok (.ifCond .eq 12, 3) := by decide +kernel
theorem dX6_points_7 : decode cX6_points 7 = .ok (.iload_n 2, 1) := by decide +kernel
theorem dX6_points_8 : decode cX6_points 8 = .ok (.ifCond .lt 8, 3) := by decide +kernel
theorem dX6_points_11 : decode cX6_points 11 = .ok (.iload_n 2, 1) := by decide +kernel
theorem dX6_points_12 : decode cX6_points 12 = .ok (.iconst 1, 1) := by decide +kernel
theorem dX6_points_13 : decode cX6_points 13 = .ok (.if_icmp .le 6, 3) := by decide +kernel
theorem dX6_points_16 : decode cX6_points 16 = .ok (.bipush (-2), 2) := by decide +kernel
theorem dX6_points_18 : decode cX6_points 18 = .ok (.ireturn, 1) := by decide +kernel
theorem dX6_points_19 : decode cX6_points 19 = .ok (.aload_n 0, 1) := by decide +kernel
theorem dX6_points_20 : decode cX6_points 20 = .ok (.getfield 25, 3) := by decide +kernel
theorem dX6_points_23 : decode cX6_points 23 = .ok (.iload_n 1, 1) := by decide +kernel
theorem dX6_points_24 : decode cX6_points 24 = .ok (.invokevirtual 82, 3) := by decide +kernel
theorem dX6_points_27 : decode cX6_points 27 = .ok (.lstore_n 3, 1) := by decide +kernel
theorem dX6_points_28 : decode cX6_points 28 = .ok (.aload_n 0, 1) := by decide +kernel
theorem dX6_points_29 : decode cX6_points 29 = .ok (.getfield 25, 3) := by decide +kernel
theorem dX6_points_32 : decode cX6_points 32 = .ok (.iload_n 1, 1) := by decide +kernel
theorem dX6_points_33 : decode cX6_points 33 = .ok (.invokestatic 174, 3) := by decide +kernel
theorem dX6_points_36 : decode cX6_points 36 = .ok (.invokevirtual 82, 3) := by decide +kernel
theorem dX6_points_39 : decode cX6_points 39 = .ok (.lstore 5, 2) := by decide +kernel
theorem dX6_points_41 : decode cX6_points 41 = .ok (.aload_n 0, 1) := by decide +kernel
theorem dX6_points_42 : decode cX6_points 42 = .ok (.getfield 12, 3) := by decide +kernel
theorem dX6_points_45 : decode cX6_points 45 = .ok (.lload_n 3, 1) := by decide +kernel
theorem dX6_points_46 : decode cX6_points 46 = .ok (.lload 5, 2) := by decide +kernel
theorem dX6_points_48 : decode cX6_points 48 = .ok (.invokevirtual 177, 3) := by decide +kernel
theorem dX6_points_51 : decode cX6_points 51 = .ok (.invokestatic 130, 3) := by decide +kernel
theorem dX6_points_54 : decode cX6_points 54 = .ok (.istore 7, 2) := by decide +kernel
theorem dX6_points_56 : decode cX6_points 56 = .ok (.iload 7, 2) := by decide +kernel
theorem dX6_points_58 : decode cX6_points 58 = .ok (.iload_n 2, 1) := by decide +kernel
theorem dX6_points_59 : decode cX6_points 59 = .ok (.ifCond .ne 17, 3) := by decide +kernel
theorem dX6_points_62 : decode cX6_points 62 = .ok (.aload_n 0, 1) := by decide +kernel
theorem dX6_points_63 : decode cX6_points 63 = .ok (.getfield 25, 3) := by decide +kernel
theorem dX6_points_66 : decode cX6_points 66 = .ok (.iload_n 1, 1) := by decide +kernel
theorem dX6_points_67 : decode cX6_points 67 = .ok (.invokestatic 174, 3) := by decide +kernel
theorem dX6_points_70 : decode cX6_points 70 = .ok (.invokevirtual 180, 3) := by decide +kernel
theorem dX6_points_73 : decode cX6_points 73 = .ok (.goto 7, 3) := by decide +kernel
theorem dX6_points_76 : decode cX6_points 76 = .ok (.lload_n 3, 1) := by decide +kernel
theorem dX6_points_77 : decode cX6_points 77 = .ok (.invokestatic 130, 3) := by decide +kernel
theorem dX6_points_80 : decode cX6_points 80 = .ok (.iadd, 1) := by decide +kernel
theorem dX6_points_81 : decode cX6_points 81 = .ok (.ireturn, 1) := by decide +kernel
set_option maxRecDepth 20000 in
theorem ggX6_count_X4_mover : GoodIn wsX6_count wsX4_mover := goodIn_r _ [11, 12, 13, 14, 15, 10, 16, 17, 63, 64, 65, 66, 67, 68, 69, 70, 71] (by decide +kernel) (by decide +kernel)
set_option maxRecDepth 20000 in
theorem gX6_count_X4_mover : GoodIn wsX6_count (wsV RX6 106 RX4 yX4_mover wsX4_mover) := goodIn_app (goodIn_of _ (by decide +kernel)) ggX6_count_X4_mover
set_option maxRecDepth 20000 in
theorem ggX6_count_X4_stonesOf : GoodIn wsX6_count wsX4_stonesOf := goodIn_r _ [21, 12, 22, 23, 24, 10, 25, 26, 27, 63, 64, 65, 66, 67, 68, 69, 70, 71] (by decide +kernel) (by decide +kernel)
set_option maxRecDepth 20000 in
theorem gX6_count_X4_stonesOf : GoodIn wsX6_count (wsV RX6 82 RX4 yX4_stonesOf wsX4_stonesOf) := goodIn_app (goodIn_of _ (by decide +kernel)) ggX6_count_X4_stonesOf
set_option maxRecDepth 20000 in
theorem ggX6_count_J13_bitCount_95d88 : GoodIn wsX6_count wsJ13_bitCount_95d88 := goodIn_r _ [31, 32, 33, 34] (by decide +kernel) (by decide +kernel)
set_option maxRecDepth 20000 in
theorem gX6_count_J13_bitCount_95d88 : GoodIn wsX6_count (va_wsS RX6 130 yJ13_bitCount_95d88 wsJ13_bitCount_95d88) := goodIn_app (goodIn_of _ (by decide +kernel)) ggX6_count_J13_bitCount_95d88
set_option maxRecDepth 20000 in
theorem ggX6_count_X4_taken : GoodIn wsX6_count wsX4_taken := goodIn_r _ [38, 12, 39, 40, 41, 10, 42, 43, 22, 23, 24, 25, 26, 27, 44, 29, 30, 31, 32, 33, 34, 63, 64, 65, 66, 67, 68, 69, 70, 71] (by decide +kernel) (by decide +kernel)
set_option maxRecDepth 20000 in
theorem gX6_count_X4_taken : GoodIn wsX6_count (wsV RX6 180 RX4 yX4_taken wsX4_taken) := goodIn_app (goodIn_of _ (by decide +kernel)) ggX6_count_X4_taken
set_option maxRecDepth 20000 in
theorem ggX6_count_X4_passesNow : GoodIn wsX6_count wsX4_passesNow := goodIn_r _ [48, 12, 49, 50, 51, 52, 53, 10, 54, 55, 63, 64, 65, 66, 67, 68, 69, 70, 71, 72, 73, 74, 75, 76, 77] (by decide +kernel) (by decide +kernel)
set_option maxRecDepth 20000 in
theorem gX6_count_X4_passesNow : GoodIn wsX6_count (wsV RX6 117 RX4 yX4_passesNow wsX4_passesNow) := goodIn_app (goodIn_of _ (by decide +kernel)) ggX6_count_X4_passesNow
theorem dX6_count_0 : decode cX6_count 0 = .ok (.iload_n 1, 1) := by decide +kernel
theorem dX6_count_1 : decode cX6_count 1 = .ok (.ifCond .lt 9, 3) := by decide +kernel
theorem dX6_count_4 : decode cX6_count 4 = .ok (.iload_n 1, 1) := by decide +kernel
theorem dX6_count_5 : decode cX6_count 5 = .ok (.bipush 9, 2) := by decide +kernel
theorem dX6_count_7 : decode cX6_count 7 = .ok (.if_icmp .le 6, 3) := by decide +kernel
theorem dX6_count_10 : decode cX6_count 10 = .ok (.bipush (-2), 2) := by decide +kernel
theorem dX6_count_12 : decode cX6_count 12 = .ok (.ireturn, 1) := by decide +kernel
theorem dX6_count_13 : decode cX6_count 13 = .ok (.iload_n 1, 1) := by decide +kernel
theorem dX6_count_14 : decode cX6_count 14 = .ok (.tableswitch 132 0 8 #[50, 58, 66, 78, 90, 99, 108, 116, 124], 50) := by decide +kernel
theorem dX6_count_64 : decode cX6_count 64 = .ok (.aload_n 0, 1) := by decide +kernel
theorem dX6_count_65 : decode cX6_count 65 = .ok (.getfield 25, 3) := by decide +kernel
theorem dX6_count_68 : decode cX6_count 68 = .ok (.getfield 73, 3) := by decide +kernel
theorem dX6_count_71 : decode cX6_count 71 = .ok (.ireturn, 1) := by decide +kernel
theorem dX6_count_72 : decode cX6_count 72 = .ok (.aload_n 0, 1) := by decide +kernel
theorem dX6_count_73 : decode cX6_count 73 = .ok (.getfield 25, 3) := by decide +kernel
theorem dX6_count_76 : decode cX6_count 76 = .ok (.invokevirtual 106, 3) := by decide +kernel
theorem dX6_count_79 : decode cX6_count 79 = .ok (.ireturn, 1) := by decide +kernel
theorem dX6_count_80 : decode cX6_count 80 = .ok (.aload_n 0, 1) := by decide +kernel
theorem dX6_count_81 : decode cX6_count 81 = .ok (.getfield 25, 3) := by decide +kernel
theorem dX6_count_84 : decode cX6_count 84 = .ok (.iconst 1, 1) := by decide +kernel
theorem dX6_count_85 : decode cX6_count 85 = .ok (.invokevirtual 82, 3) := by decide +kernel
theorem dX6_count_88 : decode cX6_count 88 = .ok (.invokestatic 130, 3) := by decide +kernel
theorem dX6_count_91 : decode cX6_count 91 = .ok (.ireturn, 1) := by decide +kernel
theorem dX6_count_92 : decode cX6_count 92 = .ok (.aload_n 0, 1) := by decide +kernel
theorem dX6_count_93 : decode cX6_count 93 = .ok (.getfield 25, 3) := by decide +kernel
theorem dX6_count_96 : decode cX6_count 96 = .ok (.iconst 2, 1) := by decide +kernel
theorem dX6_count_97 : decode cX6_count 97 = .ok (.invokevirtual 82, 3) := by decide +kernel
theorem dX6_count_100 : decode cX6_count 100 = .ok (.invokestatic 130, 3) := by decide +kernel
theorem dX6_count_103 : decode cX6_count 103 = .ok (.ireturn, 1) := by decide +kernel
theorem dX6_count_104 : decode cX6_count 104 = .ok (.aload_n 0, 1) := by decide +kernel
theorem dX6_count_105 : decode cX6_count 105 = .ok (.getfield 25, 3) := by decide +kernel
theorem dX6_count_108 : decode cX6_count 108 = .ok (.iconst 1, 1) := by decide +kernel
theorem dX6_count_109 : decode cX6_count 109 = .ok (.invokevirtual 180, 3) := by decide +kernel
theorem dX6_count_112 : decode cX6_count 112 = .ok (.ireturn, 1) := by decide +kernel
theorem dX6_count_113 : decode cX6_count 113 = .ok (.aload_n 0, 1) := by decide +kernel
theorem dX6_count_114 : decode cX6_count 114 = .ok (.getfield 25, 3) := by decide +kernel
theorem dX6_count_117 : decode cX6_count 117 = .ok (.iconst 2, 1) := by decide +kernel
theorem dX6_count_118 : decode cX6_count 118 = .ok (.invokevirtual 180, 3) := by decide +kernel
theorem dX6_count_121 : decode cX6_count 121 = .ok (.ireturn, 1) := by decide +kernel
theorem dX6_count_122 : decode cX6_count 122 = .ok (.aload_n 0, 1) := by decide +kernel
theorem dX6_count_123 : decode cX6_count 123 = .ok (.getfield 25, 3) := by decide +kernel
theorem dX6_count_126 : decode cX6_count 126 = .ok (.invokevirtual 117, 3) := by decide +kernel
theorem dX6_count_129 : decode cX6_count 129 = .ok (.ireturn, 1) := by decide +kernel
theorem dX6_count_130 : decode cX6_count 130 = .ok (.aload_n 0, 1) := by decide +kernel
theorem dX6_count_131 : decode cX6_count 131 = .ok (.getfield 12, 3) := by decide +kernel
theorem dX6_count_134 : decode cX6_count 134 = .ok (.getfield 183, 3) := by decide +kernel
theorem dX6_count_137 : decode cX6_count 137 = .ok (.ireturn, 1) := by decide +kernel
theorem dX6_count_138 : decode cX6_count 138 = .ok (.aload_n 0, 1) := by decide +kernel
theorem dX6_count_139 : decode cX6_count 139 = .ok (.getfield 12, 3) := by decide +kernel
theorem dX6_count_142 : decode cX6_count 142 = .ok (.getfield 186, 3) := by decide +kernel
theorem dX6_count_145 : decode cX6_count 145 = .ok (.ireturn, 1) := by decide +kernel
theorem dX6_count_146 : decode cX6_count 146 = .ok (.aload_n 0, 1) := by decide +kernel
theorem dX6_count_147 : decode cX6_count 147 = .ok (.getfield 25, 3) := by decide +kernel
theorem dX6_count_150 : decode cX6_count 150 = .ok (.getfield 96, 3) := by decide +kernel
theorem dX6_count_153 : decode cX6_count 153 = .ok (.ireturn, 1) := by decide +kernel
set_option maxRecDepth 20000 in
theorem ggX6_act_X4_actAt : GoodIn wsX6_act wsX4_actAt := goodIn_r _ [6, 7, 8, 16, 17, 18, 19, 20, 21, 22, 23, 24] (by decide +kernel) (by decide +kernel)
set_option maxRecDepth 20000 in
theorem gX6_act_X4_actAt : GoodIn wsX6_act (wsV RX6 189 RX4 yX4_actAt wsX4_actAt) := goodIn_app (goodIn_of _ (by decide +kernel)) ggX6_act_X4_actAt
theorem dX6_act_0 : decode cX6_act 0 = .ok (.aload_n 0, 1) := by decide +kernel
theorem dX6_act_1 : decode cX6_act 1 = .ok (.getfield 25, 3) := by decide +kernel
theorem dX6_act_4 : decode cX6_act 4 = .ok (.iload_n 1, 1) := by decide +kernel
theorem dX6_act_5 : decode cX6_act 5 = .ok (.invokevirtual 189, 3) := by decide +kernel
theorem dX6_act_8 : decode cX6_act 8 = .ok (.ireturn, 1) := by decide +kernel
set_option maxRecDepth 20000 in
theorem ggX6_digest_X6_count : GoodIn wsX6_digest wsX6_count := goodIn_r _ [11, 5, 6, 3, 12, 13, 14, 15, 16, 17, 18, 19, 20, 21, 22, 23, 24, 25, 26, 27, 28, 29, 30, 31, 32, 33, 34, 35, 36, 37, 38, 39, 40, 41, 42, 43, 44, 45, 46, 47, 48, 49, 50, 51, 52, 53, 54, 55, 56, 57, 58, 59, 60, 61, 62, 63, 74, 75, 76, 77, 78, 79, 80, 87, 88, 89, 90, 91, 92, 93, 94, 95, 81, 82, 83, 84, 85, 86] (by decide +kernel) (by decide +kernel)
set_option maxRecDepth 20000 in
theorem gX6_digest_X6_count : GoodIn wsX6_digest (wsV RX6 196 RX6 yX6_count wsX6_count) := goodIn_app (goodIn_of _ (by decide +kernel)) ggX6_digest_X6_count
set_option maxRecDepth 20000 in
theorem ggX6_digest_X4_colourAt : GoodIn wsX6_digest wsX4_colourAt := goodIn_r _ [67, 68, 27, 28, 18, 29, 20, 30, 31, 32, 33, 34, 35, 69, 70, 71, 72, 87, 88, 89, 90, 91, 92, 93, 94, 95] (by decide +kernel) (by decide +kernel)
set_option maxRecDepth 20000 in
theorem gX6_digest_X4_colourAt : GoodIn wsX6_digest (wsV RX6 123 RX4 yX4_colourAt wsX4_colourAt) := goodIn_app (goodIn_of _ (by decide +kernel)) ggX6_digest_X4_colourAt
set_option maxRecDepth 20000 in
theorem ggX6_digest_X4_actAt : GoodIn wsX6_digest wsX4_actAt := goodIn_r _ [62, 20, 63, 87, 88, 89, 90, 91, 92, 93, 94, 95] (by decide +kernel) (by decide +kernel)
set_option maxRecDepth 20000 in
theorem gX6_digest_X4_actAt : GoodIn wsX6_digest (wsV RX6 189 RX4 yX4_actAt wsX4_actAt) := goodIn_app (goodIn_of _ (by decide +kernel)) ggX6_digest_X4_actAt
theorem dX6_digest_0 : decode cX6_digest 0 = .ok (.ldc2_w 192, 3) := by decide +kernel
theorem dX6_digest_3 : decode cX6_digest 3 = .ok (.lstore_n 1, 1) := by decide +kernel
theorem dX6_digest_4 : decode cX6_digest 4 = .ok (.iconst 0, 1) := by decide +kernel
theorem dX6_digest_5 : decode cX6_digest 5 = .ok (.istore_n 3, 1) := by decide +kernel
theorem dX6_digest_6 : decode cX6_digest 6 = .ok (.iload_n 3, 1) := by decide +kernel
theorem dX6_digest_7 : decode cX6_digest 7 = .ok (.bipush 9, 2) := by decide +kernel
theorem dX6_digest_9 : decode cX6_digest 9 = .ok (.if_icmp .gt 22, 3) := by decide +kernel
theorem dX6_digest_12 : decode cX6_digest 12 = .ok (.ldc2_w 194, 3) := by decide +kernel
theorem dX6_digest_15 : decode cX6_digest 15 = .ok (.lload_n 1, 1) := by decide +kernel
theorem dX6_digest_16 : decode cX6_digest 16 = .ok (.lmul, 1) := by decide +kernel
theorem dX6_digest_17 : decode cX6_digest 17 = .ok (.aload_n 0, 1) := by decide +kernel
theorem dX6_digest_18 : decode cX6_digest 18 = .ok (.iload_n 3, 1) := by decide +kernel
theorem dX6_digest_19 : decode cX6_digest 19 = .ok (.invokevirtual 196, 3) := by decide +kernel
theorem dX6_digest_22 : decode cX6_digest 22 = .ok (.i2l, 1) := by decide +kernel
theorem dX6_digest_23 : decode cX6_digest 23 = .ok (.ladd, 1) := by decide +kernel
theorem dX6_digest_24 : decode cX6_digest 24 = .ok (.lstore_n 1, 1) := by decide +kernel
theorem dX6_digest_25 : decode cX6_digest 25 = .ok (.iinc 3 1, 3) := by decide +kernel
theorem dX6_digest_28 : decode cX6_digest 28 = .ok (.goto (-22), 3) := by decide +kernel
theorem dX6_digest_31 : decode cX6_digest 31 = .ok (.iconst 0, 1) := by decide +kernel
theorem dX6_digest_32 : decode cX6_digest 32 = .ok (.istore_n 3, 1) := by decide +kernel
theorem dX6_digest_33 : decode cX6_digest 33 = .ok (.iload_n 3, 1) := by decide +kernel
theorem dX6_digest_34 : decode cX6_digest 34 = .ok (.aload_n 0, 1) := by decide +kernel
theorem dX6_digest_35 : decode cX6_digest 35 = .ok (.getfield 12, 3) := by decide +kernel
theorem dX6_digest_38 : decode cX6_digest 38 = .ok (.getfield 114, 3) := by decide +kernel
theorem dX6_digest_41 : decode cX6_digest 41 = .ok (.if_icmp .ge 25, 3) := by decide +kernel
theorem dX6_digest_44 : decode cX6_digest 44 = .ok (.ldc2_w 194, 3) := by decide +kernel
theorem dX6_digest_47 : decode cX6_digest 47 = .ok (.lload_n 1, 1) := by decide +kernel
theorem dX6_digest_48 : decode cX6_digest 48 = .ok (.lmul, 1) := by decide +kernel
theorem dX6_digest_49 : decode cX6_digest 49 = .ok (.aload_n 0, 1) := by decide +kernel
theorem dX6_digest_50 : decode cX6_digest 50 = .ok (.getfield 25, 3) := by decide +kernel
theorem dX6_digest_53 : decode cX6_digest 53 = .ok (.iload_n 3, 1) := by decide +kernel
theorem dX6_digest_54 : decode cX6_digest 54 = .ok (.invokevirtual 123, 3) := by decide +kernel
theorem dX6_digest_57 : decode cX6_digest 57 = .ok (.i2l, 1) := by decide +kernel
theorem dX6_digest_58 : decode cX6_digest 58 = .ok (.ladd, 1) := by decide +kernel
theorem dX6_digest_59 : decode cX6_digest 59 = .ok (.lstore_n 1, 1) := by decide +kernel
theorem dX6_digest_60 : decode cX6_digest 60 = .ok (.iinc 3 1, 3) := by decide +kernel
theorem dX6_digest_63 : decode cX6_digest 63 = .ok (.goto (-30), 3) := by decide +kernel
theorem dX6_digest_66 : decode cX6_digest 66 = .ok (.iconst 0, 1) := by decide +kernel
theorem dX6_digest_67 : decode cX6_digest 67 = .ok (.istore_n 3, 1) := by decide +kernel
theorem dX6_digest_68 : decode cX6_digest 68 = .ok (.iload_n 3, 1) := by decide +kernel
theorem dX6_digest_69 : decode cX6_digest 69 = .ok (.aload_n 0, 1) := by decide +kernel
theorem dX6_digest_70 : decode cX6_digest 70 = .ok (.getfield 25, 3) := by decide +kernel
theorem dX6_digest_73 : decode cX6_digest 73 = .ok (.getfield 73, 3) := by decide +kernel
theorem dX6_digest_76 : decode cX6_digest 76 = .ok (.if_icmp .ge 25, 3) := by decide +kernel
theorem dX6_digest_79 : decode cX6_digest 79 = .ok (.ldc2_w 194, 3) := by decide +kernel
theorem dX6_digest_82 : decode cX6_digest 82 = .ok (.lload_n 1, 1) := by decide +kernel
theorem dX6_digest_83 : decode cX6_digest 83 = .ok (.lmul, 1) := by decide +kernel
theorem dX6_digest_84 : decode cX6_digest 84 = .ok (.aload_n 0, 1) := by decide +kernel
theorem dX6_digest_85 : decode cX6_digest 85 = .ok (.getfield 25, 3) := by decide +kernel
theorem dX6_digest_88 : decode cX6_digest 88 = .ok (.iload_n 3, 1) := by decide +kernel
theorem dX6_digest_89 : decode cX6_digest 89 = .ok (.invokevirtual 189, 3) := by decide +kernel
theorem dX6_digest_92 : decode cX6_digest 92 = .ok (.i2l, 1) := by decide +kernel
theorem dX6_digest_93 : decode cX6_digest 93 = .ok (.ladd, 1) := by decide +kernel
theorem dX6_digest_94 : decode cX6_digest 94 = .ok (.lstore_n 1, 1) := by decide +kernel
theorem dX6_digest_95 : decode cX6_digest 95 = .ok (.iinc 3 1, 3) := by decide +kernel
theorem dX6_digest_98 : decode cX6_digest 98 = .ok (.goto (-30), 3) := by decide +kernel
theorem dX6_digest_101 : decode cX6_digest 101 = .ok (.lload_n 1, 1) := by decide +kernel
theorem dX6_digest_102 : decode cX6_digest 102 = .ok (.lreturn, 1) := by decide +kernel
theorem dX6_isSide_0 : decode cX6_isSide 0 = .ok (.iload_n 0, 1) := by decide +kernel
theorem dX6_isSide_1 : decode cX6_isSide 1 = .ok (.iconst 2, 1) := by decide +kernel
theorem dX6_isSide_2 : decode cX6_isSide 2 = .ok (.if_icmp .lt 13, 3) := by decide +kernel
theorem dX6_isSide_5 : decode cX6_isSide 5 = .ok (.iload_n 0, 1) := by decide +kernel
theorem dX6_isSide_6 : decode cX6_isSide 6 = .ok (.bipush 7, 2) := by decide +kernel
theorem dX6_isSide_8 : decode cX6_isSide 8 = .ok (.if_icmp .gt 7, 3) := by decide +kernel
theorem dX6_isSide_11 : decode cX6_isSide 11 = .ok (.iconst 1, 1) := by decide +kernel
theorem dX6_isSide_12 : decode cX6_isSide 12 = .ok (.goto 4, 3) := by decide +kernel
theorem dX6_isSide_15 : decode cX6_isSide 15 = .ok (.iconst 0, 1) := by decide +kernel
theorem dX6_isSide_16 : decode cX6_isSide 16 = .ok (.ireturn, 1) := by decide +kernel
theorem dX6_isColour_0 : decode cX6_isColour 0 = .ok (.iload_n 0, 1) := by decide +kernel
theorem dX6_isColour_1 : decode cX6_isColour 1 = .ok (.iconst 1, 1) := by decide +kernel
theorem dX6_isColour_2 : decode cX6_isColour 2 = .ok (.if_icmp .eq 8, 3) := by decide +kernel
theorem dX6_isColour_5 : decode cX6_isColour 5 = .ok (.iload_n 0, 1) := by decide +kernel
theorem dX6_isColour_6 : decode cX6_isColour 6 = .ok (.iconst 2, 1) := by decide +kernel
theorem dX6_isColour_7 : decode cX6_isColour 7 = .ok (.if_icmp .ne 7, 3) := by decide +kernel
theorem dX6_isColour_10 : decode cX6_isColour 10 = .ok (.iconst 1, 1) := by decide +kernel
theorem dX6_isColour_11 : decode cX6_isColour 11 = .ok (.goto 4, 3) := by decide +kernel
theorem dX6_isColour_14 : decode cX6_isColour 14 = .ok (.iconst 0, 1) := by decide +kernel
theorem dX6_isColour_15 : decode cX6_isColour 15 = .ok (.ireturn, 1) := by decide +kernel
theorem dX6_other_0 : decode cX6_other 0 = .ok (.iconst 3, 1) := by decide +kernel
theorem dX6_other_1 : decode cX6_other 1 = .ok (.iload_n 0, 1) := by decide +kernel
theorem dX6_other_2 : decode cX6_other 2 = .ok (.isub, 1) := by decide +kernel
theorem dX6_other_3 : decode cX6_other 3 = .ok (.ireturn, 1) := by decide +kernel
theorem dX7_in_0 : decode cX7_in 0 = .ok (.iload_n 0, 1) := by decide +kernel
theorem dX7_in_1 : decode cX7_in 1 = .ok (.iload_n 1, 1) := by decide +kernel
theorem dX7_in_2 : decode cX7_in 2 = .ok (.if_icmp .lt 12, 3) := by decide +kernel
theorem dX7_in_5 : decode cX7_in 5 = .ok (.iload_n 0, 1) := by decide +kernel
theorem dX7_in_6 : decode cX7_in 6 = .ok (.iload_n 2, 1) := by decide +kernel
theorem dX7_in_7 : decode cX7_in 7 = .ok (.if_icmp .gt 7, 3) := by decide +kernel
theorem dX7_in_10 : decode cX7_in 10 = .ok (.iconst 1, 1) := by decide +kernel
theorem dX7_in_11 : decode cX7_in 11 = .ok (.goto 4, 3) := by decide +kernel
theorem dX7_in_14 : decode cX7_in 14 = .ok (.iconst 0, 1) := by decide +kernel
theorem dX7_in_15 : decode cX7_in 15 = .ok (.ireturn, 1) := by decide +kernel
set_option maxRecDepth 20000 in
theorem ggX7_init_X7_lays : GoodIn wsX7_init wsX7_lays := goodIn_r _ [33, 4, 5, 34, 35, 10, 11, 12, 13, 14, 7, 36, 37, 38, 39, 40, 41, 42, 43, 44, 45, 46, 47, 48, 49, 50, 51, 52, 53, 54, 55, 56, 57, 58, 59, 60, 61, 62, 63, 64] (by decide +kernel) (by decide +kernel)
set_option maxRecDepth 20000 in
theorem gX7_init_X7_lays : GoodIn wsX7_init (wsV RX7 79 RX7 yX7_lays wsX7_lays) := goodIn_app (goodIn_of _ (by decide +kernel)) ggX7_init_X7_lays
theorem dX7_init_0 : decode cX7_init 0 = .ok (.aload_n 0, 1) := by decide +kernel
theorem dX7_init_1 : decode cX7_init 1 = .ok (.invokespecial 1, 3) := by decide +kernel
theorem dX7_init_4 : decode cX7_init 4 = .ok (.aload_n 0, 1) := by decide +kernel
theorem dX7_init_5 : decode cX7_init 5 = .ok (.iconst 5, 1) := by decide +kernel
theorem dX7_init_6 : decode cX7_init 6 = .ok (.putfield 7, 3) := by decide +kernel
theorem dX7_init_9 : decode cX7_init 9 = .ok (.aload_n 0, 1) := by decide +kernel
theorem dX7_init_10 : decode cX7_init 10 = .ok (.iconst 5, 1) := by decide +kernel
theorem dX7_init_11 : decode cX7_init 11 = .ok (.putfield 13, 3) := by decide +kernel
theorem dX7_init_14 : decode cX7_init 14 = .ok (.aload_n 0, 1) := by decide +kernel
theorem dX7_init_15 : decode cX7_init 15 = .ok (.bipush 49, 2) := by decide +kernel
theorem dX7_init_17 : decode cX7_init 17 = .ok (.newarray .long, 2) := by decide +kernel
theorem dX7_init_19 : decode cX7_init 19 = .ok (.putfield 16, 3) := by decide +kernel
theorem dX7_init_22 : decode cX7_init 22 = .ok (.aload_n 0, 1) := by decide +kernel
theorem dX7_init_23 : decode cX7_init 23 = .ok (.bipush 120, 2) := by decide +kernel
theorem dX7_init_25 : decode cX7_init 25 = .ok (.newarray .int, 2) := by decide +kernel
theorem dX7_init_27 : decode cX7_init 27 = .ok (.putfield 20, 3) := by decide +kernel
theorem dX7_init_30 : decode cX7_init 30 = .ok (.aload_n 0, 1) := by decide +kernel
theorem dX7_init_31 : decode cX7_init 31 = .ok (.sipush 130, 3) := by decide +kernel
theorem dX7_init_34 : decode cX7_init 34 = .ok (.newarray .long, 2) := by decide +kernel
theorem dX7_init_36 : decode cX7_init 36 = .ok (.putfield 24, 3) := by decide +kernel
theorem dX7_init_39 : decode cX7_init 39 = .ok (.aload_n 0, 1) := by decide +kernel
theorem dX7_init_40 : decode cX7_init 40 = .ok (.sipush 130, 3) := by decide +kernel
theorem dX7_init_43 : decode cX7_init 43 = .ok (.newarray .long, 2) := by decide +kernel
theorem dX7_init_45 : decode cX7_init 45 = .ok (.putfield 27, 3) := by decide +kernel
theorem dX7_init_48 : decode cX7_init 48 = .ok (.aload_n 0, 1) := by decide +kernel
theorem dX7_init_49 : decode cX7_init 49 = .ok (.sipush 130, 3) := by decide +kernel
theorem dX7_init_52 : decode cX7_init 52 = .ok (.newarray .int, 2) := by decide +kernel
theorem dX7_init_54 : decode cX7_init 54 = .ok (.putfield 30, 3) := by decide +kernel
theorem dX7_init_57 : decode cX7_init 57 = .ok (.aload_n 0, 1) := by decide +kernel
theorem dX7_init_58 : decode cX7_init 58 = .ok (.bipush 121, 2) := by decide +kernel
theorem dX7_init_60 : decode cX7_init 60 = .ok (.newarray .int, 2) := by decide +kernel
theorem dX7_init_62 : decode cX7_init 62 = .ok (.putfield 33, 3) := by decide +kernel
theorem dX7_init_65 : decode cX7_init 65 = .ok (.aload_n 0, 1) := by decide +kernel
theorem dX7_init_66 : decode cX7_init 66 = .ok (.bipush 121, 2) := by decide +kernel
theorem dX7_init_68 : decode cX7_init 68 = .ok (.newarray .int, 2) := by decide +kernel
theorem dX7_init_70 : decode cX7_init 70 = .ok (.putfield 36, 3) := by decide +kernel
theorem dX7_init_73 : decode cX7_init 73 = .ok (.aload_n 0, 1) := by decide +kernel
theorem dX7_init_74 : decode cX7_init 74 = .ok (.bipush 21, 2) := by decide +kernel
theorem dX7_init_76 : decode cX7_init 76 = .ok (.newarray .long, 2) := by decide +kernel
theorem dX7_init_78 : decode cX7_init 78 = .ok (.putfield 39, 3) := by decide +kernel
theorem dX7_init_81 : decode cX7_init 81 = .ok (.aload_n 0, 1) := by decide +kernel
theorem dX7_init_82 : decode cX7_init 82 = .ok (.bipush 21, 2) := by decide +kernel
theorem dX7_init_84 : decode cX7_init 84 = .ok (.newarray .long, 2) := by decide +kernel
theorem dX7_init_86 : decode cX7_init 86 = .ok (.putfield 42, 3) := by decide +kernel
theorem dX7_init_89 : decode cX7_init 89 = .ok (.aload_n 0, 1) := by decide +kernel
theorem dX7_init_90 : decode cX7_init 90 = .ok (.bipush 21, 2) := by decide +kernel
theorem dX7_init_92 : decode cX7_init 92 = .ok (.newarray .long, 2) := by decide +kernel
theorem dX7_init_94 : decode cX7_init 94 = .ok (.putfield 45, 3) := by decide +kernel
theorem dX7_init_97 : decode cX7_init 97 = .ok (.aload_n 0, 1) := by decide +kernel
theorem dX7_init_98 : decode cX7_init 98 = .ok (.bipush 21, 2) := by decide +kernel
theorem dX7_init_100 : decode cX7_init 100 = .ok (.newarray .long, 2) := by decide +kernel
theorem dX7_init_102 : decode cX7_init 102 = .ok (.putfield 48, 3) := by decide +kernel
theorem dX7_init_105 : decode cX7_init 105 = .ok (.aload_n 0, 1) := by decide +kernel
theorem dX7_init_106 : decode cX7_init 106 = .ok (.bipush 21, 2) := by decide +kernel
theorem dX7_init_108 : decode cX7_init 108 = .ok (.newarray .boolean, 2) := by decide +kernel
theorem dX7_init_110 : decode cX7_init 110 = .ok (.putfield 51, 3) := by decide +kernel
theorem dX7_init_113 : decode cX7_init 113 = .ok (.aload_n 0, 1) := by decide +kernel
theorem dX7_init_114 : decode cX7_init 114 = .ok (.bipush 21, 2) := by decide +kernel
theorem dX7_init_116 : decode cX7_init 116 = .ok (.newarray .long, 2) := by decide +kernel
theorem dX7_init_118 : decode cX7_init 118 = .ok (.putfield 55, 3) := by decide +kernel
theorem dX7_init_121 : decode cX7_init 121 = .ok (.aload_n 0, 1) := by decide +kernel
theorem dX7_init_122 : decode cX7_init 122 = .ok (.bipush 21, 2) := by decide +kernel
theorem dX7_init_124 : decode cX7_init 124 = .ok (.newarray .long, 2) := by decide +kernel
theorem dX7_init_126 : decode cX7_init 126 = .ok (.putfield 58, 3) := by decide +kernel
theorem dX7_init_129 : decode cX7_init 129 = .ok (.aload_n 0, 1) := by decide +kernel
theorem dX7_init_130 : decode cX7_init 130 = .ok (.bipush 21, 2) := by decide +kernel
theorem dX7_init_132 : decode cX7_init 132 = .ok (.newarray .long, 2) := by decide +kernel
theorem dX7_init_134 : decode cX7_init 134 = .ok (.putfield 61, 3) := by decide +kernel
theorem dX7_init_137 : decode cX7_init 137 = .ok (.aload_n 0, 1) := by decide +kernel
theorem dX7_init_138 : decode cX7_init 138 = .ok (.bipush 21, 2) := by decide +kernel
theorem dX7_init_140 : decode cX7_init 140 = .ok (.newarray .long, 2) := by decide +kernel
theorem dX7_init_142 : decode cX7_init 142 = .ok (.putfield 64, 3) := by decide +kernel
theorem dX7_init_145 : decode cX7_init 145 = .ok (.aload_n 0, 1) := by decide +kernel
theorem dX7_init_146 : decode cX7_init 146 = .ok (.bipush 21, 2) := by decide +kernel
theorem dX7_init_148 : decode cX7_init 148 = .ok (.newarray .int, 2) := by decide +kernel
theorem dX7_init_150 : decode cX7_init 150 = .ok (.putfield 67, 3) := by decide +kernel
theorem dX7_init_153 : decode cX7_init 153 = .ok (.aload_n 0, 1) := by decide +kernel
theorem dX7_init_154 : decode cX7_init 154 = .ok (.bipush 21, 2) := by decide +kernel
theorem dX7_init_156 : decode cX7_init 156 = .ok (.newarray .boolean, 2) := by decide +kernel
theorem dX7_init_158 : decode cX7_init 158 = .ok (.putfield 70, 3) := by decide +kernel
theorem dX7_init_161 : decode cX7_init 161 = .ok (.aload_n 0, 1) := by decide +kernel
theorem dX7_init_162 : decode cX7_init 162 = .ok (.iconst (-1), 1) := by decide +kernel
theorem dX7_init_163 : decode cX7_init 163 = .ok (.putfield 73, 3) := by decide +kernel
theorem dX7_init_166 : decode cX7_init 166 = .ok (.aload_n 0, 1) := by decide +kernel
theorem dX7_init_167 : decode cX7_init 167 = .ok (.bipush 7, 2) := by decide +kernel
theorem dX7_init_169 : decode cX7_init 169 = .ok (.newarray .int, 2) := by decide +kernel
theorem dX7_init_171 : decode cX7_init 171 = .ok (.putfield 76, 3) := by decide +kernel
theorem dX7_init_174 : decode cX7_init 174 = .ok (.aload_n 0, 1) := by decide +kernel
theorem dX7_init_175 : decode cX7_init 175 = .ok (.iconst 5, 1) := by decide +kernel
theorem dX7_init_176 : decode cX7_init 176 = .ok (.iconst 5, 1) := by decide +kernel
theorem dX7_init_177 : decode cX7_init 177 = .ok (.iconst 0, 1) := by decide +kernel
theorem dX7_init_178 : decode cX7_init 178 = .ok (.invokevirtual 79, 3) := by decide +kernel
theorem dX7_init_181 : decode cX7_init 181 = .ok (.return_, 1) := by decide +kernel
theorem dX7_lays_0 : decode cX7_lays 0 = .ok (.aload_n 0, 1) := by decide +kernel
theorem dX7_lays_1 : decode cX7_lays 1 = .ok (.iload_n 1, 1) := by decide +kernel
theorem dX7_lays_2 : decode cX7_lays 2 = .ok (.putfield 7, 3) := by decide +kernel
theorem dX7_lays_5 : decode cX7_lays 5 = .ok (.aload_n 0, 1) := by decide +kernel
theorem dX7_lays_6 : decode cX7_lays 6 = .ok (.iload_n 2, 1) := by decide +kernel
theorem dX7_lays_7 : decode cX7_lays 7 = .ok (.putfield 13, 3) := by decide +kernel
theorem dX7_lays_10 : decode cX7_lays 10 = .ok (.aload_n 0, 1) := by decide +kernel
theorem dX7_lays_11 : decode cX7_lays 11 = .ok (.iload_n 3, 1) := by decide +kernel
theorem dX7_lays_12 : decode cX7_lays 12 = .ok (.putfield 83, 3) := by decide +kernel
theorem dX7_lays_15 : decode cX7_lays 15 = .ok (.aload_n 0, 1) := by decide +kernel
theorem dX7_lays_16 : decode cX7_lays 16 = .ok (.iconst 0, 1) := by decide +kernel
theorem dX7_lays_17 : decode cX7_lays 17 = .ok (.putfield 86, 3) := by decide +kernel
theorem dX7_lays_20 : decode cX7_lays 20 = .ok (.aload_n 0, 1) := by decide +kernel
theorem dX7_lays_21 : decode cX7_lays 21 = .ok (.getfield 24, 3) := by decide +kernel
theorem dX7_lays_24 : decode cX7_lays 24 = .ok (.iconst 0, 1) := by decide +kernel
theorem dX7_lays_25 : decode cX7_lays 25 = .ok (.lconst 0, 1) := by decide +kernel
theorem dX7_lays_26 : decode cX7_lays 26 = .ok (.lastore, 1) := by decide +kernel
theorem dX7_lays_27 : decode cX7_lays 27 = .ok (.aload_n 0, 1) := by decide +kernel
theorem dX7_lays_28 : decode cX7_lays 28 = .ok (.getfield 27, 3) := by decide +kernel
theorem dX7_lays_31 : decode cX7_lays 31 = .ok (.iconst 0, 1) := by decide +kernel
theorem dX7_lays_32 : decode cX7_lays 32 = .ok (.lconst 0, 1) := by decide +kernel
theorem dX7_lays_33 : decode cX7_lays 33 = .ok (.lastore, 1) := by decide +kernel
theorem dX7_lays_34 : decode cX7_lays 34 = .ok (.aload_n 0, 1) := by decide +kernel
theorem dX7_lays_35 : decode cX7_lays 35 = .ok (.getfield 30, 3) := by decide +kernel
theorem dX7_lays_38 : decode cX7_lays 38 = .ok (.iconst 0, 1) := by decide +kernel
theorem dX7_lays_39 : decode cX7_lays 39 = .ok (.iconst 1, 1) := by decide +kernel
theorem dX7_lays_40 : decode cX7_lays 40 = .ok (.iastore, 1) := by decide +kernel
theorem dX7_lays_41 : decode cX7_lays 41 = .ok (.aload_n 0, 1) := by decide +kernel
theorem dX7_lays_42 : decode cX7_lays 42 = .ok (.getfield 33, 3) := by decide +kernel
theorem dX7_lays_45 : decode cX7_lays 45 = .ok (.iconst 0, 1) := by decide +kernel
theorem dX7_lays_46 : decode cX7_lays 46 = .ok (.iconst 0, 1) := by decide +kernel
theorem dX7_lays_47 : decode cX7_lays 47 = .ok (.iastore, 1) := by decide +kernel
theorem dX7_lays_48 : decode cX7_lays 48 = .ok (.aload_n 0, 1) := by decide +kernel
theorem dX7_lays_49 : decode cX7_lays 49 = .ok (.getfield 36, 3) := by decide +kernel
theorem dX7_lays_52 : decode cX7_lays 52 = .ok (.iconst 0, 1) := by decide +kernel
theorem dX7_lays_53 : decode cX7_lays 53 = .ok (.iconst 0, 1) := by decide +kernel
theorem dX7_lays_54 : decode cX7_lays 54 = .ok (.iastore, 1) := by decide +kernel
theorem dX7_lays_55 : decode cX7_lays 55 = .ok (.iconst 0, 1) := by decide +kernel
theorem dX7_lays_56 : decode cX7_lays 56 = .ok (.istore 4, 2) := by decide +kernel
theorem dX7_lays_58 : decode cX7_lays 58 = .ok (.iload 4, 2) := by decide +kernel
theorem dX7_lays_60 : decode cX7_lays 60 = .ok (.iload_n 1, 1) := by decide +kernel
theorem dX7_lays_61 : decode cX7_lays 61 = .ok (.iload_n 2, 1) := by decide +kernel
theorem dX7_lays_62 : decode cX7_lays 62 = .ok (.imul, 1) := by decide +kernel
theorem dX7_lays_63 : decode cX7_lays 63 = .ok (.if_icmp .ge 114, 3) := by decide +kernel
theorem dX7_lays_66 : decode cX7_lays 66 = .ok (.lconst 0, 1) := by decide +kernel
theorem dX7_lays_67 : decode cX7_lays 67 = .ok (.lstore 5, 2) := by decide +kernel
theorem dX7_lays_69 : decode cX7_lays 69 = .ok (.lload 5, 2) := by decide +kernel
theorem dX7_lays_71 : decode cX7_lays 71 = .ok (.iload 4, 2) := by decide +kernel
theorem dX7_lays_73 : decode cX7_lays 73 = .ok (.iload_n 1, 1) := by decide +kernel
theorem dX7_lays_74 : decode cX7_lays 74 = .ok (.irem, 1) := by decide +kernel
theorem dX7_lays_75 : decode cX7_lays 75 = .ok (.ifCond .le 12, 3) := by decide +kernel
theorem dX7_lays_78 : decode cX7_lays 78 = .ok (.lconst 1, 1) := by decide +kernel
theorem dX7_lays_79 : decode cX7_lays 79 = .ok (.iload 4, 2) := by decide +kernel
theorem dX7_lays_81 : decode cX7_lays 81 = .ok (.iconst 1, 1) := by decide +kernel
theorem dX7_lays_82 : decode cX7_lays 82 = .ok (.isub, 1) := by decide +kernel
theorem dX7_lays_83 : decode cX7_lays 83 = .ok (.lshl, 1) := by decide +kernel
theorem dX7_lays_84 : decode cX7_lays 84 = .ok (.goto 4, 3) := by decide +kernel
theorem dX7_lays_87 : decode cX7_lays 87 = .ok (.lconst 0, 1) := by decide +kernel
theorem dX7_lays_88 : decode cX7_lays 88 = .ok (.lor, 1) := by decide +kernel
theorem dX7_lays_89 : decode cX7_lays 89 = .ok (.lstore 5, 2) := by decide +kernel
theorem dX7_lays_91 : decode cX7_lays 91 = .ok (.lload 5, 2) := by decide +kernel
theorem dX7_lays_93 : decode cX7_lays 93 = .ok (.iload 4, 2) := by decide +kernel
theorem dX7_lays_95 : decode cX7_lays 95 = .ok (.iload_n 1, 1) := by decide +kernel
theorem dX7_lays_96 : decode cX7_lays 96 = .ok (.irem, 1) := by decide +kernel
theorem dX7_lays_97 : decode cX7_lays 97 = .ok (.iload_n 1, 1) := by decide +kernel
theorem dX7_lays_98 : decode cX7_lays 98 = .ok (.iconst 1, 1) := by decide +kernel
theorem dX7_lays_99 : decode cX7_lays 99 = .ok (.isub, 1) := by decide +kernel
theorem dX7_lays_100 : decode cX7_lays 100 = .ok (.if_icmp .ge 12, 3) := by decide +kernel
theorem dX7_lays_103 : decode cX7_lays 103 = .ok (.lconst 1, 1) := by decide +kernel
theorem dX7_lays_104 : decode cX7_lays 104 = .ok (.iload 4, 2) := by decide +kernel
theorem dX7_lays_106 : decode cX7_lays 106 = .ok (.iconst 1, 1) := by decide +kernel
theorem dX7_lays_107 : decode cX7_lays 107 = .ok (.iadd, 1) := by decide +kernel
theorem dX7_lays_108 : decode cX7_lays 108 = .ok (.lshl, 1) := by decide +kernel
theorem dX7_lays_109 : decode cX7_lays 109 = .ok (.goto 4, 3) := by decide +kernel
theorem dX7_lays_112 : decode cX7_lays 112 = .ok (.lconst 0, 1) := by decide +kernel
theorem dX7_lays_113 : decode cX7_lays 113 = .ok (.lor, 1) := by decide +kernel
theorem dX7_lays_114 : decode cX7_lays 114 = .ok (.lstore 5, 2) := by decide +kernel
theorem dX7_lays_116 : decode cX7_lays 116 = .ok (.lload 5, 2) := by decide +kernel
theorem dX7_lays_118 : decode cX7_lays 118 = .ok (.iload 4, 2) := by decide +kernel
theorem dX7_lays_120 : decode cX7_lays 120 = .ok (.iload_n 1, 1) := by decide +kernel
theorem dX7_lays_121 : decode cX7_lays 121 = .ok (.if_icmp .lt 12, 3) := by decide +kernel
theorem dX7_lays_124 : decode cX7_lays 124 = .ok (.lconst 1, 1) := by decide +kernel
theorem dX7_lays_125 : decode cX7_lays 125 = .ok (.iload 4, 2) := by decide +kernel
theorem dX7_lays_127 : decode cX7_lays 127 = .ok (.iload_n 1, 1) := by decide +kernel
theorem dX7_lays_128 : decode cX7_lays 128 = .ok (.isub, 1) := by decide +kernel
theorem dX7_lays_129 : decode cX7_lays 129 = .ok (.lshl, 1) := by decide +kernel
theorem dX7_lays_130 : decode cX7_lays 130 = .ok (.goto 4, 3) := by decide +kernel
theorem dX7_lays_133 : decode cX7_lays 133 = .ok (.lconst 0, 1) := by decide +kernel
theorem dX7_lays_134 : decode cX7_lays 134 = .ok (.lor, 1) := by decide +kernel
theorem dX7_lays_135 : decode cX7_lays 135 = .ok (.lstore 5, 2) := by decide +kernel
theorem dX7_lays_137 : decode cX7_lays 137 = .ok (.lload 5, 2) := by decide +kernel
theorem dX7_lays_139 : decode cX7_lays 139 = .ok (.iload 4, 2) := by decide +kernel
theorem dX7_lays_141 : decode cX7_lays 141 = .ok (.iload_n 1, 1) := by decide +kernel
theorem dX7_lays_142 : decode cX7_lays 142 = .ok (.iload_n 2, 1) := by decide +kernel
theorem dX7_lays_143 : decode cX7_lays 143 = .ok (.iconst 1, 1) := by decide +kernel
theorem dX7_lays_144 : decode cX7_lays 144 = .ok (.isub, 1) := by decide +kernel
theorem dX7_lays_145 : decode cX7_lays 145 = .ok (.imul, 1) := by decide +kernel
theorem dX7_lays_146 : decode cX7_lays 146 = .ok (.if_icmp .ge 12, 3) := by decide +kernel
theorem dX7_lays_149 : decode cX7_lays 149 = .ok (.lconst 1, 1) := by decide +kernel
theorem dX7_lays_150 : decode cX7_lays 150 = .ok (.iload 4, 2) := by decide +kernel
theorem dX7_lays_152 : decode cX7_lays 152 = .ok (.iload_n 1, 1) := by decide +kernel
theorem dX7_lays_153 : decode cX7_lays 153 = .ok (.iadd, 1) := by decide +kernel
theorem dX7_lays_154 : decode cX7_lays 154 = .ok (.lshl, 1) := by decide +kernel
theorem dX7_lays_155 : decode cX7_lays 155 = .ok (.goto 4, 3) := by decide +kernel
theorem dX7_lays_158 : decode cX7_lays 158 = .ok (.lconst 0, 1) := by decide +kernel
theorem dX7_lays_159 : decode cX7_lays 159 = .ok (.lor, 1) := by decide +kernel
theorem dX7_lays_160 : decode cX7_lays 160 = .ok (.lstore 5, 2) := by decide +kernel
theorem dX7_lays_162 : decode cX7_lays 162 = .ok (.aload_n 0, 1) := by decide +kernel
theorem dX7_lays_163 : decode cX7_lays 163 = .ok (.getfield 16, 3) := by decide +kernel
theorem dX7_lays_166 : decode cX7_lays 166 = .ok (.iload 4, 2) := by decide +kernel
theorem dX7_lays_168 : decode cX7_lays 168 = .ok (.lload 5, 2) := by decide +kernel
theorem dX7_lays_170 : decode cX7_lays 170 = .ok (.lastore, 1) := by decide +kernel
theorem dX7_lays_171 : decode cX7_lays 171 = .ok (.iinc 4 1, 3) := by decide +kernel
theorem dX7_lays_174 : decode cX7_lays 174 = .ok (.goto (-116), 3) := by decide +kernel
theorem dX7_lays_177 : decode cX7_lays 177 = .ok (.return_, 1) := by decide +kernel
theorem dX7_size_0 : decode cX7_size 0 = .ok (.aload_n 0, 1) := by decide +kernel
theorem dX7_size_1 : decode cX7_size 1 = .ok (.getfield 7, 3) := by decide +kernel
theorem dX7_size_4 : decode cX7_size 4 = .ok (.aload_n 0, 1) := by decide +kernel
theorem dX7_size_5 : decode cX7_size 5 = .ok (.getfield 13, 3) := by decide +kernel
theorem dX7_size_8 : decode cX7_size 8 = .ok (.imul, 1) := by decide +kernel
theorem dX7_size_9 : decode cX7_size 9 = .ok (.ireturn, 1) := by decide +kernel
set_option maxRecDepth 20000 in
theorem ggX7_isCrossing_X7_size : GoodIn wsX7_isCrossing wsX7_size := goodIn_r _ [5, 6, 7, 11, 12, 13, 14, 15, 16, 17, 18, 19, 20, 21, 22, 23, 24, 25, 26, 27, 28, 29, 30, 31, 32, 33, 34, 35, 36, 37, 38, 39] (by decide +kernel) (by decide +kernel)
set_option maxRecDepth 20000 in
theorem gX7_isCrossing_X7_size : GoodIn wsX7_isCrossing (wsV RX7 89 RX7 yX7_size wsX7_size) := goodIn_app (goodIn_of _ (by decide +kernel)) ggX7_isCrossing_X7_size
set_option maxRecDepth 20000 in
theorem ggX7_isCrossing_X7_in : GoodIn wsX7_isCrossing wsX7_in := goodIn_r _ [10] (by decide +kernel) (by decide +kernel)
set_option maxRecDepth 20000 in
theorem gX7_isCrossing_X7_in : GoodIn wsX7_isCrossing (va_wsS RX7 93 yX7_in wsX7_in) := goodIn_app (goodIn_of _ (by decide +kernel)) ggX7_isCrossing_X7_in
theorem dX7_isCrossing_0 : decode cX7_isCrossing 0 = .ok (.iload_n 1, 1) := by decide +kernel
theorem dX7_isCrossing_1 : decode cX7_isCrossing 1 = .ok (.iconst 0, 1) := by decide +kernel
theorem dX7_isCrossing_2 : decode cX7_isCrossing 2 = .ok (.aload_n 0, 1) := by decide +kernel
theorem dX7_isCrossing_3 : decode cX7_isCrossing 3 = .ok (.invokevirtual 89, 3) := by decide +kernel
theorem dX7_isCrossing_6 : decode cX7_isCrossing 6 = .ok (.iconst 1, 1) := by decide +kernel
theorem dX7_isCrossing_7 : decode cX7_isCrossing 7 = .ok (.isub, 1) := by decide +kernel
theorem dX7_isCrossing_8 : decode cX7_isCrossing 8 = .ok (.invokestatic 93, 3) := by decide +kernel
theorem dX7_isCrossing_11 : decode cX7_isCrossing 11 = .ok (.ireturn, 1) := by decide +kernel
theorem dX7_many_0 : decode cX7_many 0 = .ok (.iconst 0, 1) := by decide +kernel
theorem dX7_many_1 : decode cX7_many 1 = .ok (.istore_n 2, 1) := by decide +kernel
theorem dX7_many_2 : decode cX7_many 2 = .ok (.lload_n 0, 1) := by decide +kernel
theorem dX7_many_3 : decode cX7_many 3 = .ok (.lstore_n 3, 1) := by decide +kernel
theorem dX7_many_4 : decode cX7_many 4 = .ok (.lload_n 3, 1) := by decide +kernel
theorem dX7_many_5 : decode cX7_many 5 = .ok (.lconst 0, 1) := by decide +kernel
theorem dX7_many_6 : decode cX7_many 6 = .ok (.lcmp, 1) := by decide +kernel
theorem dX7_many_7 : decode cX7_many 7 = .ok (.ifCond .eq 15, 3) := by decide +kernel
theorem dX7_many_10 : decode cX7_many 10 = .ok (.iinc 2 1, 3) := by decide +kernel
theorem dX7_many_13 : decode cX7_many 13 = .ok (.lload_n 3, 1) := by decide +kernel
theorem dX7_many_14 : decode cX7_many 14 = .ok (.lload_n 3, 1) := by decide +kernel
theorem dX7_many_15 : decode cX7_many 15 = .ok (.lconst 1, 1) := by decide +kernel
theorem dX7_many_16 : decode cX7_many 16 = .ok (.lsub, 1) := by decide +kernel
theorem dX7_many_17 : decode cX7_many 17 = .ok (.land, 1) := by decide +kernel
theorem dX7_many_18 : decode cX7_many 18 = .ok (.lstore_n 3, 1) := by decide +kernel
theorem dX7_many_19 : decode cX7_many 19 = .ok (.goto (-15), 3) := by decide +kernel
theorem dX7_many_22 : decode cX7_many 22 = .ok (.iload_n 2, 1) := by decide +kernel
theorem dX7_many_23 : decode cX7_many 23 = .ok (.ireturn, 1) := by decide +kernel
theorem dX7_least_0 : decode cX7_least 0 = .ok (.iload_n 2, 1) := by decide +kernel
theorem dX7_least_1 : decode cX7_least 1 = .ok (.istore_n 3, 1) := by decide +kernel
theorem dX7_least_2 : decode cX7_least 2 = .ok (.iload_n 3, 1) := by decide +kernel
theorem dX7_least_3 : decode cX7_least 3 = .ok (.bipush 49, 2) := by decide +kernel
theorem dX7_least_5 : decode cX7_least 5 = .ok (.if_icmp .ge 21, 3) := by decide +kernel
theorem dX7_least_8 : decode cX7_least 8 = .ok (.lload_n 0, 1) := by decide +kernel
theorem dX7_least_9 : decode cX7_least 9 = .ok (.iload_n 3, 1) := by decide +kernel
theorem dX7_least_10 : decode cX7_least 10 = .ok (.lshr, 1) := by decide +kernel
theorem dX7_least_11 : decode cX7_least 11 = .ok (.lconst 1, 1) := by decide +kernel
theorem dX7_least_12 : decode cX7_least 12 = .ok (.land, 1) := by decide +kernel
theorem dX7_least_13 : decode cX7_least 13 = .ok (.lconst 1, 1) := by decide +kernel
theorem dX7_least_14 : decode cX7_least 14 = .ok (.lcmp, 1) := by decide +kernel
theorem dX7_least_15 : decode cX7_least 15 = .ok (.ifCond .ne 5, 3) := by decide +kernel
theorem dX7_least_18 : decode cX7_least 18 = .ok (.iload_n 3, 1) := by decide +kernel
theorem dX7_least_19 : decode cX7_least 19 = .ok (.ireturn, 1) := by decide +kernel
theorem dX7_least_20 : decode cX7_least 20 = .ok (.iinc 3 1, 3) := by decide +kernel
theorem dX7_least_23 : decode cX7_least 23 = .ok (.goto (-21), 3) := by decide +kernel
theorem dX7_least_26 : decode cX7_least 26 = .ok (.iconst (-1), 1) := by decide +kernel
theorem dX7_least_27 : decode cX7_least 27 = .ok (.ireturn, 1) := by decide +kernel
set_option maxRecDepth 20000 in
theorem ggX7_around_X7_size : GoodIn wsX7_around wsX7_size := goodIn_r _ [6, 7, 8, 9, 10, 11, 12, 13, 14, 15, 16, 17, 18, 19, 20, 21, 22, 23, 24, 25, 26, 27, 28, 29, 30, 31, 32, 33, 34, 35, 36, 37] (by decide +kernel) (by decide +kernel)
set_option maxRecDepth 20000 in
theorem gX7_around_X7_size : GoodIn wsX7_around (wsV RX7 89 RX7 yX7_size wsX7_size) := goodIn_app (goodIn_of _ (by decide +kernel)) ggX7_around_X7_size
theorem dX7_around_0 : decode cX7_around 0 = .ok (.lconst 0, 1) := by decide +kernel
theorem dX7_around_1 : decode cX7_around 1 = .ok (.lstore_n 3, 1) := by decide +kernel
theorem dX7_around_2 : decode cX7_around 2 = .ok (.iconst 0, 1) := by decide +kernel
theorem dX7_around_3 : decode cX7_around 3 = .ok (.istore 5, 2) := by decide +kernel
theorem dX7_around_5 : decode cX7_around 5 = .ok (.iload 5, 2) := by decide +kernel
theorem dX7_around_7 : decode cX7_around 7 = .ok (.aload_n 0, 1) := by decide +kernel
theorem dX7_around_8 : decode cX7_around 8 = .ok (.invokevirtual 89, 3) := by decide +kernel
theorem dX7_around_11 : decode cX7_around 11 = .ok (.if_icmp .ge 34, 3) := by decide +kernel
theorem dX7_around_14 : decode cX7_around 14 = .ok (.lload_n 3, 1) := by decide +kernel
theorem dX7_around_15 : decode cX7_around 15 = .ok (.lload_n 1, 1) := by decide +kernel
theorem dX7_around_16 : decode cX7_around 16 = .ok (.iload 5, 2) := by decide +kernel
theorem dX7_around_18 : decode cX7_around 18 = .ok (.lshr, 1) := by decide +kernel
theorem dX7_around_19 : decode cX7_around 19 = .ok (.lconst 1, 1) := by decide +kernel
theorem dX7_around_20 : decode cX7_around 20 = .ok (.land, 1) := by decide +kernel
theorem dX7_around_21 : decode cX7_around 21 = .ok (.lconst 1, 1) := by decide +kernel
theorem dX7_around_22 : decode cX7_around 22 = .ok (.lcmp, 1) := by decide +kernel
theorem dX7_around_23 : decode cX7_around 23 = .ok (.ifCond .ne 13, 3) := by decide +kernel
theorem dX7_around_26 : decode cX7_around 26 = .ok (.aload_n 0, 1) := by decide +kernel
theorem dX7_around_27 : decode cX7_around 27 = .ok (.getfield 16, 3) := by decide +kernel
theorem dX7_around_30 : decode cX7_around 30 = .ok (.iload 5, 2) := by decide +kernel
theorem dX7_around_32 : decode cX7_around 32 = .ok (.laload, 1) := by decide +kernel
theorem dX7_around_33 : decode cX7_around 33 = .ok (.goto 4, 3) := by decide +kernel
theorem dX7_around_36 : decode cX7_around 36 = .ok (.lconst 0, 1) := by decide +kernel
theorem dX7_around_37 : decode cX7_around 37 = .ok (.lor, 1) := by decide +kernel
theorem dX7_around_38 : decode cX7_around 38 = .ok (.lstore_n 3, 1) := by decide +kernel
theorem dX7_around_39 : decode cX7_around 39 = .ok (.iinc 5 1, 3) := by decide +kernel
theorem dX7_around_42 : decode cX7_around 42 = .ok (.goto (-37), 3) := by decide +kernel
theorem dX7_around_45 : decode cX7_around 45 = .ok (.lload_n 3, 1) := by decide +kernel
theorem dX7_around_46 : decode cX7_around 46 = .ok (.lreturn, 1) := by decide +kernel
set_option maxRecDepth 20000 in
theorem ggX7_spread_X7_around : GoodIn wsX7_spread wsX7_around := goodIn_r _ [5, 6, 7, 8, 9, 4, 10, 11, 12, 13, 14, 15, 16, 17, 18, 19, 20, 21, 22, 23, 24, 25, 26, 27, 28, 29, 30, 31, 32, 33, 34, 35, 36, 37, 38, 39, 40, 41] (by decide +kernel) (by decide +kernel)
set_option maxRecDepth 20000 in
theorem gX7_spread_X7_around : GoodIn wsX7_spread (wsV RX7 97 RX7 yX7_around wsX7_around) := goodIn_app (goodIn_of _ (by decide +kernel)) ggX7_spread_X7_around
theorem dX7_spread_0 : decode cX7_spread 0 = .ok (.lload_n 1, 1) := by decide +kernel
theorem dX7_spread_1 : decode cX7_spread 1 = .ok (.lload_n 3, 1) := by decide +kernel
theorem dX7_spread_2 : decode cX7_spread 2 = .ok (.land, 1) := by decide +kernel
theorem dX7_spread_3 : decode cX7_spread 3 = .ok (.lstore 5, 2) := by decide +kernel
end
section
theorem dX7_spread_5 : decode cX7_spread 5 = .ok (.lconst 0, 1) := by decide +kernel
theorem dX7_spread_6 : decode cX7_spread 6 = .ok (.lstore 7, 2) := by decide +kernel
theorem dX7_spread_8 : decode cX7_spread 8 = .ok (.lload 7, 2) := by decide +kernel
theorem dX7_spread_10 : decode cX7_spread 10 = .ok (.lload 5, 2) := by decide +kernel
theorem dX7_spread_12 : decode cX7_spread 12 = .ok (.lcmp, 1) := by decide +kernel
theorem dX7_spread_13 : decode cX7_spread 13 = .ok (.ifCond .eq 23, 3) := by decide +kernel
theorem dX7_spread_16 : decode cX7_spread 16 = .ok (.lload 5, 2) := by decide +kernel
theorem dX7_spread_18 : decode cX7_spread 18 = .ok (.lstore 7, 2) := by decide +kernel
theorem dX7_spread_20 : decode cX7_spread 20 = .ok (.lload 5, 2) := by decide +kernel
theorem dX7_spread_22 : decode cX7_spread 22 = .ok (.aload_n 0, 1) := by decide +kernel
theorem dX7_spread_23 : decode cX7_spread 23 = .ok (.lload 5, 2) := by decide +kernel
theorem dX7_spread_25 : decode cX7_spread 25 = .ok (.invokevirtual 97, 3) := by decide +kernel
theorem dX7_spread_28 : decode cX7_spread 28 = .ok (.lload_n 3, 1) := by decide +kernel
theorem dX7_spread_29 : decode cX7_spread 29 = .ok (.land, 1) := by decide +kernel
theorem dX7_spread_30 : decode cX7_spread 30 = .ok (.lor, 1) := by decide +kernel
theorem dX7_spread_31 : decode cX7_spread 31 = .ok (.lstore 5, 2) := by decide +kernel
theorem dX7_spread_33 : decode cX7_spread 33 = .ok (.goto (-25), 3) := by decide +kernel
theorem dX7_spread_36 : decode cX7_spread 36 = .ok (.lload 5, 2) := by decide +kernel
theorem dX7_spread_38 : decode cX7_spread 38 = .ok (.lreturn, 1) := by decide +kernel
set_option maxRecDepth 20000 in
theorem ggX7_all_X7_size : GoodIn wsX7_all wsX7_size := goodIn_r _ [5, 6, 7, 8, 9, 10, 11, 12, 13, 14, 15, 16, 17, 18, 19, 20, 21, 22, 23, 24, 25, 26, 27, 28, 29, 30, 31, 32, 33, 34, 35, 36] (by decide +kernel) (by decide +kernel)
set_option maxRecDepth 20000 in
theorem gX7_all_X7_size : GoodIn wsX7_all (wsV RX7 89 RX7 yX7_size wsX7_size) := goodIn_app (goodIn_of _ (by decide +kernel)) ggX7_all_X7_size
theorem dX7_all_0 : decode cX7_all 0 = .ok (.lconst 1, 1) := by decide +kernel
theorem dX7_all_1 : decode cX7_all 1 = .ok (.aload_n 0, 1) := by decide +kernel
theorem dX7_all_2 : decode cX7_all 2 = .ok (.invokevirtual 89, 3) := by decide +kernel
theorem dX7_all_5 : decode cX7_all 5 = .ok (.lshl, 1) := by decide +kernel
theorem dX7_all_6 : decode cX7_all 6 = .ok (.lconst 1, 1) := by decide +kernel
theorem dX7_all_7 : decode cX7_all 7 = .ok (.lsub, 1) := by decide +kernel
theorem dX7_all_8 : decode cX7_all 8 = .ok (.lreturn, 1) := by decide +kernel
set_option maxRecDepth 20000 in
theorem ggX7_free_X7_all : GoodIn wsX7_free wsX7_all := goodIn_r _ [6, 7, 8, 9, 5, 10, 11, 12, 13, 14, 15, 16, 17, 18, 19, 20, 21, 22, 23, 24, 25, 26, 27, 28, 29, 30, 31, 32, 33, 34, 35, 36, 37, 38, 39, 40, 41] (by decide +kernel) (by decide +kernel)
set_option maxRecDepth 20000 in
theorem gX7_free_X7_all : GoodIn wsX7_free (wsV RX7 101 RX7 yX7_all wsX7_all) := goodIn_app (goodIn_of _ (by decide +kernel)) ggX7_free_X7_all
theorem dX7_free_0 : decode cX7_free 0 = .ok (.aload_n 0, 1) := by decide +kernel
theorem dX7_free_1 : decode cX7_free 1 = .ok (.invokevirtual 101, 3) := by decide +kernel
theorem dX7_free_4 : decode cX7_free 4 = .ok (.lload_n 1, 1) := by decide +kernel
theorem dX7_free_5 : decode cX7_free 5 = .ok (.ldc2_w 105, 3) := by decide +kernel
theorem dX7_free_8 : decode cX7_free 8 = .ok (.lxor, 1) := by decide +kernel
theorem dX7_free_9 : decode cX7_free 9 = .ok (.land, 1) := by decide +kernel
theorem dX7_free_10 : decode cX7_free 10 = .ok (.lload_n 3, 1) := by decide +kernel
theorem dX7_free_11 : decode cX7_free 11 = .ok (.ldc2_w 105, 3) := by decide +kernel
theorem dX7_free_14 : decode cX7_free 14 = .ok (.lxor, 1) := by decide +kernel
theorem dX7_free_15 : decode cX7_free 15 = .ok (.land, 1) := by decide +kernel
theorem dX7_free_16 : decode cX7_free 16 = .ok (.lreturn, 1) := by decide +kernel
theorem dX7_other_0 : decode cX7_other 0 = .ok (.iconst 3, 1) := by decide +kernel
theorem dX7_other_1 : decode cX7_other 1 = .ok (.iload_n 0, 1) := by decide +kernel
theorem dX7_other_2 : decode cX7_other 2 = .ok (.isub, 1) := by decide +kernel
theorem dX7_other_3 : decode cX7_other 3 = .ok (.ireturn, 1) := by decide +kernel
set_option maxRecDepth 20000 in
theorem ggX7_laid_X7_least : GoodIn wsX7_laid wsX7_least := goodIn_r _ [9] (by decide +kernel) (by decide +kernel)
set_option maxRecDepth 20000 in
theorem gX7_laid_X7_least : GoodIn wsX7_laid (va_wsS RX7 107 yX7_least wsX7_least) := goodIn_app (goodIn_of _ (by decide +kernel)) ggX7_laid_X7_least
set_option maxRecDepth 20000 in
theorem ggX7_laid_X7_spread : GoodIn wsX7_laid wsX7_spread := goodIn_r _ [13, 14, 15, 16, 8, 17, 1, 18, 19, 20, 21, 22, 23, 35, 36, 37, 38, 39, 40, 41, 42, 43, 44, 45, 46, 47, 48, 49, 50, 51, 52, 53, 54, 55, 56, 57, 58, 59, 60, 61, 62, 63] (by decide +kernel) (by decide +kernel)
set_option maxRecDepth 20000 in
theorem gX7_laid_X7_spread : GoodIn wsX7_laid (wsV RX7 111 RX7 yX7_spread wsX7_spread) := goodIn_app (goodIn_of _ (by decide +kernel)) ggX7_laid_X7_spread
set_option maxRecDepth 20000 in
theorem ggX7_laid_X7_around : GoodIn wsX7_laid wsX7_around := goodIn_r _ [17, 1, 18, 19, 20, 8, 21, 22, 23, 35, 36, 37, 38, 39, 40, 41, 42, 43, 44, 45, 46, 47, 48, 49, 50, 51, 52, 53, 54, 55, 56, 57, 58, 59, 60, 61, 62, 63] (by decide +kernel) (by decide +kernel)
set_option maxRecDepth 20000 in
theorem gX7_laid_X7_around : GoodIn wsX7_laid (wsV RX7 97 RX7 yX7_around wsX7_around) := goodIn_app (goodIn_of _ (by decide +kernel)) ggX7_laid_X7_around
set_option maxRecDepth 20000 in
theorem ggX7_laid_X7_all : GoodIn wsX7_laid wsX7_all := goodIn_r _ [27, 18, 19, 20, 8, 21, 22, 23, 35, 36, 37, 38, 39, 40, 41, 42, 43, 44, 45, 46, 47, 48, 49, 50, 51, 52, 53, 54, 55, 56, 57, 58, 59, 60, 61, 62, 63] (by decide +kernel) (by decide +kernel)
set_option maxRecDepth 20000 in
theorem gX7_laid_X7_all : GoodIn wsX7_laid (wsV RX7 101 RX7 yX7_all wsX7_all) := goodIn_app (goodIn_of _ (by decide +kernel)) ggX7_laid_X7_all
set_option maxRecDepth 20000 in
theorem ggX7_laid_X7_many : GoodIn wsX7_laid wsX7_many := goodIn_r _ [30] (by decide +kernel) (by decide +kernel)
set_option maxRecDepth 20000 in
theorem gX7_laid_X7_many : GoodIn wsX7_laid (va_wsS RX7 115 yX7_many wsX7_many) := goodIn_app (goodIn_of _ (by decide +kernel)) ggX7_laid_X7_many
set_option maxRecDepth 20000 in
theorem ggX7_laid_X7_free : GoodIn wsX7_laid wsX7_free := goodIn_r _ [34, 2, 24, 25, 26, 8, 27, 18, 19, 20, 21, 22, 23, 35, 36, 37, 38, 39, 40, 41, 42, 43, 44, 45, 46, 47, 48, 49, 50, 51, 52, 53, 54, 55, 56, 57, 58, 59, 60, 61, 62, 63] (by decide +kernel) (by decide +kernel)
set_option maxRecDepth 20000 in
theorem gX7_laid_X7_free : GoodIn wsX7_laid (wsV RX7 129 RX7 yX7_free wsX7_free) := goodIn_app (goodIn_of _ (by decide +kernel)) ggX7_laid_X7_free
theorem dX7_laid_0 : decode cX7_laid 0 = .ok (.lconst 1, 1) := by decide +kernel
theorem dX7_laid_1 : decode cX7_laid 1 = .ok (.iload 6, 2) := by decide +kernel
theorem dX7_laid_3 : decode cX7_laid 3 = .ok (.lshl, 1) := by decide +kernel
theorem dX7_laid_4 : decode cX7_laid 4 = .ok (.lstore 7, 2) := by decide +kernel
theorem dX7_laid_6 : decode cX7_laid 6 = .ok (.lload_n 1, 1) := by decide +kernel
theorem dX7_laid_7 : decode cX7_laid 7 = .ok (.lload_n 3, 1) := by decide +kernel
theorem dX7_laid_8 : decode cX7_laid 8 = .ok (.lor, 1) := by decide +kernel
theorem dX7_laid_9 : decode cX7_laid 9 = .ok (.lload 7, 2) := by decide +kernel
theorem dX7_laid_11 : decode cX7_laid 11 = .ok (.land, 1) := by decide +kernel
theorem dX7_laid_12 : decode cX7_laid 12 = .ok (.lconst 0, 1) := by decide +kernel
theorem dX7_laid_13 : decode cX7_laid 13 = .ok (.lcmp, 1) := by decide +kernel
theorem dX7_laid_14 : decode cX7_laid 14 = .ok (.ifCond .eq 5, 3) := by decide +kernel
theorem dX7_laid_17 : decode cX7_laid 17 = .ok (.iconst 1, 1) := by decide +kernel
theorem dX7_laid_18 : decode cX7_laid 18 = .ok (.ireturn, 1) := by decide +kernel
theorem dX7_laid_19 : decode cX7_laid 19 = .ok (.iload 5, 2) := by decide +kernel
theorem dX7_laid_21 : decode cX7_laid 21 = .ok (.iconst 1, 1) := by decide +kernel
theorem dX7_laid_22 : decode cX7_laid 22 = .ok (.if_icmp .ne 7, 3) := by decide +kernel
theorem dX7_laid_25 : decode cX7_laid 25 = .ok (.lload_n 1, 1) := by decide +kernel
theorem dX7_laid_26 : decode cX7_laid 26 = .ok (.goto 4, 3) := by decide +kernel
theorem dX7_laid_29 : decode cX7_laid 29 = .ok (.lload_n 3, 1) := by decide +kernel
theorem dX7_laid_30 : decode cX7_laid 30 = .ok (.lload 7, 2) := by decide +kernel
theorem dX7_laid_32 : decode cX7_laid 32 = .ok (.lor, 1) := by decide +kernel
theorem dX7_laid_33 : decode cX7_laid 33 = .ok (.lstore 9, 2) := by decide +kernel
theorem dX7_laid_35 : decode cX7_laid 35 = .ok (.iload 5, 2) := by decide +kernel
theorem dX7_laid_37 : decode cX7_laid 37 = .ok (.iconst 1, 1) := by decide +kernel
theorem dX7_laid_38 : decode cX7_laid 38 = .ok (.if_icmp .ne 7, 3) := by decide +kernel
theorem dX7_laid_41 : decode cX7_laid 41 = .ok (.lload_n 3, 1) := by decide +kernel
theorem dX7_laid_42 : decode cX7_laid 42 = .ok (.goto 4, 3) := by decide +kernel
theorem dX7_laid_45 : decode cX7_laid 45 = .ok (.lload_n 1, 1) := by decide +kernel
theorem dX7_laid_46 : decode cX7_laid 46 = .ok (.lstore 11, 2) := by decide +kernel
theorem dX7_laid_48 : decode cX7_laid 48 = .ok (.lconst 0, 1) := by decide +kernel
theorem dX7_laid_49 : decode cX7_laid 49 = .ok (.lstore 13, 2) := by decide +kernel
theorem dX7_laid_51 : decode cX7_laid 51 = .ok (.aload_n 0, 1) := by decide +kernel
theorem dX7_laid_52 : decode cX7_laid 52 = .ok (.getfield 16, 3) := by decide +kernel
theorem dX7_laid_55 : decode cX7_laid 55 = .ok (.iload 6, 2) := by decide +kernel
theorem dX7_laid_57 : decode cX7_laid 57 = .ok (.laload, 1) := by decide +kernel
theorem dX7_laid_58 : decode cX7_laid 58 = .ok (.lload 11, 2) := by decide +kernel
theorem dX7_laid_60 : decode cX7_laid 60 = .ok (.land, 1) := by decide +kernel
theorem dX7_laid_61 : decode cX7_laid 61 = .ok (.iconst 0, 1) := by decide +kernel
theorem dX7_laid_62 : decode cX7_laid 62 = .ok (.invokestatic 107, 3) := by decide +kernel
theorem dX7_laid_65 : decode cX7_laid 65 = .ok (.istore 15, 2) := by decide +kernel
theorem dX7_laid_67 : decode cX7_laid 67 = .ok (.iload 15, 2) := by decide +kernel
theorem dX7_laid_69 : decode cX7_laid 69 = .ok (.iconst (-1), 1) := by decide +kernel
theorem dX7_laid_70 : decode cX7_laid 70 = .ok (.if_icmp .eq 78, 3) := by decide +kernel
theorem dX7_laid_73 : decode cX7_laid 73 = .ok (.aload_n 0, 1) := by decide +kernel
theorem dX7_laid_74 : decode cX7_laid 74 = .ok (.lconst 1, 1) := by decide +kernel
theorem dX7_laid_75 : decode cX7_laid 75 = .ok (.iload 15, 2) := by decide +kernel
theorem dX7_laid_77 : decode cX7_laid 77 = .ok (.lshl, 1) := by decide +kernel
theorem dX7_laid_78 : decode cX7_laid 78 = .ok (.lload 11, 2) := by decide +kernel
theorem dX7_laid_80 : decode cX7_laid 80 = .ok (.invokevirtual 111, 3) := by decide +kernel
theorem dX7_laid_83 : decode cX7_laid 83 = .ok (.lstore 16, 2) := by decide +kernel
theorem dX7_laid_85 : decode cX7_laid 85 = .ok (.lload 13, 2) := by decide +kernel
theorem dX7_laid_87 : decode cX7_laid 87 = .ok (.aload_n 0, 1) := by decide +kernel
theorem dX7_laid_88 : decode cX7_laid 88 = .ok (.lload 16, 2) := by decide +kernel
theorem dX7_laid_90 : decode cX7_laid 90 = .ok (.invokevirtual 97, 3) := by decide +kernel
theorem dX7_laid_93 : decode cX7_laid 93 = .ok (.aload_n 0, 1) := by decide +kernel
theorem dX7_laid_94 : decode cX7_laid 94 = .ok (.invokevirtual 101, 3) := by decide +kernel
theorem dX7_laid_97 : decode cX7_laid 97 = .ok (.land, 1) := by decide +kernel
theorem dX7_laid_98 : decode cX7_laid 98 = .ok (.lload 9, 2) := by decide +kernel
theorem dX7_laid_100 : decode cX7_laid 100 = .ok (.ldc2_w 105, 3) := by decide +kernel
theorem dX7_laid_103 : decode cX7_laid 103 = .ok (.lxor, 1) := by decide +kernel
theorem dX7_laid_104 : decode cX7_laid 104 = .ok (.land, 1) := by decide +kernel
theorem dX7_laid_105 : decode cX7_laid 105 = .ok (.lload 11, 2) := by decide +kernel
theorem dX7_laid_107 : decode cX7_laid 107 = .ok (.ldc2_w 105, 3) := by decide +kernel
theorem dX7_laid_110 : decode cX7_laid 110 = .ok (.lxor, 1) := by decide +kernel
theorem dX7_laid_111 : decode cX7_laid 111 = .ok (.land, 1) := by decide +kernel
theorem dX7_laid_112 : decode cX7_laid 112 = .ok (.lconst 0, 1) := by decide +kernel
theorem dX7_laid_113 : decode cX7_laid 113 = .ok (.lcmp, 1) := by decide +kernel
theorem dX7_laid_114 : decode cX7_laid 114 = .ok (.ifCond .ne 8, 3) := by decide +kernel
theorem dX7_laid_117 : decode cX7_laid 117 = .ok (.lload 16, 2) := by decide +kernel
theorem dX7_laid_119 : decode cX7_laid 119 = .ok (.goto 4, 3) := by decide +kernel
theorem dX7_laid_122 : decode cX7_laid 122 = .ok (.lconst 0, 1) := by decide +kernel
theorem dX7_laid_123 : decode cX7_laid 123 = .ok (.lor, 1) := by decide +kernel
theorem dX7_laid_124 : decode cX7_laid 124 = .ok (.lstore 13, 2) := by decide +kernel
theorem dX7_laid_126 : decode cX7_laid 126 = .ok (.aload_n 0, 1) := by decide +kernel
theorem dX7_laid_127 : decode cX7_laid 127 = .ok (.getfield 16, 3) := by decide +kernel
theorem dX7_laid_130 : decode cX7_laid 130 = .ok (.iload 6, 2) := by decide +kernel
theorem dX7_laid_132 : decode cX7_laid 132 = .ok (.laload, 1) := by decide +kernel
theorem dX7_laid_133 : decode cX7_laid 133 = .ok (.lload 11, 2) := by decide +kernel
theorem dX7_laid_135 : decode cX7_laid 135 = .ok (.land, 1) := by decide +kernel
theorem dX7_laid_136 : decode cX7_laid 136 = .ok (.iload 15, 2) := by decide +kernel
theorem dX7_laid_138 : decode cX7_laid 138 = .ok (.iconst 1, 1) := by decide +kernel
theorem dX7_laid_139 : decode cX7_laid 139 = .ok (.iadd, 1) := by decide +kernel
theorem dX7_laid_140 : decode cX7_laid 140 = .ok (.invokestatic 107, 3) := by decide +kernel
theorem dX7_laid_143 : decode cX7_laid 143 = .ok (.istore 15, 2) := by decide +kernel
theorem dX7_laid_145 : decode cX7_laid 145 = .ok (.goto (-78), 3) := by decide +kernel
theorem dX7_laid_148 : decode cX7_laid 148 = .ok (.lload 11, 2) := by decide +kernel
theorem dX7_laid_150 : decode cX7_laid 150 = .ok (.lload 13, 2) := by decide +kernel
theorem dX7_laid_152 : decode cX7_laid 152 = .ok (.ldc2_w 105, 3) := by decide +kernel
theorem dX7_laid_155 : decode cX7_laid 155 = .ok (.lxor, 1) := by decide +kernel
theorem dX7_laid_156 : decode cX7_laid 156 = .ok (.land, 1) := by decide +kernel
theorem dX7_laid_157 : decode cX7_laid 157 = .ok (.lstore 11, 2) := by decide +kernel
theorem dX7_laid_159 : decode cX7_laid 159 = .ok (.aload_n 0, 1) := by decide +kernel
theorem dX7_laid_160 : decode cX7_laid 160 = .ok (.lload 13, 2) := by decide +kernel
theorem dX7_laid_162 : decode cX7_laid 162 = .ok (.invokestatic 115, 3) := by decide +kernel
theorem dX7_laid_165 : decode cX7_laid 165 = .ok (.putfield 119, 3) := by decide +kernel
theorem dX7_laid_168 : decode cX7_laid 168 = .ok (.aload_n 0, 1) := by decide +kernel
theorem dX7_laid_169 : decode cX7_laid 169 = .ok (.iload 5, 2) := by decide +kernel
theorem dX7_laid_171 : decode cX7_laid 171 = .ok (.iconst 1, 1) := by decide +kernel
theorem dX7_laid_172 : decode cX7_laid 172 = .ok (.if_icmp .ne 8, 3) := by decide +kernel
theorem dX7_laid_175 : decode cX7_laid 175 = .ok (.lload 9, 2) := by decide +kernel
theorem dX7_laid_177 : decode cX7_laid 177 = .ok (.goto 5, 3) := by decide +kernel
theorem dX7_laid_180 : decode cX7_laid 180 = .ok (.lload 11, 2) := by decide +kernel
theorem dX7_laid_182 : decode cX7_laid 182 = .ok (.putfield 122, 3) := by decide +kernel
theorem dX7_laid_185 : decode cX7_laid 185 = .ok (.aload_n 0, 1) := by decide +kernel
theorem dX7_laid_186 : decode cX7_laid 186 = .ok (.iload 5, 2) := by decide +kernel
theorem dX7_laid_188 : decode cX7_laid 188 = .ok (.iconst 1, 1) := by decide +kernel
theorem dX7_laid_189 : decode cX7_laid 189 = .ok (.if_icmp .ne 8, 3) := by decide +kernel
theorem dX7_laid_192 : decode cX7_laid 192 = .ok (.lload 11, 2) := by decide +kernel
theorem dX7_laid_194 : decode cX7_laid 194 = .ok (.goto 5, 3) := by decide +kernel
theorem dX7_laid_197 : decode cX7_laid 197 = .ok (.lload 9, 2) := by decide +kernel
theorem dX7_laid_199 : decode cX7_laid 199 = .ok (.putfield 126, 3) := by decide +kernel
theorem dX7_laid_202 : decode cX7_laid 202 = .ok (.aload_n 0, 1) := by decide +kernel
theorem dX7_laid_203 : decode cX7_laid 203 = .ok (.lload 7, 2) := by decide +kernel
theorem dX7_laid_205 : decode cX7_laid 205 = .ok (.lload 9, 2) := by decide +kernel
theorem dX7_laid_207 : decode cX7_laid 207 = .ok (.invokevirtual 111, 3) := by decide +kernel
theorem dX7_laid_210 : decode cX7_laid 210 = .ok (.lstore 15, 2) := by decide +kernel
theorem dX7_laid_212 : decode cX7_laid 212 = .ok (.aload_n 0, 1) := by decide +kernel
theorem dX7_laid_213 : decode cX7_laid 213 = .ok (.lload 15, 2) := by decide +kernel
theorem dX7_laid_215 : decode cX7_laid 215 = .ok (.invokevirtual 97, 3) := by decide +kernel
theorem dX7_laid_218 : decode cX7_laid 218 = .ok (.aload_n 0, 1) := by decide +kernel
theorem dX7_laid_219 : decode cX7_laid 219 = .ok (.aload_n 0, 1) := by decide +kernel
theorem dX7_laid_220 : decode cX7_laid 220 = .ok (.getfield 122, 3) := by decide +kernel
theorem dX7_laid_223 : decode cX7_laid 223 = .ok (.aload_n 0, 1) := by decide +kernel
theorem dX7_laid_224 : decode cX7_laid 224 = .ok (.getfield 126, 3) := by decide +kernel
theorem dX7_laid_227 : decode cX7_laid 227 = .ok (.invokevirtual 129, 3) := by decide +kernel
theorem dX7_laid_230 : decode cX7_laid 230 = .ok (.land, 1) := by decide +kernel
theorem dX7_laid_231 : decode cX7_laid 231 = .ok (.lconst 0, 1) := by decide +kernel
theorem dX7_laid_232 : decode cX7_laid 232 = .ok (.lcmp, 1) := by decide +kernel
theorem dX7_laid_233 : decode cX7_laid 233 = .ok (.ifCond .ne 7, 3) := by decide +kernel
theorem dX7_laid_236 : decode cX7_laid 236 = .ok (.iconst 2, 1) := by decide +kernel
theorem dX7_laid_237 : decode cX7_laid 237 = .ok (.goto 4, 3) := by decide +kernel
theorem dX7_laid_240 : decode cX7_laid 240 = .ok (.iconst 0, 1) := by decide +kernel
theorem dX7_laid_241 : decode cX7_laid 241 = .ok (.ireturn, 1) := by decide +kernel
set_option maxRecDepth 20000 in
theorem ggX7_isAgainst_X7_other : GoodIn wsX7_isAgainst wsX7_other := goodIn_r _ [10] (by decide +kernel) (by decide +kernel)
set_option maxRecDepth 20000 in
theorem gX7_isAgainst_X7_other : GoodIn wsX7_isAgainst (va_wsS RX7 132 yX7_other wsX7_other) := goodIn_app (goodIn_of _ (by decide +kernel)) ggX7_isAgainst_X7_other
theorem dX7_isAgainst_0 : decode cX7_isAgainst 0 = .ok (.aload_n 0, 1) := by decide +kernel
theorem dX7_isAgainst_1 : decode cX7_isAgainst 1 = .ok (.getfield 83, 3) := by decide +kernel
theorem dX7_isAgainst_4 : decode cX7_isAgainst 4 = .ok (.ifCond .ne 45, 3) := by decide +kernel
theorem dX7_isAgainst_7 : decode cX7_isAgainst 7 = .ok (.iload_n 1, 1) := by decide +kernel
theorem dX7_isAgainst_8 : decode cX7_isAgainst 8 = .ok (.ifCond .le 39, 3) := by decide +kernel
theorem dX7_isAgainst_11 : decode cX7_isAgainst 11 = .ok (.aload_n 0, 1) := by decide +kernel
theorem dX7_isAgainst_12 : decode cX7_isAgainst 12 = .ok (.getfield 24, 3) := by decide +kernel
theorem dX7_isAgainst_15 : decode cX7_isAgainst 15 = .ok (.iload_n 1, 1) := by decide +kernel
theorem dX7_isAgainst_16 : decode cX7_isAgainst 16 = .ok (.iconst 1, 1) := by decide +kernel
theorem dX7_isAgainst_17 : decode cX7_isAgainst 17 = .ok (.isub, 1) := by decide +kernel
theorem dX7_isAgainst_18 : decode cX7_isAgainst 18 = .ok (.laload, 1) := by decide +kernel
theorem dX7_isAgainst_19 : decode cX7_isAgainst 19 = .ok (.aload_n 0, 1) := by decide +kernel
theorem dX7_isAgainst_20 : decode cX7_isAgainst 20 = .ok (.getfield 122, 3) := by decide +kernel
theorem dX7_isAgainst_23 : decode cX7_isAgainst 23 = .ok (.lcmp, 1) := by decide +kernel
theorem dX7_isAgainst_24 : decode cX7_isAgainst 24 = .ok (.ifCond .ne 23, 3) := by decide +kernel
theorem dX7_isAgainst_27 : decode cX7_isAgainst 27 = .ok (.aload_n 0, 1) := by decide +kernel
theorem dX7_isAgainst_28 : decode cX7_isAgainst 28 = .ok (.getfield 27, 3) := by decide +kernel
theorem dX7_isAgainst_31 : decode cX7_isAgainst 31 = .ok (.iload_n 1, 1) := by decide +kernel
theorem dX7_isAgainst_32 : decode cX7_isAgainst 32 = .ok (.iconst 1, 1) := by decide +kernel
theorem dX7_isAgainst_33 : decode cX7_isAgainst 33 = .ok (.isub, 1) := by decide +kernel
theorem dX7_isAgainst_34 : decode cX7_isAgainst 34 = .ok (.laload, 1) := by decide +kernel
theorem dX7_isAgainst_35 : decode cX7_isAgainst 35 = .ok (.aload_n 0, 1) := by decide +kernel
theorem dX7_isAgainst_36 : decode cX7_isAgainst 36 = .ok (.getfield 126, 3) := by decide +kernel
theorem dX7_isAgainst_39 : decode cX7_isAgainst 39 = .ok (.lcmp, 1) := by decide +kernel
theorem dX7_isAgainst_40 : decode cX7_isAgainst 40 = .ok (.ifCond .ne 7, 3) := by decide +kernel
theorem dX7_isAgainst_43 : decode cX7_isAgainst 43 = .ok (.iconst 1, 1) := by decide +kernel
theorem dX7_isAgainst_44 : decode cX7_isAgainst 44 = .ok (.goto 4, 3) := by decide +kernel
theorem dX7_isAgainst_47 : decode cX7_isAgainst 47 = .ok (.iconst 0, 1) := by decide +kernel
theorem dX7_isAgainst_48 : decode cX7_isAgainst 48 = .ok (.ireturn, 1) := by decide +kernel
theorem dX7_isAgainst_49 : decode cX7_isAgainst 49 = .ok (.iconst 0, 1) := by decide +kernel
theorem dX7_isAgainst_50 : decode cX7_isAgainst 50 = .ok (.istore_n 3, 1) := by decide +kernel
theorem dX7_isAgainst_51 : decode cX7_isAgainst 51 = .ok (.iload_n 3, 1) := by decide +kernel
theorem dX7_isAgainst_52 : decode cX7_isAgainst 52 = .ok (.iload_n 1, 1) := by decide +kernel
theorem dX7_isAgainst_53 : decode cX7_isAgainst 53 = .ok (.if_icmp .gt 60, 3) := by decide +kernel
theorem dX7_isAgainst_56 : decode cX7_isAgainst 56 = .ok (.aload_n 0, 1) := by decide +kernel
theorem dX7_isAgainst_57 : decode cX7_isAgainst 57 = .ok (.getfield 24, 3) := by decide +kernel
theorem dX7_isAgainst_60 : decode cX7_isAgainst 60 = .ok (.iload_n 3, 1) := by decide +kernel
theorem dX7_isAgainst_61 : decode cX7_isAgainst 61 = .ok (.laload, 1) := by decide +kernel
theorem dX7_isAgainst_62 : decode cX7_isAgainst 62 = .ok (.aload_n 0, 1) := by decide +kernel
theorem dX7_isAgainst_63 : decode cX7_isAgainst 63 = .ok (.getfield 122, 3) := by decide +kernel
theorem dX7_isAgainst_66 : decode cX7_isAgainst 66 = .ok (.lcmp, 1) := by decide +kernel
theorem dX7_isAgainst_67 : decode cX7_isAgainst 67 = .ok (.ifCond .ne 40, 3) := by decide +kernel
theorem dX7_isAgainst_70 : decode cX7_isAgainst 70 = .ok (.aload_n 0, 1) := by decide +kernel
theorem dX7_isAgainst_71 : decode cX7_isAgainst 71 = .ok (.getfield 27, 3) := by decide +kernel
theorem dX7_isAgainst_74 : decode cX7_isAgainst 74 = .ok (.iload_n 3, 1) := by decide +kernel
theorem dX7_isAgainst_75 : decode cX7_isAgainst 75 = .ok (.laload, 1) := by decide +kernel
theorem dX7_isAgainst_76 : decode cX7_isAgainst 76 = .ok (.aload_n 0, 1) := by decide +kernel
theorem dX7_isAgainst_77 : decode cX7_isAgainst 77 = .ok (.getfield 126, 3) := by decide +kernel
theorem dX7_isAgainst_80 : decode cX7_isAgainst 80 = .ok (.lcmp, 1) := by decide +kernel
theorem dX7_isAgainst_81 : decode cX7_isAgainst 81 = .ok (.ifCond .ne 26, 3) := by decide +kernel
theorem dX7_isAgainst_84 : decode cX7_isAgainst 84 = .ok (.aload_n 0, 1) := by decide +kernel
theorem dX7_isAgainst_85 : decode cX7_isAgainst 85 = .ok (.getfield 83, 3) := by decide +kernel
theorem dX7_isAgainst_88 : decode cX7_isAgainst 88 = .ok (.iconst 1, 1) := by decide +kernel
theorem dX7_isAgainst_89 : decode cX7_isAgainst 89 = .ok (.if_icmp .eq 16, 3) := by decide +kernel
theorem dX7_isAgainst_92 : decode cX7_isAgainst 92 = .ok (.aload_n 0, 1) := by decide +kernel
theorem dX7_isAgainst_93 : decode cX7_isAgainst 93 = .ok (.getfield 30, 3) := by decide +kernel
theorem dX7_isAgainst_96 : decode cX7_isAgainst 96 = .ok (.iload_n 3, 1) := by decide +kernel
theorem dX7_isAgainst_97 : decode cX7_isAgainst 97 = .ok (.iaload, 1) := by decide +kernel
theorem dX7_isAgainst_98 : decode cX7_isAgainst 98 = .ok (.iload_n 2, 1) := by decide +kernel
theorem dX7_isAgainst_99 : decode cX7_isAgainst 99 = .ok (.invokestatic 132, 3) := by decide +kernel
theorem dX7_isAgainst_102 : decode cX7_isAgainst 102 = .ok (.if_icmp .ne 5, 3) := by decide +kernel
theorem dX7_isAgainst_105 : decode cX7_isAgainst 105 = .ok (.iconst 1, 1) := by decide +kernel
theorem dX7_isAgainst_106 : decode cX7_isAgainst 106 = .ok (.ireturn, 1) := by decide +kernel
theorem dX7_isAgainst_107 : decode cX7_isAgainst 107 = .ok (.iinc 3 1, 3) := by decide +kernel
theorem dX7_isAgainst_110 : decode cX7_isAgainst 110 = .ok (.goto (-59), 3) := by decide +kernel
theorem dX7_isAgainst_113 : decode cX7_isAgainst 113 = .ok (.iconst 0, 1) := by decide +kernel
theorem dX7_isAgainst_114 : decode cX7_isAgainst 114 = .ok (.ireturn, 1) := by decide +kernel
set_option maxRecDepth 20000 in
theorem ggX7_reason_X7_laid : GoodIn wsX7_reason wsX7_laid := goodIn_r _ [7, 8, 9, 10, 11, 12, 13, 14, 6, 15, 16, 17, 18, 19, 20, 21, 22, 23, 24, 25, 26, 27, 28, 29, 30, 31, 32, 33, 34, 35, 36, 37, 38, 39, 40, 50, 51, 52, 53, 54, 55, 56, 57, 58, 59, 60, 61, 62, 63, 64, 65, 66, 67, 68, 69, 70, 71, 72, 73, 74, 75, 76, 77, 78] (by decide +kernel) (by decide +kernel)
set_option maxRecDepth 20000 in
theorem gX7_reason_X7_laid : GoodIn wsX7_reason (wsV RX7 136 RX7 yX7_laid wsX7_laid) := goodIn_app (goodIn_of _ (by decide +kernel)) ggX7_reason_X7_laid
set_option maxRecDepth 20000 in
theorem ggX7_reason_X7_isAgainst : GoodIn wsX7_reason wsX7_isAgainst := goodIn_r _ [44, 45, 1, 11, 2, 12, 46, 47, 48, 6, 49, 50, 51, 52, 53, 54, 55, 56, 57, 58, 59, 60, 61, 62, 63, 64, 65, 66, 67, 68, 69, 70, 71, 72, 73, 74, 75, 76, 77, 78] (by decide +kernel) (by decide +kernel)
set_option maxRecDepth 20000 in
theorem gX7_reason_X7_isAgainst : GoodIn wsX7_reason (wsV RX7 140 RX7 yX7_isAgainst wsX7_isAgainst) := goodIn_app (goodIn_of _ (by decide +kernel)) ggX7_reason_X7_isAgainst
theorem dX7_reason_0 : decode cX7_reason 0 = .ok (.aload_n 0, 1) := by decide +kernel
theorem dX7_reason_1 : decode cX7_reason 1 = .ok (.aload_n 0, 1) := by decide +kernel
theorem dX7_reason_2 : decode cX7_reason 2 = .ok (.getfield 24, 3) := by decide +kernel
theorem dX7_reason_5 : decode cX7_reason 5 = .ok (.iload_n 1, 1) := by decide +kernel
theorem dX7_reason_6 : decode cX7_reason 6 = .ok (.laload, 1) := by decide +kernel
theorem dX7_reason_7 : decode cX7_reason 7 = .ok (.aload_n 0, 1) := by decide +kernel
theorem dX7_reason_8 : decode cX7_reason 8 = .ok (.getfield 27, 3) := by decide +kernel
theorem dX7_reason_11 : decode cX7_reason 11 = .ok (.iload_n 1, 1) := by decide +kernel
theorem dX7_reason_12 : decode cX7_reason 12 = .ok (.laload, 1) := by decide +kernel
theorem dX7_reason_13 : decode cX7_reason 13 = .ok (.iload_n 2, 1) := by decide +kernel
theorem dX7_reason_14 : decode cX7_reason 14 = .ok (.iload_n 3, 1) := by decide +kernel
theorem dX7_reason_15 : decode cX7_reason 15 = .ok (.invokevirtual 136, 3) := by decide +kernel
theorem dX7_reason_18 : decode cX7_reason 18 = .ok (.istore 4, 2) := by decide +kernel
theorem dX7_reason_20 : decode cX7_reason 20 = .ok (.iload 4, 2) := by decide +kernel
theorem dX7_reason_22 : decode cX7_reason 22 = .ok (.ifCond .eq 8, 3) := by decide +kernel
theorem dX7_reason_25 : decode cX7_reason 25 = .ok (.iload 4, 2) := by decide +kernel
theorem dX7_reason_27 : decode cX7_reason 27 = .ok (.goto 17, 3) := by decide +kernel
theorem dX7_reason_30 : decode cX7_reason 30 = .ok (.aload_n 0, 1) := by decide +kernel
theorem dX7_reason_31 : decode cX7_reason 31 = .ok (.iload_n 1, 1) := by decide +kernel
theorem dX7_reason_32 : decode cX7_reason 32 = .ok (.iload_n 2, 1) := by decide +kernel
theorem dX7_reason_33 : decode cX7_reason 33 = .ok (.invokevirtual 140, 3) := by decide +kernel
theorem dX7_reason_36 : decode cX7_reason 36 = .ok (.ifCond .eq 7, 3) := by decide +kernel
theorem dX7_reason_39 : decode cX7_reason 39 = .ok (.iconst 3, 1) := by decide +kernel
theorem dX7_reason_40 : decode cX7_reason 40 = .ok (.goto 4, 3) := by decide +kernel
theorem dX7_reason_43 : decode cX7_reason 43 = .ok (.iconst 0, 1) := by decide +kernel
theorem dX7_reason_44 : decode cX7_reason 44 = .ok (.ireturn, 1) := by decide +kernel
set_option maxRecDepth 20000 in
theorem ggX7_board_X7_in : GoodIn wsX7_board wsX7_in := goodIn_r _ [5] (by decide +kernel) (by decide +kernel)
set_option maxRecDepth 20000 in
theorem gX7_board_X7_in : GoodIn wsX7_board (va_wsS RX7 93 yX7_in wsX7_in) := goodIn_app (goodIn_of _ (by decide +kernel)) ggX7_board_X7_in
set_option maxRecDepth 20000 in
theorem ggX7_board_X7_lays : GoodIn wsX7_board wsX7_lays := goodIn_r _ [9, 10, 11, 12, 1, 13, 14, 15, 16, 17, 18, 19, 20, 21, 22, 23, 24, 25, 26, 27, 28, 29, 30, 31, 32, 33, 34, 35, 36, 37, 38, 39, 40, 41, 42, 43, 44, 45, 46, 47] (by decide +kernel) (by decide +kernel)
set_option maxRecDepth 20000 in
theorem gX7_board_X7_lays : GoodIn wsX7_board (wsV RX7 79 RX7 yX7_lays wsX7_lays) := goodIn_app (goodIn_of _ (by decide +kernel)) ggX7_board_X7_lays
theorem dX7_board_0 : decode cX7_board 0 = .ok (.iload_n 1, 1) := by decide +kernel
theorem dX7_board_1 : decode cX7_board 1 = .ok (.iconst 2, 1) := by decide +kernel
theorem dX7_board_2 : decode cX7_board 2 = .ok (.bipush 7, 2) := by decide +kernel
theorem dX7_board_4 : decode cX7_board 4 = .ok (.invokestatic 93, 3) := by decide +kernel
theorem dX7_board_7 : decode cX7_board 7 = .ok (.ifCond .eq 22, 3) := by decide +kernel
theorem dX7_board_10 : decode cX7_board 10 = .ok (.iload_n 2, 1) := by decide +kernel
theorem dX7_board_11 : decode cX7_board 11 = .ok (.iconst 2, 1) := by decide +kernel
theorem dX7_board_12 : decode cX7_board 12 = .ok (.bipush 7, 2) := by decide +kernel
theorem dX7_board_14 : decode cX7_board 14 = .ok (.invokestatic 93, 3) := by decide +kernel
theorem dX7_board_17 : decode cX7_board 17 = .ok (.ifCond .eq 12, 3) := by decide +kernel
theorem dX7_board_20 : decode cX7_board 20 = .ok (.iload_n 3, 1) := by decide +kernel
theorem dX7_board_21 : decode cX7_board 21 = .ok (.iconst 0, 1) := by decide +kernel
theorem dX7_board_22 : decode cX7_board 22 = .ok (.iconst 2, 1) := by decide +kernel
theorem dX7_board_23 : decode cX7_board 23 = .ok (.invokestatic 93, 3) := by decide +kernel
theorem dX7_board_26 : decode cX7_board 26 = .ok (.ifCond .ne 6, 3) := by decide +kernel
theorem dX7_board_29 : decode cX7_board 29 = .ok (.bipush (-2), 2) := by decide +kernel
theorem dX7_board_31 : decode cX7_board 31 = .ok (.ireturn, 1) := by decide +kernel
theorem dX7_board_32 : decode cX7_board 32 = .ok (.aload_n 0, 1) := by decide +kernel
theorem dX7_board_33 : decode cX7_board 33 = .ok (.getfield 86, 3) := by decide +kernel
theorem dX7_board_36 : decode cX7_board 36 = .ok (.istore 4, 2) := by decide +kernel
theorem dX7_board_38 : decode cX7_board 38 = .ok (.aload_n 0, 1) := by decide +kernel
theorem dX7_board_39 : decode cX7_board 39 = .ok (.iload_n 1, 1) := by decide +kernel
theorem dX7_board_40 : decode cX7_board 40 = .ok (.iload_n 2, 1) := by decide +kernel
theorem dX7_board_41 : decode cX7_board 41 = .ok (.iload_n 3, 1) := by decide +kernel
theorem dX7_board_42 : decode cX7_board 42 = .ok (.invokevirtual 79, 3) := by decide +kernel
theorem dX7_board_45 : decode cX7_board 45 = .ok (.iload 4, 2) := by decide +kernel
theorem dX7_board_47 : decode cX7_board 47 = .ok (.ireturn, 1) := by decide +kernel
set_option maxRecDepth 20000 in
theorem ggX7_set_X7_isCrossing : GoodIn wsX7_set wsX7_isCrossing := goodIn_r _ [10, 11, 12, 13, 9, 14, 15, 16, 17, 18, 19, 37, 38, 39, 40, 41, 42, 43, 44, 45, 46, 47, 48, 49, 50, 51, 52, 53, 54, 55, 56, 57, 58, 59, 60, 61, 62, 63, 64, 65] (by decide +kernel) (by decide +kernel)
set_option maxRecDepth 20000 in
theorem gX7_set_X7_isCrossing : GoodIn wsX7_set (wsV RX7 144 RX7 yX7_isCrossing wsX7_isCrossing) := goodIn_app (goodIn_of _ (by decide +kernel)) ggX7_set_X7_isCrossing
set_option maxRecDepth 20000 in
theorem ggX7_set_X7_in : GoodIn wsX7_set wsX7_in := goodIn_r _ [19] (by decide +kernel) (by decide +kernel)
set_option maxRecDepth 20000 in
theorem gX7_set_X7_in : GoodIn wsX7_set (va_wsS RX7 93 yX7_in wsX7_in) := goodIn_app (goodIn_of _ (by decide +kernel)) ggX7_set_X7_in
set_option maxRecDepth 20000 in
theorem ggX7_set_X7_size : GoodIn wsX7_set wsX7_size := goodIn_r _ [14, 15, 16, 37, 38, 39, 40, 41, 42, 43, 44, 45, 46, 47, 48, 49, 50, 51, 52, 53, 54, 55, 56, 57, 58, 59, 60, 61, 62, 63, 64, 65] (by decide +kernel) (by decide +kernel)
set_option maxRecDepth 20000 in
theorem gX7_set_X7_size : GoodIn wsX7_set (wsV RX7 89 RX7 yX7_size wsX7_size) := goodIn_app (goodIn_of _ (by decide +kernel)) ggX7_set_X7_size
set_option maxRecDepth 20000 in
theorem ggX7_set_X7_spread : GoodIn wsX7_set wsX7_spread := goodIn_r _ [23, 24, 25, 26, 9, 27, 28, 11, 12, 13, 14, 15, 16, 37, 38, 39, 40, 41, 42, 43, 44, 45, 46, 47, 48, 49, 50, 51, 52, 53, 54, 55, 56, 57, 58, 59, 60, 61, 62, 63, 64, 65] (by decide +kernel) (by decide +kernel)
set_option maxRecDepth 20000 in
theorem gX7_set_X7_spread : GoodIn wsX7_set (wsV RX7 111 RX7 yX7_spread wsX7_spread) := goodIn_app (goodIn_of _ (by decide +kernel)) ggX7_set_X7_spread
set_option maxRecDepth 20000 in
theorem ggX7_set_X7_around : GoodIn wsX7_set wsX7_around := goodIn_r _ [27, 28, 11, 12, 13, 9, 14, 15, 16, 37, 38, 39, 40, 41, 42, 43, 44, 45, 46, 47, 48, 49, 50, 51, 52, 53, 54, 55, 56, 57, 58, 59, 60, 61, 62, 63, 64, 65] (by decide +kernel) (by decide +kernel)
set_option maxRecDepth 20000 in
theorem gX7_set_X7_around : GoodIn wsX7_set (wsV RX7 97 RX7 yX7_around wsX7_around) := goodIn_app (goodIn_of _ (by decide +kernel)) ggX7_set_X7_around
set_option maxRecDepth 20000 in
theorem ggX7_set_X7_free : GoodIn wsX7_set wsX7_free := goodIn_r _ [32, 2, 33, 34, 35, 9, 36, 11, 12, 13, 14, 15, 16, 37, 38, 39, 40, 41, 42, 43, 44, 45, 46, 47, 48, 49, 50, 51, 52, 53, 54, 55, 56, 57, 58, 59, 60, 61, 62, 63, 64, 65] (by decide +kernel) (by decide +kernel)
set_option maxRecDepth 20000 in
theorem gX7_set_X7_free : GoodIn wsX7_set (wsV RX7 129 RX7 yX7_free wsX7_free) := goodIn_app (goodIn_of _ (by decide +kernel)) ggX7_set_X7_free
theorem dX7_set_0 : decode cX7_set 0 = .ok (.aload_n 0, 1) := by decide +kernel
theorem dX7_set_1 : decode cX7_set 1 = .ok (.iload_n 1, 1) := by decide +kernel
theorem dX7_set_2 : decode cX7_set 2 = .ok (.invokevirtual 144, 3) := by decide +kernel
theorem dX7_set_5 : decode cX7_set 5 = .ok (.ifCond .eq 21, 3) := by decide +kernel
theorem dX7_set_8 : decode cX7_set 8 = .ok (.iload_n 2, 1) := by decide +kernel
theorem dX7_set_9 : decode cX7_set 9 = .ok (.iconst 0, 1) := by decide +kernel
theorem dX7_set_10 : decode cX7_set 10 = .ok (.iconst 2, 1) := by decide +kernel
theorem dX7_set_11 : decode cX7_set 11 = .ok (.invokestatic 93, 3) := by decide +kernel
theorem dX7_set_14 : decode cX7_set 14 = .ok (.ifCond .eq 12, 3) := by decide +kernel
theorem dX7_set_17 : decode cX7_set 17 = .ok (.iload_n 3, 1) := by decide +kernel
theorem dX7_set_18 : decode cX7_set 18 = .ok (.iconst 1, 1) := by decide +kernel
theorem dX7_set_19 : decode cX7_set 19 = .ok (.iconst 2, 1) := by decide +kernel
theorem dX7_set_20 : decode cX7_set 20 = .ok (.invokestatic 93, 3) := by decide +kernel
theorem dX7_set_23 : decode cX7_set 23 = .ok (.ifCond .ne 6, 3) := by decide +kernel
theorem dX7_set_26 : decode cX7_set 26 = .ok (.bipush (-2), 2) := by decide +kernel
theorem dX7_set_28 : decode cX7_set 28 = .ok (.ireturn, 1) := by decide +kernel
theorem dX7_set_29 : decode cX7_set 29 = .ok (.lconst 1, 1) := by decide +kernel
theorem dX7_set_30 : decode cX7_set 30 = .ok (.iload_n 1, 1) := by decide +kernel
theorem dX7_set_31 : decode cX7_set 31 = .ok (.lshl, 1) := by decide +kernel
theorem dX7_set_32 : decode cX7_set 32 = .ok (.lstore 4, 2) := by decide +kernel
theorem dX7_set_34 : decode cX7_set 34 = .ok (.aload_n 0, 1) := by decide +kernel
theorem dX7_set_35 : decode cX7_set 35 = .ok (.getfield 24, 3) := by decide +kernel
theorem dX7_set_38 : decode cX7_set 38 = .ok (.iconst 0, 1) := by decide +kernel
theorem dX7_set_39 : decode cX7_set 39 = .ok (.laload, 1) := by decide +kernel
theorem dX7_set_40 : decode cX7_set 40 = .ok (.lload 4, 2) := by decide +kernel
theorem dX7_set_42 : decode cX7_set 42 = .ok (.ldc2_w 105, 3) := by decide +kernel
theorem dX7_set_45 : decode cX7_set 45 = .ok (.lxor, 1) := by decide +kernel
theorem dX7_set_46 : decode cX7_set 46 = .ok (.land, 1) := by decide +kernel
theorem dX7_set_47 : decode cX7_set 47 = .ok (.iload_n 2, 1) := by decide +kernel
theorem dX7_set_48 : decode cX7_set 48 = .ok (.iconst 1, 1) := by decide +kernel
theorem dX7_set_49 : decode cX7_set 49 = .ok (.if_icmp .ne 8, 3) := by decide +kernel
theorem dX7_set_52 : decode cX7_set 52 = .ok (.lload 4, 2) := by decide +kernel
theorem dX7_set_54 : decode cX7_set 54 = .ok (.goto 4, 3) := by decide +kernel
theorem dX7_set_57 : decode cX7_set 57 = .ok (.lconst 0, 1) := by decide +kernel
theorem dX7_set_58 : decode cX7_set 58 = .ok (.lor, 1) := by decide +kernel
theorem dX7_set_59 : decode cX7_set 59 = .ok (.lstore 6, 2) := by decide +kernel
theorem dX7_set_61 : decode cX7_set 61 = .ok (.aload_n 0, 1) := by decide +kernel
theorem dX7_set_62 : decode cX7_set 62 = .ok (.getfield 27, 3) := by decide +kernel
theorem dX7_set_65 : decode cX7_set 65 = .ok (.iconst 0, 1) := by decide +kernel
theorem dX7_set_66 : decode cX7_set 66 = .ok (.laload, 1) := by decide +kernel
theorem dX7_set_67 : decode cX7_set 67 = .ok (.lload 4, 2) := by decide +kernel
theorem dX7_set_69 : decode cX7_set 69 = .ok (.ldc2_w 105, 3) := by decide +kernel
theorem dX7_set_72 : decode cX7_set 72 = .ok (.lxor, 1) := by decide +kernel
theorem dX7_set_73 : decode cX7_set 73 = .ok (.land, 1) := by decide +kernel
theorem dX7_set_74 : decode cX7_set 74 = .ok (.iload_n 2, 1) := by decide +kernel
theorem dX7_set_75 : decode cX7_set 75 = .ok (.iconst 2, 1) := by decide +kernel
theorem dX7_set_76 : decode cX7_set 76 = .ok (.if_icmp .ne 8, 3) := by decide +kernel
theorem dX7_set_79 : decode cX7_set 79 = .ok (.lload 4, 2) := by decide +kernel
theorem dX7_set_81 : decode cX7_set 81 = .ok (.goto 4, 3) := by decide +kernel
theorem dX7_set_84 : decode cX7_set 84 = .ok (.lconst 0, 1) := by decide +kernel
theorem dX7_set_85 : decode cX7_set 85 = .ok (.lor, 1) := by decide +kernel
theorem dX7_set_86 : decode cX7_set 86 = .ok (.lstore 8, 2) := by decide +kernel
theorem dX7_set_88 : decode cX7_set 88 = .ok (.aload_n 0, 1) := by decide +kernel
theorem dX7_set_89 : decode cX7_set 89 = .ok (.getfield 86, 3) := by decide +kernel
theorem dX7_set_92 : decode cX7_set 92 = .ok (.ifCond .ne 7, 3) := by decide +kernel
theorem dX7_set_95 : decode cX7_set 95 = .ok (.iconst 1, 1) := by decide +kernel
theorem dX7_set_96 : decode cX7_set 96 = .ok (.goto 4, 3) := by decide +kernel
theorem dX7_set_99 : decode cX7_set 99 = .ok (.iconst 0, 1) := by decide +kernel
theorem dX7_set_100 : decode cX7_set 100 = .ok (.istore 10, 2) := by decide +kernel
theorem dX7_set_102 : decode cX7_set 102 = .ok (.iconst 0, 1) := by decide +kernel
theorem dX7_set_103 : decode cX7_set 103 = .ok (.istore 11, 2) := by decide +kernel
theorem dX7_set_105 : decode cX7_set 105 = .ok (.iload 11, 2) := by decide +kernel
theorem dX7_set_107 : decode cX7_set 107 = .ok (.aload_n 0, 1) := by decide +kernel
theorem dX7_set_108 : decode cX7_set 108 = .ok (.invokevirtual 89, 3) := by decide +kernel
theorem dX7_set_111 : decode cX7_set 111 = .ok (.if_icmp .ge 82, 3) := by decide +kernel
theorem dX7_set_114 : decode cX7_set 114 = .ok (.iload 10, 2) := by decide +kernel
theorem dX7_set_116 : decode cX7_set 116 = .ok (.ifCond .eq 77, 3) := by decide +kernel
theorem dX7_set_119 : decode cX7_set 119 = .ok (.lconst 1, 1) := by decide +kernel
theorem dX7_set_120 : decode cX7_set 120 = .ok (.iload 11, 2) := by decide +kernel
theorem dX7_set_122 : decode cX7_set 122 = .ok (.lshl, 1) := by decide +kernel
theorem dX7_set_123 : decode cX7_set 123 = .ok (.lstore 12, 2) := by decide +kernel
theorem dX7_set_125 : decode cX7_set 125 = .ok (.lload 6, 2) := by decide +kernel
theorem dX7_set_127 : decode cX7_set 127 = .ok (.lload 12, 2) := by decide +kernel
theorem dX7_set_129 : decode cX7_set 129 = .ok (.land, 1) := by decide +kernel
theorem dX7_set_130 : decode cX7_set 130 = .ok (.lconst 0, 1) := by decide +kernel
theorem dX7_set_131 : decode cX7_set 131 = .ok (.lcmp, 1) := by decide +kernel
theorem dX7_set_132 : decode cX7_set 132 = .ok (.ifCond .eq 8, 3) := by decide +kernel
theorem dX7_set_135 : decode cX7_set 135 = .ok (.lload 6, 2) := by decide +kernel
theorem dX7_set_137 : decode cX7_set 137 = .ok (.goto 5, 3) := by decide +kernel
theorem dX7_set_140 : decode cX7_set 140 = .ok (.lload 8, 2) := by decide +kernel
theorem dX7_set_142 : decode cX7_set 142 = .ok (.lstore 14, 2) := by decide +kernel
theorem dX7_set_144 : decode cX7_set 144 = .ok (.lload 14, 2) := by decide +kernel
theorem dX7_set_146 : decode cX7_set 146 = .ok (.lload 12, 2) := by decide +kernel
theorem dX7_set_148 : decode cX7_set 148 = .ok (.land, 1) := by decide +kernel
theorem dX7_set_149 : decode cX7_set 149 = .ok (.lconst 0, 1) := by decide +kernel
theorem dX7_set_150 : decode cX7_set 150 = .ok (.lcmp, 1) := by decide +kernel
theorem dX7_set_151 : decode cX7_set 151 = .ok (.ifCond .eq 29, 3) := by decide +kernel
theorem dX7_set_154 : decode cX7_set 154 = .ok (.aload_n 0, 1) := by decide +kernel
theorem dX7_set_155 : decode cX7_set 155 = .ok (.aload_n 0, 1) := by decide +kernel
theorem dX7_set_156 : decode cX7_set 156 = .ok (.lload 12, 2) := by decide +kernel
theorem dX7_set_158 : decode cX7_set 158 = .ok (.lload 14, 2) := by decide +kernel
theorem dX7_set_160 : decode cX7_set 160 = .ok (.invokevirtual 111, 3) := by decide +kernel
theorem dX7_set_163 : decode cX7_set 163 = .ok (.invokevirtual 97, 3) := by decide +kernel
theorem dX7_set_166 : decode cX7_set 166 = .ok (.aload_n 0, 1) := by decide +kernel
theorem dX7_set_167 : decode cX7_set 167 = .ok (.lload 6, 2) := by decide +kernel
theorem dX7_set_169 : decode cX7_set 169 = .ok (.lload 8, 2) := by decide +kernel
theorem dX7_set_171 : decode cX7_set 171 = .ok (.invokevirtual 129, 3) := by decide +kernel
theorem dX7_set_174 : decode cX7_set 174 = .ok (.land, 1) := by decide +kernel
theorem dX7_set_175 : decode cX7_set 175 = .ok (.lconst 0, 1) := by decide +kernel
theorem dX7_set_176 : decode cX7_set 176 = .ok (.lcmp, 1) := by decide +kernel
theorem dX7_set_177 : decode cX7_set 177 = .ok (.ifCond .eq 7, 3) := by decide +kernel
theorem dX7_set_180 : decode cX7_set 180 = .ok (.iconst 1, 1) := by decide +kernel
theorem dX7_set_181 : decode cX7_set 181 = .ok (.goto 4, 3) := by decide +kernel
theorem dX7_set_184 : decode cX7_set 184 = .ok (.iconst 0, 1) := by decide +kernel
theorem dX7_set_185 : decode cX7_set 185 = .ok (.istore 10, 2) := by decide +kernel
theorem dX7_set_187 : decode cX7_set 187 = .ok (.iinc 11 1, 3) := by decide +kernel
theorem dX7_set_190 : decode cX7_set 190 = .ok (.goto (-85), 3) := by decide +kernel
theorem dX7_set_193 : decode cX7_set 193 = .ok (.iload 10, 2) := by decide +kernel
theorem dX7_set_195 : decode cX7_set 195 = .ok (.ifCond .ne 6, 3) := by decide +kernel
theorem dX7_set_198 : decode cX7_set 198 = .ok (.bipush (-3), 2) := by decide +kernel
theorem dX7_set_200 : decode cX7_set 200 = .ok (.ireturn, 1) := by decide +kernel
theorem dX7_set_201 : decode cX7_set 201 = .ok (.aload_n 0, 1) := by decide +kernel
theorem dX7_set_202 : decode cX7_set 202 = .ok (.getfield 24, 3) := by decide +kernel
theorem dX7_set_205 : decode cX7_set 205 = .ok (.iconst 0, 1) := by decide +kernel
theorem dX7_set_206 : decode cX7_set 206 = .ok (.lload 6, 2) := by decide +kernel
theorem dX7_set_208 : decode cX7_set 208 = .ok (.lastore, 1) := by decide +kernel
theorem dX7_set_209 : decode cX7_set 209 = .ok (.aload_n 0, 1) := by decide +kernel
theorem dX7_set_210 : decode cX7_set 210 = .ok (.getfield 27, 3) := by decide +kernel
theorem dX7_set_213 : decode cX7_set 213 = .ok (.iconst 0, 1) := by decide +kernel
theorem dX7_set_214 : decode cX7_set 214 = .ok (.lload 8, 2) := by decide +kernel
theorem dX7_set_216 : decode cX7_set 216 = .ok (.lastore, 1) := by decide +kernel
theorem dX7_set_217 : decode cX7_set 217 = .ok (.aload_n 0, 1) := by decide +kernel
theorem dX7_set_218 : decode cX7_set 218 = .ok (.getfield 30, 3) := by decide +kernel
theorem dX7_set_221 : decode cX7_set 221 = .ok (.iconst 0, 1) := by decide +kernel
theorem dX7_set_222 : decode cX7_set 222 = .ok (.iload_n 3, 1) := by decide +kernel
theorem dX7_set_223 : decode cX7_set 223 = .ok (.iastore, 1) := by decide +kernel
theorem dX7_set_224 : decode cX7_set 224 = .ok (.iconst 1, 1) := by decide +kernel
theorem dX7_set_225 : decode cX7_set 225 = .ok (.ireturn, 1) := by decide +kernel
set_option maxRecDepth 20000 in
theorem ggX7_acted_X7_size : GoodIn wsX7_acted wsX7_size := goodIn_r _ [13, 14, 15, 19, 20, 21, 22, 23, 24, 25, 26, 27, 28, 29, 30, 31, 32, 33, 34, 35, 36, 37, 38, 39, 40, 41, 42, 43, 44, 45, 46, 47] (by decide +kernel) (by decide +kernel)
set_option maxRecDepth 20000 in
theorem gX7_acted_X7_size : GoodIn wsX7_acted (wsV RX7 89 RX7 yX7_size wsX7_size) := goodIn_app (goodIn_of _ (by decide +kernel)) ggX7_acted_X7_size
set_option maxRecDepth 20000 in
theorem ggX7_acted_X7_other : GoodIn wsX7_acted wsX7_other := goodIn_r _ [18] (by decide +kernel) (by decide +kernel)
set_option maxRecDepth 20000 in
theorem gX7_acted_X7_other : GoodIn wsX7_acted (va_wsS RX7 132 yX7_other wsX7_other) := goodIn_app (goodIn_of _ (by decide +kernel)) ggX7_acted_X7_other
theorem dX7_acted_0 : decode cX7_acted 0 = .ok (.aload_n 0, 1) := by decide +kernel
theorem dX7_acted_1 : decode cX7_acted 1 = .ok (.getfield 20, 3) := by decide +kernel
theorem dX7_acted_4 : decode cX7_acted 4 = .ok (.aload_n 0, 1) := by decide +kernel
theorem dX7_acted_5 : decode cX7_acted 5 = .ok (.getfield 86, 3) := by decide +kernel
theorem dX7_acted_8 : decode cX7_acted 8 = .ok (.iload_n 1, 1) := by decide +kernel
theorem dX7_acted_9 : decode cX7_acted 9 = .ok (.iastore, 1) := by decide +kernel
theorem dX7_acted_10 : decode cX7_acted 10 = .ok (.aload_n 0, 1) := by decide +kernel
theorem dX7_acted_11 : decode cX7_acted 11 = .ok (.getfield 30, 3) := by decide +kernel
theorem dX7_acted_14 : decode cX7_acted 14 = .ok (.aload_n 0, 1) := by decide +kernel
theorem dX7_acted_15 : decode cX7_acted 15 = .ok (.getfield 86, 3) := by decide +kernel
theorem dX7_acted_18 : decode cX7_acted 18 = .ok (.iaload, 1) := by decide +kernel
theorem dX7_acted_19 : decode cX7_acted 19 = .ok (.istore 6, 2) := by decide +kernel
theorem dX7_acted_21 : decode cX7_acted 21 = .ok (.aload_n 0, 1) := by decide +kernel
theorem dX7_acted_22 : decode cX7_acted 22 = .ok (.getfield 33, 3) := by decide +kernel
theorem dX7_acted_25 : decode cX7_acted 25 = .ok (.aload_n 0, 1) := by decide +kernel
theorem dX7_acted_26 : decode cX7_acted 26 = .ok (.getfield 86, 3) := by decide +kernel
theorem dX7_acted_29 : decode cX7_acted 29 = .ok (.iconst 1, 1) := by decide +kernel
theorem dX7_acted_30 : decode cX7_acted 30 = .ok (.iadd, 1) := by decide +kernel
theorem dX7_acted_31 : decode cX7_acted 31 = .ok (.aload_n 0, 1) := by decide +kernel
theorem dX7_acted_32 : decode cX7_acted 32 = .ok (.getfield 33, 3) := by decide +kernel
theorem dX7_acted_35 : decode cX7_acted 35 = .ok (.aload_n 0, 1) := by decide +kernel
theorem dX7_acted_36 : decode cX7_acted 36 = .ok (.getfield 86, 3) := by decide +kernel
theorem dX7_acted_39 : decode cX7_acted 39 = .ok (.iaload, 1) := by decide +kernel
theorem dX7_acted_40 : decode cX7_acted 40 = .ok (.iload 6, 2) := by decide +kernel
theorem dX7_acted_42 : decode cX7_acted 42 = .ok (.iconst 1, 1) := by decide +kernel
theorem dX7_acted_43 : decode cX7_acted 43 = .ok (.if_icmp .eq 11, 3) := by decide +kernel
theorem dX7_acted_46 : decode cX7_acted 46 = .ok (.iload_n 1, 1) := by decide +kernel
theorem dX7_acted_47 : decode cX7_acted 47 = .ok (.aload_n 0, 1) := by decide +kernel
theorem dX7_acted_48 : decode cX7_acted 48 = .ok (.invokevirtual 89, 3) := by decide +kernel
theorem dX7_acted_51 : decode cX7_acted 51 = .ok (.if_icmp .ne 7, 3) := by decide +kernel
theorem dX7_acted_54 : decode cX7_acted 54 = .ok (.iconst 0, 1) := by decide +kernel
theorem dX7_acted_55 : decode cX7_acted 55 = .ok (.goto 7, 3) := by decide +kernel
theorem dX7_acted_58 : decode cX7_acted 58 = .ok (.aload_n 0, 1) := by decide +kernel
theorem dX7_acted_59 : decode cX7_acted 59 = .ok (.getfield 119, 3) := by decide +kernel
theorem dX7_acted_62 : decode cX7_acted 62 = .ok (.iadd, 1) := by decide +kernel
theorem dX7_acted_63 : decode cX7_acted 63 = .ok (.iastore, 1) := by decide +kernel
theorem dX7_acted_64 : decode cX7_acted 64 = .ok (.aload_n 0, 1) := by decide +kernel
theorem dX7_acted_65 : decode cX7_acted 65 = .ok (.getfield 36, 3) := by decide +kernel
theorem dX7_acted_68 : decode cX7_acted 68 = .ok (.aload_n 0, 1) := by decide +kernel
theorem dX7_acted_69 : decode cX7_acted 69 = .ok (.getfield 86, 3) := by decide +kernel
theorem dX7_acted_72 : decode cX7_acted 72 = .ok (.iconst 1, 1) := by decide +kernel
theorem dX7_acted_73 : decode cX7_acted 73 = .ok (.iadd, 1) := by decide +kernel
theorem dX7_acted_74 : decode cX7_acted 74 = .ok (.aload_n 0, 1) := by decide +kernel
theorem dX7_acted_75 : decode cX7_acted 75 = .ok (.getfield 36, 3) := by decide +kernel
theorem dX7_acted_78 : decode cX7_acted 78 = .ok (.aload_n 0, 1) := by decide +kernel
theorem dX7_acted_79 : decode cX7_acted 79 = .ok (.getfield 86, 3) := by decide +kernel
theorem dX7_acted_82 : decode cX7_acted 82 = .ok (.iaload, 1) := by decide +kernel
theorem dX7_acted_83 : decode cX7_acted 83 = .ok (.iload 6, 2) := by decide +kernel
theorem dX7_acted_85 : decode cX7_acted 85 = .ok (.iconst 1, 1) := by decide +kernel
theorem dX7_acted_86 : decode cX7_acted 86 = .ok (.if_icmp .ne 18, 3) := by decide +kernel
theorem dX7_acted_89 : decode cX7_acted 89 = .ok (.iload_n 1, 1) := by decide +kernel
theorem dX7_acted_90 : decode cX7_acted 90 = .ok (.aload_n 0, 1) := by decide +kernel
theorem dX7_acted_91 : decode cX7_acted 91 = .ok (.invokevirtual 89, 3) := by decide +kernel
theorem dX7_acted_94 : decode cX7_acted 94 = .ok (.if_icmp .ge 10, 3) := by decide +kernel
theorem dX7_acted_97 : decode cX7_acted 97 = .ok (.aload_n 0, 1) := by decide +kernel
theorem dX7_acted_98 : decode cX7_acted 98 = .ok (.getfield 119, 3) := by decide +kernel
theorem dX7_acted_101 : decode cX7_acted 101 = .ok (.goto 4, 3) := by decide +kernel
theorem dX7_acted_104 : decode cX7_acted 104 = .ok (.iconst 0, 1) := by decide +kernel
theorem dX7_acted_105 : decode cX7_acted 105 = .ok (.iadd, 1) := by decide +kernel
theorem dX7_acted_106 : decode cX7_acted 106 = .ok (.iastore, 1) := by decide +kernel
theorem dX7_acted_107 : decode cX7_acted 107 = .ok (.aload_n 0, 1) := by decide +kernel
theorem dX7_acted_108 : decode cX7_acted 108 = .ok (.dup, 1) := by decide +kernel
theorem dX7_acted_109 : decode cX7_acted 109 = .ok (.getfield 86, 3) := by decide +kernel
theorem dX7_acted_112 : decode cX7_acted 112 = .ok (.iconst 1, 1) := by decide +kernel
theorem dX7_acted_113 : decode cX7_acted 113 = .ok (.iadd, 1) := by decide +kernel
theorem dX7_acted_114 : decode cX7_acted 114 = .ok (.putfield 86, 3) := by decide +kernel
theorem dX7_acted_117 : decode cX7_acted 117 = .ok (.aload_n 0, 1) := by decide +kernel
theorem dX7_acted_118 : decode cX7_acted 118 = .ok (.getfield 24, 3) := by decide +kernel
theorem dX7_acted_121 : decode cX7_acted 121 = .ok (.aload_n 0, 1) := by decide +kernel
theorem dX7_acted_122 : decode cX7_acted 122 = .ok (.getfield 86, 3) := by decide +kernel
theorem dX7_acted_125 : decode cX7_acted 125 = .ok (.lload_n 2, 1) := by decide +kernel
theorem dX7_acted_126 : decode cX7_acted 126 = .ok (.lastore, 1) := by decide +kernel
theorem dX7_acted_127 : decode cX7_acted 127 = .ok (.aload_n 0, 1) := by decide +kernel
theorem dX7_acted_128 : decode cX7_acted 128 = .ok (.getfield 27, 3) := by decide +kernel
theorem dX7_acted_131 : decode cX7_acted 131 = .ok (.aload_n 0, 1) := by decide +kernel
theorem dX7_acted_132 : decode cX7_acted 132 = .ok (.getfield 86, 3) := by decide +kernel
theorem dX7_acted_135 : decode cX7_acted 135 = .ok (.lload 4, 2) := by decide +kernel
theorem dX7_acted_137 : decode cX7_acted 137 = .ok (.lastore, 1) := by decide +kernel
theorem dX7_acted_138 : decode cX7_acted 138 = .ok (.aload_n 0, 1) := by decide +kernel
theorem dX7_acted_139 : decode cX7_acted 139 = .ok (.getfield 30, 3) := by decide +kernel
theorem dX7_acted_142 : decode cX7_acted 142 = .ok (.aload_n 0, 1) := by decide +kernel
theorem dX7_acted_143 : decode cX7_acted 143 = .ok (.getfield 86, 3) := by decide +kernel
theorem dX7_acted_146 : decode cX7_acted 146 = .ok (.iload 6, 2) := by decide +kernel
theorem dX7_acted_148 : decode cX7_acted 148 = .ok (.invokestatic 132, 3) := by decide +kernel
theorem dX7_acted_151 : decode cX7_acted 151 = .ok (.iastore, 1) := by decide +kernel
theorem dX7_acted_152 : decode cX7_acted 152 = .ok (.return_, 1) := by decide +kernel
set_option maxRecDepth 20000 in
theorem ggX7_lay_X7_isCrossing : GoodIn wsX7_lay wsX7_isCrossing := goodIn_r _ [10, 11, 12, 13, 9, 14, 15, 16, 17, 18, 19, 69, 70, 71, 72, 73, 74, 75, 76, 77, 78, 79, 80, 81, 82, 83, 84, 85, 86, 87, 88, 89, 90, 91, 92, 93, 94, 95, 96, 97] (by decide +kernel) (by decide +kernel)
set_option maxRecDepth 20000 in
theorem gX7_lay_X7_isCrossing : GoodIn wsX7_lay (wsV RX7 144 RX7 yX7_isCrossing wsX7_isCrossing) := goodIn_app (goodIn_of _ (by decide +kernel)) ggX7_lay_X7_isCrossing
set_option maxRecDepth 20000 in
theorem ggX7_lay_X7_reason : GoodIn wsX7_lay wsX7_reason := goodIn_r _ [23, 24, 25, 26, 27, 28, 9, 29, 30, 31, 3, 4, 5, 32, 33, 34, 35, 36, 37, 38, 39, 40, 41, 42, 11, 12, 13, 14, 15, 16, 43, 44, 45, 46, 47, 48, 49, 50, 51, 52, 53, 54, 55, 56, 57, 58, 2, 59, 60, 61, 69, 70, 71, 72, 73, 74, 75, 76, 77, 78, 79, 80, 81, 82, 83, 84, 85, 86, 87, 88, 89, 90, 91, 92, 93, 94, 95, 96, 97] (by decide +kernel) (by decide +kernel)
set_option maxRecDepth 20000 in
theorem gX7_lay_X7_reason : GoodIn wsX7_lay (wsV RX7 148 RX7 yX7_reason wsX7_reason) := goodIn_app (goodIn_of _ (by decide +kernel)) ggX7_lay_X7_reason
set_option maxRecDepth 20000 in
theorem ggX7_lay_X7_acted : GoodIn wsX7_lay wsX7_acted := goodIn_r _ [65, 66, 1, 2, 67, 3, 68, 24, 25, 11, 12, 13, 9, 14, 15, 16, 59, 60, 61, 69, 70, 71, 72, 73, 74, 75, 76, 77, 78, 79, 80, 81, 82, 83, 84, 85, 86, 87, 88, 89, 90, 91, 92, 93, 94, 95, 96, 97] (by decide +kernel) (by decide +kernel)
set_option maxRecDepth 20000 in
theorem gX7_lay_X7_acted : GoodIn wsX7_lay (wsV RX7 152 RX7 yX7_acted wsX7_acted) := goodIn_app (goodIn_of _ (by decide +kernel)) ggX7_lay_X7_acted
theorem dX7_lay_0 : decode cX7_lay 0 = .ok (.aload_n 0, 1) := by decide +kernel
theorem dX7_lay_1 : decode cX7_lay 1 = .ok (.iload_n 1, 1) := by decide +kernel
theorem dX7_lay_2 : decode cX7_lay 2 = .ok (.invokevirtual 144, 3) := by decide +kernel
theorem dX7_lay_5 : decode cX7_lay 5 = .ok (.ifCond .ne 6, 3) := by decide +kernel
theorem dX7_lay_8 : decode cX7_lay 8 = .ok (.bipush (-2), 2) := by decide +kernel
theorem dX7_lay_10 : decode cX7_lay 10 = .ok (.ireturn, 1) := by decide +kernel
theorem dX7_lay_11 : decode cX7_lay 11 = .ok (.aload_n 0, 1) := by decide +kernel
theorem dX7_lay_12 : decode cX7_lay 12 = .ok (.aload_n 0, 1) := by decide +kernel
theorem dX7_lay_13 : decode cX7_lay 13 = .ok (.getfield 86, 3) := by decide +kernel
theorem dX7_lay_16 : decode cX7_lay 16 = .ok (.aload_n 0, 1) := by decide +kernel
theorem dX7_lay_17 : decode cX7_lay 17 = .ok (.getfield 30, 3) := by decide +kernel
theorem dX7_lay_20 : decode cX7_lay 20 = .ok (.aload_n 0, 1) := by decide +kernel
theorem dX7_lay_21 : decode cX7_lay 21 = .ok (.getfield 86, 3) := by decide +kernel
theorem dX7_lay_24 : decode cX7_lay 24 = .ok (.iaload, 1) := by decide +kernel
theorem dX7_lay_25 : decode cX7_lay 25 = .ok (.iload_n 1, 1) := by decide +kernel
theorem dX7_lay_26 : decode cX7_lay 26 = .ok (.invokevirtual 148, 3) := by decide +kernel
theorem dX7_lay_29 : decode cX7_lay 29 = .ok (.ifCond .eq 6, 3) := by decide +kernel
theorem dX7_lay_32 : decode cX7_lay 32 = .ok (.bipush (-3), 2) := by decide +kernel
theorem dX7_lay_34 : decode cX7_lay 34 = .ok (.ireturn, 1) := by decide +kernel
theorem dX7_lay_35 : decode cX7_lay 35 = .ok (.aload_n 0, 1) := by decide +kernel
theorem dX7_lay_36 : decode cX7_lay 36 = .ok (.getfield 86, 3) := by decide +kernel
theorem dX7_lay_39 : decode cX7_lay 39 = .ok (.bipush 120, 2) := by decide +kernel
theorem dX7_lay_41 : decode cX7_lay 41 = .ok (.if_icmp .ne 6, 3) := by decide +kernel
theorem dX7_lay_44 : decode cX7_lay 44 = .ok (.bipush (-4), 2) := by decide +kernel
theorem dX7_lay_46 : decode cX7_lay 46 = .ok (.ireturn, 1) := by decide +kernel
theorem dX7_lay_47 : decode cX7_lay 47 = .ok (.aload_n 0, 1) := by decide +kernel
theorem dX7_lay_48 : decode cX7_lay 48 = .ok (.getfield 119, 3) := by decide +kernel
theorem dX7_lay_51 : decode cX7_lay 51 = .ok (.istore_n 2, 1) := by decide +kernel
theorem dX7_lay_52 : decode cX7_lay 52 = .ok (.aload_n 0, 1) := by decide +kernel
theorem dX7_lay_53 : decode cX7_lay 53 = .ok (.iload_n 1, 1) := by decide +kernel
theorem dX7_lay_54 : decode cX7_lay 54 = .ok (.aload_n 0, 1) := by decide +kernel
theorem dX7_lay_55 : decode cX7_lay 55 = .ok (.getfield 122, 3) := by decide +kernel
theorem dX7_lay_58 : decode cX7_lay 58 = .ok (.aload_n 0, 1) := by decide +kernel
theorem dX7_lay_59 : decode cX7_lay 59 = .ok (.getfield 126, 3) := by decide +kernel
theorem dX7_lay_62 : decode cX7_lay 62 = .ok (.invokevirtual 152, 3) := by decide +kernel
theorem dX7_lay_65 : decode cX7_lay 65 = .ok (.iload_n 2, 1) := by decide +kernel
theorem dX7_lay_66 : decode cX7_lay 66 = .ok (.ireturn, 1) := by decide +kernel
set_option maxRecDepth 20000 in
theorem ggX7_passes_X7_size : GoodIn wsX7_passes wsX7_size := goodIn_r _ [7, 8, 9, 10, 11, 12, 13, 14, 15, 16, 17, 18, 19, 20, 21, 22, 23, 24, 25, 26, 27, 28, 29, 30, 31, 32, 33, 34, 35, 36, 37, 38] (by decide +kernel) (by decide +kernel)
set_option maxRecDepth 20000 in
theorem gX7_passes_X7_size : GoodIn wsX7_passes (wsV RX7 89 RX7 yX7_size wsX7_size) := goodIn_app (goodIn_of _ (by decide +kernel)) ggX7_passes_X7_size
theorem dX7_passes_0 : decode cX7_passes 0 = .ok (.iconst 0, 1) := by decide +kernel
theorem dX7_passes_1 : decode cX7_passes 1 = .ok (.istore_n 1, 1) := by decide +kernel
theorem dX7_passes_2 : decode cX7_passes 2 = .ok (.iload_n 1, 1) := by decide +kernel
theorem dX7_passes_3 : decode cX7_passes 3 = .ok (.aload_n 0, 1) := by decide +kernel
theorem dX7_passes_4 : decode cX7_passes 4 = .ok (.getfield 86, 3) := by decide +kernel
theorem dX7_passes_7 : decode cX7_passes 7 = .ok (.if_icmp .ge 29, 3) := by decide +kernel
theorem dX7_passes_10 : decode cX7_passes 10 = .ok (.aload_n 0, 1) := by decide +kernel
theorem dX7_passes_11 : decode cX7_passes 11 = .ok (.getfield 20, 3) := by decide +kernel
theorem dX7_passes_14 : decode cX7_passes 14 = .ok (.aload_n 0, 1) := by decide +kernel
theorem dX7_passes_15 : decode cX7_passes 15 = .ok (.getfield 86, 3) := by decide +kernel
theorem dX7_passes_18 : decode cX7_passes 18 = .ok (.iconst 1, 1) := by decide +kernel
theorem dX7_passes_19 : decode cX7_passes 19 = .ok (.isub, 1) := by decide +kernel
theorem dX7_passes_20 : decode cX7_passes 20 = .ok (.iload_n 1, 1) := by decide +kernel
theorem dX7_passes_21 : decode cX7_passes 21 = .ok (.isub, 1) := by decide +kernel
theorem dX7_passes_22 : decode cX7_passes 22 = .ok (.iaload, 1) := by decide +kernel
theorem dX7_passes_23 : decode cX7_passes 23 = .ok (.aload_n 0, 1) := by decide +kernel
theorem dX7_passes_24 : decode cX7_passes 24 = .ok (.invokevirtual 89, 3) := by decide +kernel
theorem dX7_passes_27 : decode cX7_passes 27 = .ok (.if_icmp .ne 9, 3) := by decide +kernel
theorem dX7_passes_30 : decode cX7_passes 30 = .ok (.iinc 1 1, 3) := by decide +kernel
theorem dX7_passes_33 : decode cX7_passes 33 = .ok (.goto (-31), 3) := by decide +kernel
theorem dX7_passes_36 : decode cX7_passes 36 = .ok (.iload_n 1, 1) := by decide +kernel
theorem dX7_passes_37 : decode cX7_passes 37 = .ok (.ireturn, 1) := by decide +kernel
set_option maxRecDepth 20000 in
theorem ggX7_pass_X7_size : GoodIn wsX7_pass wsX7_size := goodIn_r _ [8, 9, 10, 27, 28, 29, 30, 31, 32, 33, 34, 35, 36, 37, 38, 39, 40, 41, 42, 43, 44, 45, 46, 47, 48, 49, 50, 51, 52, 53, 54, 55] (by decide +kernel) (by decide +kernel)
set_option maxRecDepth 20000 in
theorem gX7_pass_X7_size : GoodIn wsX7_pass (wsV RX7 89 RX7 yX7_size wsX7_size) := goodIn_app (goodIn_of _ (by decide +kernel)) ggX7_pass_X7_size
set_option maxRecDepth 20000 in
theorem ggX7_pass_X7_acted : GoodIn wsX7_pass wsX7_acted := goodIn_r _ [14, 15, 1, 16, 17, 18, 19, 2, 3, 4, 5, 6, 7, 8, 9, 10, 20, 21, 22, 27, 28, 29, 30, 31, 32, 33, 34, 35, 36, 37, 38, 39, 40, 41, 42, 43, 44, 45, 46, 47, 48, 49, 50, 51, 52, 53, 54, 55] (by decide +kernel) (by decide +kernel)
set_option maxRecDepth 20000 in
theorem gX7_pass_X7_acted : GoodIn wsX7_pass (wsV RX7 152 RX7 yX7_acted wsX7_acted) := goodIn_app (goodIn_of _ (by decide +kernel)) ggX7_pass_X7_acted
set_option maxRecDepth 20000 in
theorem ggX7_pass_X7_passes : GoodIn wsX7_pass wsX7_passes := goodIn_r _ [26, 1, 15, 4, 5, 6, 7, 8, 9, 10, 27, 28, 29, 30, 31, 32, 33, 34, 35, 36, 37, 38, 39, 40, 41, 42, 43, 44, 45, 46, 47, 48, 49, 50, 51, 52, 53, 54, 55] (by decide +kernel) (by decide +kernel)
set_option maxRecDepth 20000 in
theorem gX7_pass_X7_passes : GoodIn wsX7_pass (wsV RX7 156 RX7 yX7_passes wsX7_passes) := goodIn_app (goodIn_of _ (by decide +kernel)) ggX7_pass_X7_passes
theorem dX7_pass_0 : decode cX7_pass 0 = .ok (.aload_n 0, 1) := by decide +kernel
theorem dX7_pass_1 : decode cX7_pass 1 = .ok (.getfield 86, 3) := by decide +kernel
theorem dX7_pass_4 : decode cX7_pass 4 = .ok (.bipush 120, 2) := by decide +kernel
theorem dX7_pass_6 : decode cX7_pass 6 = .ok (.if_icmp .ne 6, 3) := by decide +kernel
theorem dX7_pass_9 : decode cX7_pass 9 = .ok (.bipush (-4), 2) := by decide +kernel
theorem dX7_pass_11 : decode cX7_pass 11 = .ok (.ireturn, 1) := by decide +kernel
theorem dX7_pass_12 : decode cX7_pass 12 = .ok (.aload_n 0, 1) := by decide +kernel
theorem dX7_pass_13 : decode cX7_pass 13 = .ok (.aload_n 0, 1) := by decide +kernel
theorem dX7_pass_14 : decode cX7_pass 14 = .ok (.invokevirtual 89, 3) := by decide +kernel
theorem dX7_pass_17 : decode cX7_pass 17 = .ok (.aload_n 0, 1) := by decide +kernel
theorem dX7_pass_18 : decode cX7_pass 18 = .ok (.getfield 24, 3) := by decide +kernel
theorem dX7_pass_21 : decode cX7_pass 21 = .ok (.aload_n 0, 1) := by decide +kernel
theorem dX7_pass_22 : decode cX7_pass 22 = .ok (.getfield 86, 3) := by decide +kernel
theorem dX7_pass_25 : decode cX7_pass 25 = .ok (.laload, 1) := by decide +kernel
theorem dX7_pass_26 : decode cX7_pass 26 = .ok (.aload_n 0, 1) := by decide +kernel
theorem dX7_pass_27 : decode cX7_pass 27 = .ok (.getfield 27, 3) := by decide +kernel
theorem dX7_pass_30 : decode cX7_pass 30 = .ok (.aload_n 0, 1) := by decide +kernel
theorem dX7_pass_31 : decode cX7_pass 31 = .ok (.getfield 86, 3) := by decide +kernel
theorem dX7_pass_34 : decode cX7_pass 34 = .ok (.laload, 1) := by decide +kernel
theorem dX7_pass_35 : decode cX7_pass 35 = .ok (.invokevirtual 152, 3) := by decide +kernel
theorem dX7_pass_38 : decode cX7_pass 38 = .ok (.aload_n 0, 1) := by decide +kernel
theorem dX7_pass_39 : decode cX7_pass 39 = .ok (.invokevirtual 156, 3) := by decide +kernel
theorem dX7_pass_42 : decode cX7_pass 42 = .ok (.ireturn, 1) := by decide +kernel
set_option maxRecDepth 20000 in
theorem ggX7_why_X7_isCrossing : GoodIn wsX7_why wsX7_isCrossing := goodIn_r _ [7, 8, 9, 10, 6, 11, 12, 13, 14, 15, 16, 62, 63, 64, 65, 66, 67, 68, 69, 70, 71, 72, 73, 74, 75, 76, 77, 78, 79, 80, 81, 82, 83, 84, 85, 86, 87, 88, 89, 90] (by decide +kernel) (by decide +kernel)
set_option maxRecDepth 20000 in
theorem gX7_why_X7_isCrossing : GoodIn wsX7_why (wsV RX7 144 RX7 yX7_isCrossing wsX7_isCrossing) := goodIn_app (goodIn_of _ (by decide +kernel)) ggX7_why_X7_isCrossing
set_option maxRecDepth 20000 in
theorem ggX7_why_X7_reason : GoodIn wsX7_why wsX7_reason := goodIn_r _ [20, 21, 22, 23, 24, 25, 6, 26, 27, 28, 29, 30, 31, 32, 33, 34, 35, 36, 37, 38, 39, 40, 41, 42, 8, 9, 10, 11, 12, 13, 43, 44, 45, 46, 47, 48, 49, 50, 51, 52, 53, 54, 55, 56, 57, 58, 2, 59, 60, 61, 62, 63, 64, 65, 66, 67, 68, 69, 70, 71, 72, 73, 74, 75, 76, 77, 78, 79, 80, 81, 82, 83, 84, 85, 86, 87, 88, 89, 90] (by decide +kernel) (by decide +kernel)
set_option maxRecDepth 20000 in
theorem gX7_why_X7_reason : GoodIn wsX7_why (wsV RX7 148 RX7 yX7_reason wsX7_reason) := goodIn_app (goodIn_of _ (by decide +kernel)) ggX7_why_X7_reason
theorem dX7_why_0 : decode cX7_why 0 = .ok (.aload_n 0, 1) := by decide +kernel
theorem dX7_why_1 : decode cX7_why 1 = .ok (.iload_n 1, 1) := by decide +kernel
theorem dX7_why_2 : decode cX7_why 2 = .ok (.invokevirtual 144, 3) := by decide +kernel
theorem dX7_why_5 : decode cX7_why 5 = .ok (.ifCond .eq 24, 3) := by decide +kernel
theorem dX7_why_8 : decode cX7_why 8 = .ok (.aload_n 0, 1) := by decide +kernel
theorem dX7_why_9 : decode cX7_why 9 = .ok (.aload_n 0, 1) := by decide +kernel
theorem dX7_why_10 : decode cX7_why 10 = .ok (.getfield 86, 3) := by decide +kernel
theorem dX7_why_13 : decode cX7_why 13 = .ok (.aload_n 0, 1) := by decide +kernel
theorem dX7_why_14 : decode cX7_why 14 = .ok (.getfield 30, 3) := by decide +kernel
theorem dX7_why_17 : decode cX7_why 17 = .ok (.aload_n 0, 1) := by decide +kernel
theorem dX7_why_18 : decode cX7_why 18 = .ok (.getfield 86, 3) := by decide +kernel
theorem dX7_why_21 : decode cX7_why 21 = .ok (.iaload, 1) := by decide +kernel
theorem dX7_why_22 : decode cX7_why 22 = .ok (.iload_n 1, 1) := by decide +kernel
theorem dX7_why_23 : decode cX7_why 23 = .ok (.invokevirtual 148, 3) := by decide +kernel
theorem dX7_why_26 : decode cX7_why 26 = .ok (.goto 5, 3) := by decide +kernel
theorem dX7_why_29 : decode cX7_why 29 = .ok (.bipush (-2), 2) := by decide +kernel
theorem dX7_why_31 : decode cX7_why 31 = .ok (.ireturn, 1) := by decide +kernel
theorem dX7_undo_0 : decode cX7_undo 0 = .ok (.aload_n 0, 1) := by decide +kernel
theorem dX7_undo_1 : decode cX7_undo 1 = .ok (.getfield 86, 3) := by decide +kernel
theorem dX7_undo_4 : decode cX7_undo 4 = .ok (.ifCond .ne 6, 3) := by decide +kernel
theorem dX7_undo_7 : decode cX7_undo 7 = .ok (.bipush (-3), 2) := by decide +kernel
theorem dX7_undo_9 : decode cX7_undo 9 = .ok (.ireturn, 1) := by decide +kernel
theorem dX7_undo_10 : decode cX7_undo 10 = .ok (.aload_n 0, 1) := by decide +kernel
theorem dX7_undo_11 : decode cX7_undo 11 = .ok (.dup, 1) := by decide +kernel
theorem dX7_undo_12 : decode cX7_undo 12 = .ok (.getfield 86, 3) := by decide +kernel
theorem dX7_undo_15 : decode cX7_undo 15 = .ok (.iconst 1, 1) := by decide +kernel
theorem dX7_undo_16 : decode cX7_undo 16 = .ok (.isub, 1) := by decide +kernel
theorem dX7_undo_17 : decode cX7_undo 17 = .ok (.putfield 86, 3) := by decide +kernel
theorem dX7_undo_20 : decode cX7_undo 20 = .ok (.aload_n 0, 1) := by decide +kernel
theorem dX7_undo_21 : decode cX7_undo 21 = .ok (.getfield 86, 3) := by decide +kernel
theorem dX7_undo_24 : decode cX7_undo 24 = .ok (.ireturn, 1) := by decide +kernel
theorem dX7_atOf_0 : decode cX7_atOf 0 = .ok (.aload_n 0, 1) := by decide +kernel
theorem dX7_atOf_1 : decode cX7_atOf 1 = .ok (.getfield 24, 3) := by decide +kernel
theorem dX7_atOf_4 : decode cX7_atOf 4 = .ok (.aload_n 0, 1) := by decide +kernel
theorem dX7_atOf_5 : decode cX7_atOf 5 = .ok (.getfield 86, 3) := by decide +kernel
theorem dX7_atOf_8 : decode cX7_atOf 8 = .ok (.laload, 1) := by decide +kernel
theorem dX7_atOf_9 : decode cX7_atOf 9 = .ok (.iload_n 1, 1) := by decide +kernel
theorem dX7_atOf_10 : decode cX7_atOf 10 = .ok (.lshr, 1) := by decide +kernel
theorem dX7_atOf_11 : decode cX7_atOf 11 = .ok (.lconst 1, 1) := by decide +kernel
theorem dX7_atOf_12 : decode cX7_atOf 12 = .ok (.land, 1) := by decide +kernel
theorem dX7_atOf_13 : decode cX7_atOf 13 = .ok (.lconst 1, 1) := by decide +kernel
theorem dX7_atOf_14 : decode cX7_atOf 14 = .ok (.lcmp, 1) := by decide +kernel
theorem dX7_atOf_15 : decode cX7_atOf 15 = .ok (.ifCond .ne 7, 3) := by decide +kernel
theorem dX7_atOf_18 : decode cX7_atOf 18 = .ok (.iconst 1, 1) := by decide +kernel
theorem dX7_atOf_19 : decode cX7_atOf 19 = .ok (.goto 26, 3) := by decide +kernel
theorem dX7_atOf_22 : decode cX7_atOf 22 = .ok (.aload_n 0, 1) := by decide +kernel
theorem dX7_atOf_23 : decode cX7_atOf 23 = .ok (.getfield 27, 3) := by decide +kernel
theorem dX7_atOf_26 : decode cX7_atOf 26 = .ok (.aload_n 0, 1) := by decide +kernel
theorem dX7_atOf_27 : decode cX7_atOf 27 = .ok (.getfield 86, 3) := by decide +kernel
theorem dX7_atOf_30 : decode cX7_atOf 30 = .ok (.laload, 1) := by decide +kernel
theorem dX7_atOf_31 : decode cX7_atOf 31 = .ok (.iload_n 1, 1) := by decide +kernel
theorem dX7_atOf_32 : decode cX7_atOf 32 = .ok (.lshr, 1) := by decide +kernel
theorem dX7_atOf_33 : decode cX7_atOf 33 = .ok (.lconst 1, 1) := by decide +kernel
theorem dX7_atOf_34 : decode cX7_atOf 34 = .ok (.land, 1) := by decide +kernel
theorem dX7_atOf_35 : decode cX7_atOf 35 = .ok (.lconst 1, 1) := by decide +kernel
theorem dX7_atOf_36 : decode cX7_atOf 36 = .ok (.lcmp, 1) := by decide +kernel
theorem dX7_atOf_37 : decode cX7_atOf 37 = .ok (.ifCond .ne 7, 3) := by decide +kernel
theorem dX7_atOf_40 : decode cX7_atOf 40 = .ok (.iconst 2, 1) := by decide +kernel
theorem dX7_atOf_41 : decode cX7_atOf 41 = .ok (.goto 4, 3) := by decide +kernel
theorem dX7_atOf_44 : decode cX7_atOf 44 = .ok (.iconst 0, 1) := by decide +kernel
theorem dX7_atOf_45 : decode cX7_atOf 45 = .ok (.ireturn, 1) := by decide +kernel
set_option maxRecDepth 20000 in
theorem ggX7_at_X7_isCrossing : GoodIn wsX7_at wsX7_isCrossing := goodIn_r _ [5, 6, 7, 8, 4, 9, 10, 11, 12, 13, 14, 22, 23, 24, 25, 26, 27, 28, 29, 30, 31, 32, 33, 34, 35, 36, 37, 38, 39, 40, 41, 42, 43, 44, 45, 46, 47, 48, 49, 50] (by decide +kernel) (by decide +kernel)
set_option maxRecDepth 20000 in
theorem gX7_at_X7_isCrossing : GoodIn wsX7_at (wsV RX7 144 RX7 yX7_isCrossing wsX7_isCrossing) := goodIn_app (goodIn_of _ (by decide +kernel)) ggX7_at_X7_isCrossing
set_option maxRecDepth 20000 in
theorem ggX7_at_X7_atOf : GoodIn wsX7_at wsX7_atOf := goodIn_r _ [18, 19, 20, 21, 22, 23, 24, 25, 26, 27, 28, 29, 30, 31, 32, 33, 34, 35, 36, 37, 38, 39, 40, 41, 42, 43, 44, 45, 46, 47, 48, 49, 50] (by decide +kernel) (by decide +kernel)
set_option maxRecDepth 20000 in
theorem gX7_at_X7_atOf : GoodIn wsX7_at (wsV RX7 159 RX7 yX7_atOf wsX7_atOf) := goodIn_app (goodIn_of _ (by decide +kernel)) ggX7_at_X7_atOf
theorem dX7_at_0 : decode cX7_at 0 = .ok (.aload_n 0, 1) := by decide +kernel
theorem dX7_at_1 : decode cX7_at 1 = .ok (.iload_n 1, 1) := by decide +kernel
theorem dX7_at_2 : decode cX7_at 2 = .ok (.invokevirtual 144, 3) := by decide +kernel
theorem dX7_at_5 : decode cX7_at 5 = .ok (.ifCond .eq 11, 3) := by decide +kernel
theorem dX7_at_8 : decode cX7_at 8 = .ok (.aload_n 0, 1) := by decide +kernel
theorem dX7_at_9 : decode cX7_at 9 = .ok (.iload_n 1, 1) := by decide +kernel
theorem dX7_at_10 : decode cX7_at 10 = .ok (.invokevirtual 159, 3) := by decide +kernel
theorem dX7_at_13 : decode cX7_at 13 = .ok (.goto 5, 3) := by decide +kernel
theorem dX7_at_16 : decode cX7_at 16 = .ok (.bipush (-2), 2) := by decide +kernel
theorem dX7_at_18 : decode cX7_at 18 = .ok (.ireturn, 1) := by decide +kernel
theorem dX7_stones_0 : decode cX7_stones 0 = .ok (.iload_n 1, 1) := by decide +kernel
theorem dX7_stones_1 : decode cX7_stones 1 = .ok (.iconst 1, 1) := by decide +kernel
theorem dX7_stones_2 : decode cX7_stones 2 = .ok (.if_icmp .ne 15, 3) := by decide +kernel
theorem dX7_stones_5 : decode cX7_stones 5 = .ok (.aload_n 0, 1) := by decide +kernel
theorem dX7_stones_6 : decode cX7_stones 6 = .ok (.getfield 24, 3) := by decide +kernel
theorem dX7_stones_9 : decode cX7_stones 9 = .ok (.aload_n 0, 1) := by decide +kernel
theorem dX7_stones_10 : decode cX7_stones 10 = .ok (.getfield 86, 3) := by decide +kernel
theorem dX7_stones_13 : decode cX7_stones 13 = .ok (.laload, 1) := by decide +kernel
theorem dX7_stones_14 : decode cX7_stones 14 = .ok (.goto 12, 3) := by decide +kernel
theorem dX7_stones_17 : decode cX7_stones 17 = .ok (.aload_n 0, 1) := by decide +kernel
theorem dX7_stones_18 : decode cX7_stones 18 = .ok (.getfield 27, 3) := by decide +kernel
theorem dX7_stones_21 : decode cX7_stones 21 = .ok (.aload_n 0, 1) := by decide +kernel
theorem dX7_stones_22 : decode cX7_stones 22 = .ok (.getfield 86, 3) := by decide +kernel
theorem dX7_stones_25 : decode cX7_stones 25 = .ok (.laload, 1) := by decide +kernel
theorem dX7_stones_26 : decode cX7_stones 26 = .ok (.lreturn, 1) := by decide +kernel
set_option maxRecDepth 20000 in
theorem ggX7_breaths_X7_around : GoodIn wsX7_breaths wsX7_around := goodIn_r _ [8, 9, 10, 11, 12, 7, 13, 14, 15, 25, 26, 27, 28, 29, 30, 31, 32, 33, 34, 35, 36, 37, 38, 39, 40, 41, 42, 43, 44, 45, 46, 47, 48, 49, 50, 51, 52, 53] (by decide +kernel) (by decide +kernel)
set_option maxRecDepth 20000 in
theorem gX7_breaths_X7_around : GoodIn wsX7_breaths (wsV RX7 97 RX7 yX7_around wsX7_around) := goodIn_app (goodIn_of _ (by decide +kernel)) ggX7_breaths_X7_around
set_option maxRecDepth 20000 in
theorem ggX7_breaths_X7_free : GoodIn wsX7_breaths wsX7_free := goodIn_r _ [19, 20, 21, 22, 23, 7, 24, 10, 11, 12, 13, 14, 15, 25, 26, 27, 28, 29, 30, 31, 32, 33, 34, 35, 36, 37, 38, 39, 40, 41, 42, 43, 44, 45, 46, 47, 48, 49, 50, 51, 52, 53] (by decide +kernel) (by decide +kernel)
set_option maxRecDepth 20000 in
theorem gX7_breaths_X7_free : GoodIn wsX7_breaths (wsV RX7 129 RX7 yX7_free wsX7_free) := goodIn_app (goodIn_of _ (by decide +kernel)) ggX7_breaths_X7_free
theorem dX7_breaths_0 : decode cX7_breaths 0 = .ok (.aload_n 0, 1) := by decide +kernel
theorem dX7_breaths_1 : decode cX7_breaths 1 = .ok (.lload_n 1, 1) := by decide +kernel
theorem dX7_breaths_2 : decode cX7_breaths 2 = .ok (.invokevirtual 97, 3) := by decide +kernel
theorem dX7_breaths_5 : decode cX7_breaths 5 = .ok (.aload_n 0, 1) := by decide +kernel
theorem dX7_breaths_6 : decode cX7_breaths 6 = .ok (.aload_n 0, 1) := by decide +kernel
theorem dX7_breaths_7 : decode cX7_breaths 7 = .ok (.getfield 24, 3) := by decide +kernel
theorem dX7_breaths_10 : decode cX7_breaths 10 = .ok (.aload_n 0, 1) := by decide +kernel
theorem dX7_breaths_11 : decode cX7_breaths 11 = .ok (.getfield 86, 3) := by decide +kernel
theorem dX7_breaths_14 : decode cX7_breaths 14 = .ok (.laload, 1) := by decide +kernel
theorem dX7_breaths_15 : decode cX7_breaths 15 = .ok (.aload_n 0, 1) := by decide +kernel
theorem dX7_breaths_16 : decode cX7_breaths 16 = .ok (.getfield 27, 3) := by decide +kernel
theorem dX7_breaths_19 : decode cX7_breaths 19 = .ok (.aload_n 0, 1) := by decide +kernel
theorem dX7_breaths_20 : decode cX7_breaths 20 = .ok (.getfield 86, 3) := by decide +kernel
theorem dX7_breaths_23 : decode cX7_breaths 23 = .ok (.laload, 1) := by decide +kernel
theorem dX7_breaths_24 : decode cX7_breaths 24 = .ok (.invokevirtual 129, 3) := by decide +kernel
theorem dX7_breaths_27 : decode cX7_breaths 27 = .ok (.land, 1) := by decide +kernel
theorem dX7_breaths_28 : decode cX7_breaths 28 = .ok (.lreturn, 1) := by decide +kernel
set_option maxRecDepth 20000 in
theorem ggX7_isVital_X7_around : GoodIn wsX7_isVital wsX7_around := goodIn_r _ [9, 10, 11, 12, 13, 8, 14, 15, 16, 29, 30, 31, 32, 33, 34, 35, 36, 37, 38, 39, 40, 41, 42, 43, 44, 45, 46, 47, 48, 49, 50, 51, 52, 53, 54, 55, 56, 57] (by decide +kernel) (by decide +kernel)
set_option maxRecDepth 20000 in
theorem gX7_isVital_X7_around : GoodIn wsX7_isVital (wsV RX7 97 RX7 yX7_around wsX7_around) := goodIn_app (goodIn_of _ (by decide +kernel)) ggX7_isVital_X7_around
set_option maxRecDepth 20000 in
theorem ggX7_isVital_X7_free : GoodIn wsX7_isVital wsX7_free := goodIn_r _ [20, 4, 21, 22, 23, 8, 24, 11, 12, 13, 14, 15, 16, 29, 30, 31, 32, 33, 34, 35, 36, 37, 38, 39, 40, 41, 42, 43, 44, 45, 46, 47, 48, 49, 50, 51, 52, 53, 54, 55, 56, 57] (by decide +kernel) (by decide +kernel)
set_option maxRecDepth 20000 in
theorem gX7_isVital_X7_free : GoodIn wsX7_isVital (wsV RX7 129 RX7 yX7_free wsX7_free) := goodIn_app (goodIn_of _ (by decide +kernel)) ggX7_isVital_X7_free
set_option maxRecDepth 20000 in
theorem ggX7_isVital_X7_breaths : GoodIn wsX7_isVital wsX7_breaths := goodIn_r _ [28, 1, 2, 3, 5, 6, 7, 8, 9, 10, 11, 12, 13, 14, 15, 16, 17, 18, 19, 20, 4, 21, 22, 23, 24, 29, 30, 31, 32, 33, 34, 35, 36, 37, 38, 39, 40, 41, 42, 43, 44, 45, 46, 47, 48, 49, 50, 51, 52, 53, 54, 55, 56, 57] (by decide +kernel) (by decide +kernel)
set_option maxRecDepth 20000 in
theorem gX7_isVital_X7_breaths : GoodIn wsX7_isVital (wsV RX7 162 RX7 yX7_breaths wsX7_breaths) := goodIn_app (goodIn_of _ (by decide +kernel)) ggX7_isVital_X7_breaths
theorem dX7_isVital_0 : decode cX7_isVital 0 = .ok (.aload_n 0, 1) := by decide +kernel
theorem dX7_isVital_1 : decode cX7_isVital 1 = .ok (.lload_n 3, 1) := by decide +kernel
theorem dX7_isVital_2 : decode cX7_isVital 2 = .ok (.invokevirtual 97, 3) := by decide +kernel
theorem dX7_isVital_5 : decode cX7_isVital 5 = .ok (.lload_n 1, 1) := by decide +kernel
theorem dX7_isVital_6 : decode cX7_isVital 6 = .ok (.land, 1) := by decide +kernel
theorem dX7_isVital_7 : decode cX7_isVital 7 = .ok (.lconst 0, 1) := by decide +kernel
theorem dX7_isVital_8 : decode cX7_isVital 8 = .ok (.lcmp, 1) := by decide +kernel
theorem dX7_isVital_9 : decode cX7_isVital 9 = .ok (.ifCond .eq 46, 3) := by decide +kernel
theorem dX7_isVital_12 : decode cX7_isVital 12 = .ok (.lload_n 1, 1) := by decide +kernel
theorem dX7_isVital_13 : decode cX7_isVital 13 = .ok (.aload_n 0, 1) := by decide +kernel
theorem dX7_isVital_14 : decode cX7_isVital 14 = .ok (.aload_n 0, 1) := by decide +kernel
theorem dX7_isVital_15 : decode cX7_isVital 15 = .ok (.getfield 24, 3) := by decide +kernel
theorem dX7_isVital_18 : decode cX7_isVital 18 = .ok (.aload_n 0, 1) := by decide +kernel
theorem dX7_isVital_19 : decode cX7_isVital 19 = .ok (.getfield 86, 3) := by decide +kernel
theorem dX7_isVital_22 : decode cX7_isVital 22 = .ok (.laload, 1) := by decide +kernel
theorem dX7_isVital_23 : decode cX7_isVital 23 = .ok (.aload_n 0, 1) := by decide +kernel
theorem dX7_isVital_24 : decode cX7_isVital 24 = .ok (.getfield 27, 3) := by decide +kernel
theorem dX7_isVital_27 : decode cX7_isVital 27 = .ok (.aload_n 0, 1) := by decide +kernel
theorem dX7_isVital_28 : decode cX7_isVital 28 = .ok (.getfield 86, 3) := by decide +kernel
theorem dX7_isVital_31 : decode cX7_isVital 31 = .ok (.laload, 1) := by decide +kernel
theorem dX7_isVital_32 : decode cX7_isVital 32 = .ok (.invokevirtual 129, 3) := by decide +kernel
theorem dX7_isVital_35 : decode cX7_isVital 35 = .ok (.land, 1) := by decide +kernel
theorem dX7_isVital_36 : decode cX7_isVital 36 = .ok (.aload_n 0, 1) := by decide +kernel
theorem dX7_isVital_37 : decode cX7_isVital 37 = .ok (.lload_n 3, 1) := by decide +kernel
theorem dX7_isVital_38 : decode cX7_isVital 38 = .ok (.invokevirtual 162, 3) := by decide +kernel
theorem dX7_isVital_41 : decode cX7_isVital 41 = .ok (.ldc2_w 105, 3) := by decide +kernel
theorem dX7_isVital_44 : decode cX7_isVital 44 = .ok (.lxor, 1) := by decide +kernel
theorem dX7_isVital_45 : decode cX7_isVital 45 = .ok (.land, 1) := by decide +kernel
theorem dX7_isVital_46 : decode cX7_isVital 46 = .ok (.lconst 0, 1) := by decide +kernel
theorem dX7_isVital_47 : decode cX7_isVital 47 = .ok (.lcmp, 1) := by decide +kernel
theorem dX7_isVital_48 : decode cX7_isVital 48 = .ok (.ifCond .ne 7, 3) := by decide +kernel
theorem dX7_isVital_51 : decode cX7_isVital 51 = .ok (.iconst 1, 1) := by decide +kernel
theorem dX7_isVital_52 : decode cX7_isVital 52 = .ok (.goto 4, 3) := by decide +kernel
theorem dX7_isVital_55 : decode cX7_isVital 55 = .ok (.iconst 0, 1) := by decide +kernel
theorem dX7_isVital_56 : decode cX7_isVital 56 = .ok (.ireturn, 1) := by decide +kernel
set_option maxRecDepth 20000 in
theorem ggX7_vital_X7_all : GoodIn wsX7_vital wsX7_all := goodIn_r _ [6, 7, 8, 9, 5, 10, 11, 12, 41, 42, 43, 44, 45, 46, 47, 48, 49, 50, 51, 52, 53, 54, 55, 56, 57, 58, 59, 60, 61, 62, 63, 64, 65, 66, 67, 68, 69] (by decide +kernel) (by decide +kernel)
set_option maxRecDepth 20000 in
theorem gX7_vital_X7_all : GoodIn wsX7_vital (wsV RX7 101 RX7 yX7_all wsX7_all) := goodIn_app (goodIn_of _ (by decide +kernel)) ggX7_vital_X7_all
set_option maxRecDepth 20000 in
theorem ggX7_vital_X7_stones : GoodIn wsX7_vital wsX7_stones := goodIn_r _ [16, 17, 18, 19, 41, 42, 43, 44, 45, 46, 47, 48, 49, 50, 51, 52, 53, 54, 55, 56, 57, 58, 59, 60, 61, 62, 63, 64, 65, 66, 67, 68, 69] (by decide +kernel) (by decide +kernel)
set_option maxRecDepth 20000 in
theorem gX7_vital_X7_stones : GoodIn wsX7_vital (wsV RX7 165 RX7 yX7_stones wsX7_stones) := goodIn_app (goodIn_of _ (by decide +kernel)) ggX7_vital_X7_stones
set_option maxRecDepth 20000 in
theorem ggX7_vital_X7_spread : GoodIn wsX7_vital wsX7_spread := goodIn_r _ [23, 24, 25, 26, 5, 27, 28, 7, 8, 9, 10, 11, 12, 41, 42, 43, 44, 45, 46, 47, 48, 49, 50, 51, 52, 53, 54, 55, 56, 57, 58, 59, 60, 61, 62, 63, 64, 65, 66, 67, 68, 69] (by decide +kernel) (by decide +kernel)
set_option maxRecDepth 20000 in
theorem gX7_vital_X7_spread : GoodIn wsX7_vital (wsV RX7 111 RX7 yX7_spread wsX7_spread) := goodIn_app (goodIn_of _ (by decide +kernel)) ggX7_vital_X7_spread
set_option maxRecDepth 20000 in
theorem ggX7_vital_X7_isVital : GoodIn wsX7_vital wsX7_isVital := goodIn_r _ [32, 17, 18, 19, 1, 24, 25, 26, 5, 27, 28, 7, 8, 9, 10, 11, 12, 33, 34, 35, 36, 2, 3, 4, 6, 37, 38, 39, 40, 41, 42, 43, 44, 45, 46, 47, 48, 49, 50, 51, 52, 53, 54, 55, 56, 57, 58, 59, 60, 61, 62, 63, 64, 65, 66, 67, 68, 69] (by decide +kernel) (by decide +kernel)
set_option maxRecDepth 20000 in
theorem gX7_vital_X7_isVital : GoodIn wsX7_vital (wsV RX7 169 RX7 yX7_isVital wsX7_isVital) := goodIn_app (goodIn_of _ (by decide +kernel)) ggX7_vital_X7_isVital
set_option maxRecDepth 20000 in
theorem ggX7_vital_X7_around : GoodIn wsX7_vital wsX7_around := goodIn_r _ [27, 28, 7, 8, 9, 5, 10, 11, 12, 41, 42, 43, 44, 45, 46, 47, 48, 49, 50, 51, 52, 53, 54, 55, 56, 57, 58, 59, 60, 61, 62, 63, 64, 65, 66, 67, 68, 69] (by decide +kernel) (by decide +kernel)
set_option maxRecDepth 20000 in
theorem gX7_vital_X7_around : GoodIn wsX7_vital (wsV RX7 97 RX7 yX7_around wsX7_around) := goodIn_app (goodIn_of _ (by decide +kernel)) ggX7_vital_X7_around
theorem dX7_vital_0 : decode cX7_vital 0 = .ok (.aload_n 0, 1) := by decide +kernel
theorem dX7_vital_1 : decode cX7_vital 1 = .ok (.invokevirtual 101, 3) := by decide +kernel
theorem dX7_vital_4 : decode cX7_vital 4 = .ok (.aload_n 0, 1) := by decide +kernel
theorem dX7_vital_5 : decode cX7_vital 5 = .ok (.iload_n 1, 1) := by decide +kernel
theorem dX7_vital_6 : decode cX7_vital 6 = .ok (.invokevirtual 165, 3) := by decide +kernel
theorem dX7_vital_9 : decode cX7_vital 9 = .ok (.ldc2_w 105, 3) := by decide +kernel
theorem dX7_vital_12 : decode cX7_vital 12 = .ok (.lxor, 1) := by decide +kernel
theorem dX7_vital_13 : decode cX7_vital 13 = .ok (.land, 1) := by decide +kernel
theorem dX7_vital_14 : decode cX7_vital 14 = .ok (.lstore 6, 2) := by decide +kernel
theorem dX7_vital_16 : decode cX7_vital 16 = .ok (.iconst 0, 1) := by decide +kernel
theorem dX7_vital_17 : decode cX7_vital 17 = .ok (.istore 8, 2) := by decide +kernel
theorem dX7_vital_19 : decode cX7_vital 19 = .ok (.lload 6, 2) := by decide +kernel
theorem dX7_vital_21 : decode cX7_vital 21 = .ok (.lconst 0, 1) := by decide +kernel
theorem dX7_vital_22 : decode cX7_vital 22 = .ok (.lcmp, 1) := by decide +kernel
theorem dX7_vital_23 : decode cX7_vital 23 = .ok (.ifCond .eq 77, 3) := by decide +kernel
theorem dX7_vital_26 : decode cX7_vital 26 = .ok (.aload_n 0, 1) := by decide +kernel
theorem dX7_vital_27 : decode cX7_vital 27 = .ok (.lload 6, 2) := by decide +kernel
theorem dX7_vital_29 : decode cX7_vital 29 = .ok (.lload 6, 2) := by decide +kernel
theorem dX7_vital_31 : decode cX7_vital 31 = .ok (.lneg, 1) := by decide +kernel
theorem dX7_vital_32 : decode cX7_vital 32 = .ok (.land, 1) := by decide +kernel
theorem dX7_vital_33 : decode cX7_vital 33 = .ok (.aload_n 0, 1) := by decide +kernel
theorem dX7_vital_34 : decode cX7_vital 34 = .ok (.invokevirtual 101, 3) := by decide +kernel
theorem dX7_vital_37 : decode cX7_vital 37 = .ok (.aload_n 0, 1) := by decide +kernel
theorem dX7_vital_38 : decode cX7_vital 38 = .ok (.iload_n 1, 1) := by decide +kernel
theorem dX7_vital_39 : decode cX7_vital 39 = .ok (.invokevirtual 165, 3) := by decide +kernel
theorem dX7_vital_42 : decode cX7_vital 42 = .ok (.ldc2_w 105, 3) := by decide +kernel
theorem dX7_vital_45 : decode cX7_vital 45 = .ok (.lxor, 1) := by decide +kernel
theorem dX7_vital_46 : decode cX7_vital 46 = .ok (.land, 1) := by decide +kernel
theorem dX7_vital_47 : decode cX7_vital 47 = .ok (.invokevirtual 111, 3) := by decide +kernel
theorem dX7_vital_50 : decode cX7_vital 50 = .ok (.lstore 9, 2) := by decide +kernel
theorem dX7_vital_52 : decode cX7_vital 52 = .ok (.lload 6, 2) := by decide +kernel
theorem dX7_vital_54 : decode cX7_vital 54 = .ok (.lload 9, 2) := by decide +kernel
theorem dX7_vital_56 : decode cX7_vital 56 = .ok (.ldc2_w 105, 3) := by decide +kernel
theorem dX7_vital_59 : decode cX7_vital 59 = .ok (.lxor, 1) := by decide +kernel
theorem dX7_vital_60 : decode cX7_vital 60 = .ok (.land, 1) := by decide +kernel
theorem dX7_vital_61 : decode cX7_vital 61 = .ok (.lstore 6, 2) := by decide +kernel
theorem dX7_vital_63 : decode cX7_vital 63 = .ok (.iload 8, 2) := by decide +kernel
theorem dX7_vital_65 : decode cX7_vital 65 = .ok (.aload_n 0, 1) := by decide +kernel
theorem dX7_vital_66 : decode cX7_vital 66 = .ok (.lload 9, 2) := by decide +kernel
theorem dX7_vital_68 : decode cX7_vital 68 = .ok (.lload_n 2, 1) := by decide +kernel
theorem dX7_vital_69 : decode cX7_vital 69 = .ok (.invokevirtual 169, 3) := by decide +kernel
theorem dX7_vital_72 : decode cX7_vital 72 = .ok (.ifCond .eq 21, 3) := by decide +kernel
theorem dX7_vital_75 : decode cX7_vital 75 = .ok (.aload_n 0, 1) := by decide +kernel
theorem dX7_vital_76 : decode cX7_vital 76 = .ok (.lload 9, 2) := by decide +kernel
theorem dX7_vital_78 : decode cX7_vital 78 = .ok (.invokevirtual 97, 3) := by decide +kernel
theorem dX7_vital_81 : decode cX7_vital 81 = .ok (.lload 4, 2) := by decide +kernel
theorem dX7_vital_83 : decode cX7_vital 83 = .ok (.land, 1) := by decide +kernel
theorem dX7_vital_84 : decode cX7_vital 84 = .ok (.lconst 0, 1) := by decide +kernel
theorem dX7_vital_85 : decode cX7_vital 85 = .ok (.lcmp, 1) := by decide +kernel
theorem dX7_vital_86 : decode cX7_vital 86 = .ok (.ifCond .ne 7, 3) := by decide +kernel
theorem dX7_vital_89 : decode cX7_vital 89 = .ok (.iconst 1, 1) := by decide +kernel
theorem dX7_vital_90 : decode cX7_vital 90 = .ok (.goto 4, 3) := by decide +kernel
theorem dX7_vital_93 : decode cX7_vital 93 = .ok (.iconst 0, 1) := by decide +kernel
theorem dX7_vital_94 : decode cX7_vital 94 = .ok (.iadd, 1) := by decide +kernel
theorem dX7_vital_95 : decode cX7_vital 95 = .ok (.istore 8, 2) := by decide +kernel
theorem dX7_vital_97 : decode cX7_vital 97 = .ok (.goto (-78), 3) := by decide +kernel
theorem dX7_vital_100 : decode cX7_vital 100 = .ok (.iload 8, 2) := by decide +kernel
theorem dX7_vital_102 : decode cX7_vital 102 = .ok (.ireturn, 1) := by decide +kernel
set_option maxRecDepth 20000 in
theorem ggX7_stand_X7_stones : GoodIn wsX7_stand wsX7_stones := goodIn_r _ [6, 7, 8, 9, 45, 46, 47, 48, 49, 50, 51, 52, 53, 54, 55, 56, 57, 58, 59, 60, 61, 62, 63, 64, 65, 66, 67, 68, 69, 70, 71, 72, 73] (by decide +kernel) (by decide +kernel)
set_option maxRecDepth 20000 in
theorem gX7_stand_X7_stones : GoodIn wsX7_stand (wsV RX7 165 RX7 yX7_stones wsX7_stones) := goodIn_app (goodIn_of _ (by decide +kernel)) ggX7_stand_X7_stones
set_option maxRecDepth 20000 in
theorem ggX7_stand_X7_spread : GoodIn wsX7_stand wsX7_spread := goodIn_r _ [13, 14, 15, 16, 5, 17, 18, 19, 20, 21, 22, 23, 24, 45, 46, 47, 48, 49, 50, 51, 52, 53, 54, 55, 56, 57, 58, 59, 60, 61, 62, 63, 64, 65, 66, 67, 68, 69, 70, 71, 72, 73] (by decide +kernel) (by decide +kernel)
set_option maxRecDepth 20000 in
theorem gX7_stand_X7_spread : GoodIn wsX7_stand (wsV RX7 111 RX7 yX7_spread wsX7_spread) := goodIn_app (goodIn_of _ (by decide +kernel)) ggX7_stand_X7_spread
set_option maxRecDepth 20000 in
theorem ggX7_stand_X7_vital : GoodIn wsX7_stand wsX7_vital := goodIn_r _ [28, 1, 29, 30, 31, 5, 32, 19, 20, 21, 22, 23, 24, 2, 3, 4, 6, 7, 8, 9, 10, 11, 12, 13, 14, 15, 16, 17, 18, 33, 34, 35, 36, 37, 38, 39, 40, 41, 42, 43, 44, 45, 46, 47, 48, 49, 50, 51, 52, 53, 54, 55, 56, 57, 58, 59, 60, 61, 62, 63, 64, 65, 66, 67, 68, 69, 70, 71, 72, 73] (by decide +kernel) (by decide +kernel)
set_option maxRecDepth 20000 in
theorem gX7_stand_X7_vital : GoodIn wsX7_stand (wsV RX7 173 RX7 yX7_vital wsX7_vital) := goodIn_app (goodIn_of _ (by decide +kernel)) ggX7_stand_X7_vital
theorem dX7_stand_0 : decode cX7_stand 0 = .ok (.lconst 0, 1) := by decide +kernel
theorem dX7_stand_1 : decode cX7_stand 1 = .ok (.lstore_n 2, 1) := by decide +kernel
theorem dX7_stand_2 : decode cX7_stand 2 = .ok (.ldc2_w 105, 3) := by decide +kernel
theorem dX7_stand_5 : decode cX7_stand 5 = .ok (.lstore 4, 2) := by decide +kernel
theorem dX7_stand_7 : decode cX7_stand 7 = .ok (.lload 4, 2) := by decide +kernel
theorem dX7_stand_9 : decode cX7_stand 9 = .ok (.lload_n 2, 1) := by decide +kernel
theorem dX7_stand_10 : decode cX7_stand 10 = .ok (.lcmp, 1) := by decide +kernel
theorem dX7_stand_11 : decode cX7_stand 11 = .ok (.ifCond .eq 83, 3) := by decide +kernel
theorem dX7_stand_14 : decode cX7_stand 14 = .ok (.lload_n 2, 1) := by decide +kernel
theorem dX7_stand_15 : decode cX7_stand 15 = .ok (.lstore 4, 2) := by decide +kernel
theorem dX7_stand_17 : decode cX7_stand 17 = .ok (.aload_n 0, 1) := by decide +kernel
theorem dX7_stand_18 : decode cX7_stand 18 = .ok (.iload_n 1, 1) := by decide +kernel
theorem dX7_stand_19 : decode cX7_stand 19 = .ok (.invokevirtual 165, 3) := by decide +kernel
theorem dX7_stand_22 : decode cX7_stand 22 = .ok (.lload 4, 2) := by decide +kernel
theorem dX7_stand_24 : decode cX7_stand 24 = .ok (.ldc2_w 105, 3) := by decide +kernel
theorem dX7_stand_27 : decode cX7_stand 27 = .ok (.lxor, 1) := by decide +kernel
theorem dX7_stand_28 : decode cX7_stand 28 = .ok (.land, 1) := by decide +kernel
theorem dX7_stand_29 : decode cX7_stand 29 = .ok (.lstore 6, 2) := by decide +kernel
theorem dX7_stand_31 : decode cX7_stand 31 = .ok (.lload 6, 2) := by decide +kernel
theorem dX7_stand_33 : decode cX7_stand 33 = .ok (.lconst 0, 1) := by decide +kernel
theorem dX7_stand_34 : decode cX7_stand 34 = .ok (.lcmp, 1) := by decide +kernel
theorem dX7_stand_35 : decode cX7_stand 35 = .ok (.ifCond .eq 56, 3) := by decide +kernel
theorem dX7_stand_38 : decode cX7_stand 38 = .ok (.aload_n 0, 1) := by decide +kernel
end
section
theorem dX7_stand_39 : decode cX7_stand 39 = .ok (.lload 6, 2) := by decide +kernel
theorem dX7_stand_41 : decode cX7_stand 41 = .ok (.lload 6, 2) := by decide +kernel
theorem dX7_stand_43 : decode cX7_stand 43 = .ok (.lneg, 1) := by decide +kernel
theorem dX7_stand_44 : decode cX7_stand 44 = .ok (.land, 1) := by decide +kernel
theorem dX7_stand_45 : decode cX7_stand 45 = .ok (.aload_n 0, 1) := by decide +kernel
theorem dX7_stand_46 : decode cX7_stand 46 = .ok (.iload_n 1, 1) := by decide +kernel
theorem dX7_stand_47 : decode cX7_stand 47 = .ok (.invokevirtual 165, 3) := by decide +kernel
theorem dX7_stand_50 : decode cX7_stand 50 = .ok (.invokevirtual 111, 3) := by decide +kernel
theorem dX7_stand_53 : decode cX7_stand 53 = .ok (.lstore 8, 2) := by decide +kernel
theorem dX7_stand_55 : decode cX7_stand 55 = .ok (.lload 6, 2) := by decide +kernel
theorem dX7_stand_57 : decode cX7_stand 57 = .ok (.lload 8, 2) := by decide +kernel
theorem dX7_stand_59 : decode cX7_stand 59 = .ok (.ldc2_w 105, 3) := by decide +kernel
theorem dX7_stand_62 : decode cX7_stand 62 = .ok (.lxor, 1) := by decide +kernel
theorem dX7_stand_63 : decode cX7_stand 63 = .ok (.land, 1) := by decide +kernel
theorem dX7_stand_64 : decode cX7_stand 64 = .ok (.lstore 6, 2) := by decide +kernel
theorem dX7_stand_66 : decode cX7_stand 66 = .ok (.lload_n 2, 1) := by decide +kernel
theorem dX7_stand_67 : decode cX7_stand 67 = .ok (.aload_n 0, 1) := by decide +kernel
theorem dX7_stand_68 : decode cX7_stand 68 = .ok (.iload_n 1, 1) := by decide +kernel
theorem dX7_stand_69 : decode cX7_stand 69 = .ok (.lload 8, 2) := by decide +kernel
theorem dX7_stand_71 : decode cX7_stand 71 = .ok (.lload 4, 2) := by decide +kernel
theorem dX7_stand_73 : decode cX7_stand 73 = .ok (.invokevirtual 173, 3) := by decide +kernel
theorem dX7_stand_76 : decode cX7_stand 76 = .ok (.iconst 2, 1) := by decide +kernel
theorem dX7_stand_77 : decode cX7_stand 77 = .ok (.if_icmp .ge 8, 3) := by decide +kernel
theorem dX7_stand_80 : decode cX7_stand 80 = .ok (.lload 8, 2) := by decide +kernel
theorem dX7_stand_82 : decode cX7_stand 82 = .ok (.goto 4, 3) := by decide +kernel
theorem dX7_stand_85 : decode cX7_stand 85 = .ok (.lconst 0, 1) := by decide +kernel
theorem dX7_stand_86 : decode cX7_stand 86 = .ok (.lor, 1) := by decide +kernel
theorem dX7_stand_87 : decode cX7_stand 87 = .ok (.lstore_n 2, 1) := by decide +kernel
theorem dX7_stand_88 : decode cX7_stand 88 = .ok (.goto (-57), 3) := by decide +kernel
theorem dX7_stand_91 : decode cX7_stand 91 = .ok (.goto (-84), 3) := by decide +kernel
theorem dX7_stand_94 : decode cX7_stand 94 = .ok (.aload_n 0, 1) := by decide +kernel
theorem dX7_stand_95 : decode cX7_stand 95 = .ok (.iload_n 1, 1) := by decide +kernel
theorem dX7_stand_96 : decode cX7_stand 96 = .ok (.invokevirtual 165, 3) := by decide +kernel
theorem dX7_stand_99 : decode cX7_stand 99 = .ok (.lload_n 2, 1) := by decide +kernel
theorem dX7_stand_100 : decode cX7_stand 100 = .ok (.ldc2_w 105, 3) := by decide +kernel
theorem dX7_stand_103 : decode cX7_stand 103 = .ok (.lxor, 1) := by decide +kernel
theorem dX7_stand_104 : decode cX7_stand 104 = .ok (.land, 1) := by decide +kernel
theorem dX7_stand_105 : decode cX7_stand 105 = .ok (.lreturn, 1) := by decide +kernel
set_option maxRecDepth 20000 in
theorem ggX7_groupAt_X7_atOf : GoodIn wsX7_groupAt wsX7_atOf := goodIn_r _ [5, 6, 7, 8, 28, 29, 30, 31, 32, 33, 34, 35, 36, 37, 38, 39, 40, 41, 42, 43, 44, 45, 46, 47, 48, 49, 50, 51, 52, 53, 54, 55, 56] (by decide +kernel) (by decide +kernel)
set_option maxRecDepth 20000 in
theorem gX7_groupAt_X7_atOf : GoodIn wsX7_groupAt (wsV RX7 159 RX7 yX7_atOf wsX7_atOf) := goodIn_app (goodIn_of _ (by decide +kernel)) ggX7_groupAt_X7_atOf
set_option maxRecDepth 20000 in
theorem ggX7_groupAt_X7_stones : GoodIn wsX7_groupAt wsX7_stones := goodIn_r _ [12, 6, 7, 8, 28, 29, 30, 31, 32, 33, 34, 35, 36, 37, 38, 39, 40, 41, 42, 43, 44, 45, 46, 47, 48, 49, 50, 51, 52, 53, 54, 55, 56] (by decide +kernel) (by decide +kernel)
set_option maxRecDepth 20000 in
theorem gX7_groupAt_X7_stones : GoodIn wsX7_groupAt (wsV RX7 165 RX7 yX7_stones wsX7_stones) := goodIn_app (goodIn_of _ (by decide +kernel)) ggX7_groupAt_X7_stones
set_option maxRecDepth 20000 in
theorem ggX7_groupAt_X7_spread : GoodIn wsX7_groupAt wsX7_spread := goodIn_r _ [16, 17, 18, 19, 4, 20, 21, 22, 23, 24, 25, 26, 27, 28, 29, 30, 31, 32, 33, 34, 35, 36, 37, 38, 39, 40, 41, 42, 43, 44, 45, 46, 47, 48, 49, 50, 51, 52, 53, 54, 55, 56] (by decide +kernel) (by decide +kernel)
set_option maxRecDepth 20000 in
theorem gX7_groupAt_X7_spread : GoodIn wsX7_groupAt (wsV RX7 111 RX7 yX7_spread wsX7_spread) := goodIn_app (goodIn_of _ (by decide +kernel)) ggX7_groupAt_X7_spread
theorem dX7_groupAt_0 : decode cX7_groupAt 0 = .ok (.aload_n 0, 1) := by decide +kernel
theorem dX7_groupAt_1 : decode cX7_groupAt 1 = .ok (.lconst 1, 1) := by decide +kernel
theorem dX7_groupAt_2 : decode cX7_groupAt 2 = .ok (.iload_n 1, 1) := by decide +kernel
theorem dX7_groupAt_3 : decode cX7_groupAt 3 = .ok (.lshl, 1) := by decide +kernel
theorem dX7_groupAt_4 : decode cX7_groupAt 4 = .ok (.aload_n 0, 1) := by decide +kernel
theorem dX7_groupAt_5 : decode cX7_groupAt 5 = .ok (.aload_n 0, 1) := by decide +kernel
theorem dX7_groupAt_6 : decode cX7_groupAt 6 = .ok (.iload_n 1, 1) := by decide +kernel
theorem dX7_groupAt_7 : decode cX7_groupAt 7 = .ok (.invokevirtual 159, 3) := by decide +kernel
theorem dX7_groupAt_10 : decode cX7_groupAt 10 = .ok (.invokevirtual 165, 3) := by decide +kernel
theorem dX7_groupAt_13 : decode cX7_groupAt 13 = .ok (.invokevirtual 111, 3) := by decide +kernel
theorem dX7_groupAt_16 : decode cX7_groupAt 16 = .ok (.lreturn, 1) := by decide +kernel
set_option maxRecDepth 20000 in
theorem ggX7_group_X7_isCrossing : GoodIn wsX7_group wsX7_isCrossing := goodIn_r _ [5, 6, 7, 8, 4, 9, 10, 11, 12, 13, 14, 70, 71, 72, 73, 74, 75, 76, 77, 78, 79, 80, 81, 82, 83, 84, 85, 86, 87, 88, 89, 90, 91, 92, 93, 94, 95, 96, 97, 98] (by decide +kernel) (by decide +kernel)
set_option maxRecDepth 20000 in
theorem gX7_group_X7_isCrossing : GoodIn wsX7_group (wsV RX7 144 RX7 yX7_isCrossing wsX7_isCrossing) := goodIn_app (goodIn_of _ (by decide +kernel)) ggX7_group_X7_isCrossing
set_option maxRecDepth 20000 in
theorem ggX7_group_X7_in : GoodIn wsX7_group wsX7_in := goodIn_r _ [14] (by decide +kernel) (by decide +kernel)
set_option maxRecDepth 20000 in
theorem gX7_group_X7_in : GoodIn wsX7_group (va_wsS RX7 93 yX7_in wsX7_in) := goodIn_app (goodIn_of _ (by decide +kernel)) ggX7_group_X7_in
set_option maxRecDepth 20000 in
theorem ggX7_group_X7_atOf : GoodIn wsX7_group wsX7_atOf := goodIn_r _ [18, 19, 20, 21, 70, 71, 72, 73, 74, 75, 76, 77, 78, 79, 80, 81, 82, 83, 84, 85, 86, 87, 88, 89, 90, 91, 92, 93, 94, 95, 96, 97, 98] (by decide +kernel) (by decide +kernel)
set_option maxRecDepth 20000 in
theorem gX7_group_X7_atOf : GoodIn wsX7_group (wsV RX7 159 RX7 yX7_atOf wsX7_atOf) := goodIn_app (goodIn_of _ (by decide +kernel)) ggX7_group_X7_atOf
set_option maxRecDepth 20000 in
theorem ggX7_group_X7_groupAt : GoodIn wsX7_group wsX7_groupAt := goodIn_r _ [25, 15, 16, 17, 4, 18, 19, 20, 21, 26, 27, 28, 29, 30, 31, 32, 33, 34, 35, 36, 37, 38, 6, 7, 8, 9, 10, 11, 70, 71, 72, 73, 74, 75, 76, 77, 78, 79, 80, 81, 82, 83, 84, 85, 86, 87, 88, 89, 90, 91, 92, 93, 94, 95, 96, 97, 98] (by decide +kernel) (by decide +kernel)
set_option maxRecDepth 20000 in
theorem gX7_group_X7_groupAt : GoodIn wsX7_group (wsV RX7 177 RX7 yX7_groupAt wsX7_groupAt) := goodIn_app (goodIn_of _ (by decide +kernel)) ggX7_group_X7_groupAt
set_option maxRecDepth 20000 in
theorem ggX7_group_X7_many : GoodIn wsX7_group wsX7_many := goodIn_r _ [41] (by decide +kernel) (by decide +kernel)
set_option maxRecDepth 20000 in
theorem gX7_group_X7_many : GoodIn wsX7_group (va_wsS RX7 115 yX7_many wsX7_many) := goodIn_app (goodIn_of _ (by decide +kernel)) ggX7_group_X7_many
set_option maxRecDepth 20000 in
theorem ggX7_group_X7_breaths : GoodIn wsX7_group wsX7_breaths := goodIn_r _ [45, 19, 20, 21, 34, 35, 36, 4, 37, 38, 6, 7, 8, 9, 10, 11, 46, 47, 48, 49, 50, 51, 52, 53, 54, 70, 71, 72, 73, 74, 75, 76, 77, 78, 79, 80, 81, 82, 83, 84, 85, 86, 87, 88, 89, 90, 91, 92, 93, 94, 95, 96, 97, 98] (by decide +kernel) (by decide +kernel)
set_option maxRecDepth 20000 in
theorem gX7_group_X7_breaths : GoodIn wsX7_group (wsV RX7 162 RX7 yX7_breaths wsX7_breaths) := goodIn_app (goodIn_of _ (by decide +kernel)) ggX7_group_X7_breaths
set_option maxRecDepth 20000 in
theorem ggX7_group_X7_least : GoodIn wsX7_group wsX7_least := goodIn_r _ [57] (by decide +kernel) (by decide +kernel)
set_option maxRecDepth 20000 in
theorem gX7_group_X7_least : GoodIn wsX7_group (va_wsS RX7 107 yX7_least wsX7_least) := goodIn_app (goodIn_of _ (by decide +kernel)) ggX7_group_X7_least
set_option maxRecDepth 20000 in
theorem ggX7_group_X7_vital : GoodIn wsX7_group wsX7_vital := goodIn_r _ [61, 50, 51, 52, 53, 4, 54, 6, 7, 8, 9, 10, 11, 26, 27, 28, 29, 19, 20, 21, 30, 31, 32, 33, 34, 35, 36, 37, 38, 62, 63, 64, 65, 46, 47, 48, 49, 42, 43, 44, 45, 70, 71, 72, 73, 74, 75, 76, 77, 78, 79, 80, 81, 82, 83, 84, 85, 86, 87, 88, 89, 90, 91, 92, 93, 94, 95, 96, 97, 98] (by decide +kernel) (by decide +kernel)
set_option maxRecDepth 20000 in
theorem gX7_group_X7_vital : GoodIn wsX7_group (wsV RX7 173 RX7 yX7_vital wsX7_vital) := goodIn_app (goodIn_of _ (by decide +kernel)) ggX7_group_X7_vital
set_option maxRecDepth 20000 in
theorem ggX7_group_X7_stand : GoodIn wsX7_group wsX7_stand := goodIn_r _ [69, 50, 26, 27, 28, 4, 29, 19, 20, 21, 30, 31, 32, 33, 34, 35, 36, 37, 38, 6, 7, 8, 9, 10, 11, 58, 59, 60, 61, 51, 52, 53, 54, 62, 63, 64, 65, 46, 47, 48, 49, 42, 43, 44, 45, 70, 71, 72, 73, 74, 75, 76, 77, 78, 79, 80, 81, 82, 83, 84, 85, 86, 87, 88, 89, 90, 91, 92, 93, 94, 95, 96, 97, 98] (by decide +kernel) (by decide +kernel)
set_option maxRecDepth 20000 in
theorem gX7_group_X7_stand : GoodIn wsX7_group (wsV RX7 180 RX7 yX7_stand wsX7_stand) := goodIn_app (goodIn_of _ (by decide +kernel)) ggX7_group_X7_stand
theorem dX7_group_0 : decode cX7_group 0 = .ok (.aload_n 0, 1) := by decide +kernel
theorem dX7_group_1 : decode cX7_group 1 = .ok (.iload_n 1, 1) := by decide +kernel
theorem dX7_group_2 : decode cX7_group 2 = .ok (.invokevirtual 144, 3) := by decide +kernel
theorem dX7_group_5 : decode cX7_group 5 = .ok (.ifCond .eq 12, 3) := by decide +kernel
theorem dX7_group_8 : decode cX7_group 8 = .ok (.iload_n 2, 1) := by decide +kernel
theorem dX7_group_9 : decode cX7_group 9 = .ok (.iconst 0, 1) := by decide +kernel
theorem dX7_group_10 : decode cX7_group 10 = .ok (.iconst 4, 1) := by decide +kernel
theorem dX7_group_11 : decode cX7_group 11 = .ok (.invokestatic 93, 3) := by decide +kernel
theorem dX7_group_14 : decode cX7_group 14 = .ok (.ifCond .ne 6, 3) := by decide +kernel
theorem dX7_group_17 : decode cX7_group 17 = .ok (.bipush (-2), 2) := by decide +kernel
theorem dX7_group_19 : decode cX7_group 19 = .ok (.ireturn, 1) := by decide +kernel
theorem dX7_group_20 : decode cX7_group 20 = .ok (.aload_n 0, 1) := by decide +kernel
theorem dX7_group_21 : decode cX7_group 21 = .ok (.iload_n 1, 1) := by decide +kernel
theorem dX7_group_22 : decode cX7_group 22 = .ok (.invokevirtual 159, 3) := by decide +kernel
theorem dX7_group_25 : decode cX7_group 25 = .ok (.istore_n 3, 1) := by decide +kernel
theorem dX7_group_26 : decode cX7_group 26 = .ok (.iload_n 3, 1) := by decide +kernel
theorem dX7_group_27 : decode cX7_group 27 = .ok (.ifCond .ne 6, 3) := by decide +kernel
theorem dX7_group_30 : decode cX7_group 30 = .ok (.bipush (-3), 2) := by decide +kernel
theorem dX7_group_32 : decode cX7_group 32 = .ok (.ireturn, 1) := by decide +kernel
theorem dX7_group_33 : decode cX7_group 33 = .ok (.aload_n 0, 1) := by decide +kernel
theorem dX7_group_34 : decode cX7_group 34 = .ok (.iload_n 1, 1) := by decide +kernel
theorem dX7_group_35 : decode cX7_group 35 = .ok (.invokevirtual 177, 3) := by decide +kernel
theorem dX7_group_38 : decode cX7_group 38 = .ok (.lstore 4, 2) := by decide +kernel
theorem dX7_group_40 : decode cX7_group 40 = .ok (.iload_n 2, 1) := by decide +kernel
theorem dX7_group_41 : decode cX7_group 41 = .ok (.tableswitch 63 0 3 #[31, 37, 47, 54], 31) := by decide +kernel
theorem dX7_group_72 : decode cX7_group 72 = .ok (.lload 4, 2) := by decide +kernel
theorem dX7_group_74 : decode cX7_group 74 = .ok (.invokestatic 115, 3) := by decide +kernel
theorem dX7_group_77 : decode cX7_group 77 = .ok (.ireturn, 1) := by decide +kernel
theorem dX7_group_78 : decode cX7_group 78 = .ok (.aload_n 0, 1) := by decide +kernel
theorem dX7_group_79 : decode cX7_group 79 = .ok (.lload 4, 2) := by decide +kernel
theorem dX7_group_81 : decode cX7_group 81 = .ok (.invokevirtual 162, 3) := by decide +kernel
theorem dX7_group_84 : decode cX7_group 84 = .ok (.invokestatic 115, 3) := by decide +kernel
theorem dX7_group_87 : decode cX7_group 87 = .ok (.ireturn, 1) := by decide +kernel
theorem dX7_group_88 : decode cX7_group 88 = .ok (.lload 4, 2) := by decide +kernel
theorem dX7_group_90 : decode cX7_group 90 = .ok (.iconst 0, 1) := by decide +kernel
theorem dX7_group_91 : decode cX7_group 91 = .ok (.invokestatic 107, 3) := by decide +kernel
theorem dX7_group_94 : decode cX7_group 94 = .ok (.ireturn, 1) := by decide +kernel
theorem dX7_group_95 : decode cX7_group 95 = .ok (.aload_n 0, 1) := by decide +kernel
theorem dX7_group_96 : decode cX7_group 96 = .ok (.iload_n 3, 1) := by decide +kernel
theorem dX7_group_97 : decode cX7_group 97 = .ok (.lload 4, 2) := by decide +kernel
theorem dX7_group_99 : decode cX7_group 99 = .ok (.lconst 0, 1) := by decide +kernel
theorem dX7_group_100 : decode cX7_group 100 = .ok (.invokevirtual 173, 3) := by decide +kernel
theorem dX7_group_103 : decode cX7_group 103 = .ok (.ireturn, 1) := by decide +kernel
theorem dX7_group_104 : decode cX7_group 104 = .ok (.aload_n 0, 1) := by decide +kernel
theorem dX7_group_105 : decode cX7_group 105 = .ok (.iload_n 3, 1) := by decide +kernel
theorem dX7_group_106 : decode cX7_group 106 = .ok (.invokevirtual 180, 3) := by decide +kernel
theorem dX7_group_109 : decode cX7_group 109 = .ok (.lload 4, 2) := by decide +kernel
theorem dX7_group_111 : decode cX7_group 111 = .ok (.land, 1) := by decide +kernel
theorem dX7_group_112 : decode cX7_group 112 = .ok (.lconst 0, 1) := by decide +kernel
theorem dX7_group_113 : decode cX7_group 113 = .ok (.lcmp, 1) := by decide +kernel
theorem dX7_group_114 : decode cX7_group 114 = .ok (.ifCond .eq 7, 3) := by decide +kernel
theorem dX7_group_117 : decode cX7_group 117 = .ok (.iconst 1, 1) := by decide +kernel
theorem dX7_group_118 : decode cX7_group 118 = .ok (.goto 4, 3) := by decide +kernel
theorem dX7_group_121 : decode cX7_group 121 = .ok (.iconst 0, 1) := by decide +kernel
theorem dX7_group_122 : decode cX7_group 122 = .ok (.ireturn, 1) := by decide +kernel
set_option maxRecDepth 20000 in
theorem ggX7_breath_X7_isCrossing : GoodIn wsX7_breath wsX7_isCrossing := goodIn_r _ [5, 6, 7, 8, 4, 9, 10, 11, 12, 13, 14, 58, 59, 60, 61, 62, 63, 64, 65, 66, 67, 68, 69, 70, 71, 72, 73, 74, 75, 76, 77, 78, 79, 80, 81, 82, 83, 84, 85, 86] (by decide +kernel) (by decide +kernel)
set_option maxRecDepth 20000 in
theorem gX7_breath_X7_isCrossing : GoodIn wsX7_breath (wsV RX7 144 RX7 yX7_isCrossing wsX7_isCrossing) := goodIn_app (goodIn_of _ (by decide +kernel)) ggX7_breath_X7_isCrossing
set_option maxRecDepth 20000 in
theorem ggX7_breath_X7_atOf : GoodIn wsX7_breath wsX7_atOf := goodIn_r _ [18, 19, 20, 21, 58, 59, 60, 61, 62, 63, 64, 65, 66, 67, 68, 69, 70, 71, 72, 73, 74, 75, 76, 77, 78, 79, 80, 81, 82, 83, 84, 85, 86] (by decide +kernel) (by decide +kernel)
set_option maxRecDepth 20000 in
theorem gX7_breath_X7_atOf : GoodIn wsX7_breath (wsV RX7 159 RX7 yX7_atOf wsX7_atOf) := goodIn_app (goodIn_of _ (by decide +kernel)) ggX7_breath_X7_atOf
set_option maxRecDepth 20000 in
theorem ggX7_breath_X7_groupAt : GoodIn wsX7_breath wsX7_groupAt := goodIn_r _ [25, 15, 16, 17, 4, 18, 19, 20, 21, 26, 27, 28, 29, 30, 31, 32, 33, 34, 35, 36, 37, 38, 6, 7, 8, 9, 10, 11, 58, 59, 60, 61, 62, 63, 64, 65, 66, 67, 68, 69, 70, 71, 72, 73, 74, 75, 76, 77, 78, 79, 80, 81, 82, 83, 84, 85, 86] (by decide +kernel) (by decide +kernel)
set_option maxRecDepth 20000 in
theorem gX7_breath_X7_groupAt : GoodIn wsX7_breath (wsV RX7 177 RX7 yX7_groupAt wsX7_groupAt) := goodIn_app (goodIn_of _ (by decide +kernel)) ggX7_breath_X7_groupAt
set_option maxRecDepth 20000 in
theorem ggX7_breath_X7_breaths : GoodIn wsX7_breath wsX7_breaths := goodIn_r _ [42, 19, 20, 21, 34, 35, 36, 4, 37, 38, 6, 7, 8, 9, 10, 11, 43, 44, 45, 46, 47, 48, 49, 50, 51, 58, 59, 60, 61, 62, 63, 64, 65, 66, 67, 68, 69, 70, 71, 72, 73, 74, 75, 76, 77, 78, 79, 80, 81, 82, 83, 84, 85, 86] (by decide +kernel) (by decide +kernel)
set_option maxRecDepth 20000 in
theorem gX7_breath_X7_breaths : GoodIn wsX7_breath (wsV RX7 162 RX7 yX7_breaths wsX7_breaths) := goodIn_app (goodIn_of _ (by decide +kernel)) ggX7_breath_X7_breaths
set_option maxRecDepth 20000 in
theorem ggX7_breath_X7_many : GoodIn wsX7_breath wsX7_many := goodIn_r _ [54] (by decide +kernel) (by decide +kernel)
set_option maxRecDepth 20000 in
theorem gX7_breath_X7_many : GoodIn wsX7_breath (va_wsS RX7 115 yX7_many wsX7_many) := goodIn_app (goodIn_of _ (by decide +kernel)) ggX7_breath_X7_many
set_option maxRecDepth 20000 in
theorem ggX7_breath_X7_in : GoodIn wsX7_breath wsX7_in := goodIn_r _ [14] (by decide +kernel) (by decide +kernel)
set_option maxRecDepth 20000 in
theorem gX7_breath_X7_in : GoodIn wsX7_breath (va_wsS RX7 93 yX7_in wsX7_in) := goodIn_app (goodIn_of _ (by decide +kernel)) ggX7_breath_X7_in
set_option maxRecDepth 20000 in
theorem ggX7_breath_X7_least : GoodIn wsX7_breath wsX7_least := goodIn_r _ [57] (by decide +kernel) (by decide +kernel)
set_option maxRecDepth 20000 in
theorem gX7_breath_X7_least : GoodIn wsX7_breath (va_wsS RX7 107 yX7_least wsX7_least) := goodIn_app (goodIn_of _ (by decide +kernel)) ggX7_breath_X7_least
theorem dX7_breath_0 : decode cX7_breath 0 = .ok (.aload_n 0, 1) := by decide +kernel
theorem dX7_breath_1 : decode cX7_breath 1 = .ok (.iload_n 1, 1) := by decide +kernel
theorem dX7_breath_2 : decode cX7_breath 2 = .ok (.invokevirtual 144, 3) := by decide +kernel
theorem dX7_breath_5 : decode cX7_breath 5 = .ok (.ifCond .ne 6, 3) := by decide +kernel
theorem dX7_breath_8 : decode cX7_breath 8 = .ok (.bipush (-2), 2) := by decide +kernel
theorem dX7_breath_10 : decode cX7_breath 10 = .ok (.ireturn, 1) := by decide +kernel
theorem dX7_breath_11 : decode cX7_breath 11 = .ok (.aload_n 0, 1) := by decide +kernel
theorem dX7_breath_12 : decode cX7_breath 12 = .ok (.iload_n 1, 1) := by decide +kernel
theorem dX7_breath_13 : decode cX7_breath 13 = .ok (.invokevirtual 159, 3) := by decide +kernel
theorem dX7_breath_16 : decode cX7_breath 16 = .ok (.ifCond .ne 6, 3) := by decide +kernel
theorem dX7_breath_19 : decode cX7_breath 19 = .ok (.bipush (-3), 2) := by decide +kernel
theorem dX7_breath_21 : decode cX7_breath 21 = .ok (.ireturn, 1) := by decide +kernel
theorem dX7_breath_22 : decode cX7_breath 22 = .ok (.aload_n 0, 1) := by decide +kernel
theorem dX7_breath_23 : decode cX7_breath 23 = .ok (.aload_n 0, 1) := by decide +kernel
theorem dX7_breath_24 : decode cX7_breath 24 = .ok (.iload_n 1, 1) := by decide +kernel
theorem dX7_breath_25 : decode cX7_breath 25 = .ok (.invokevirtual 177, 3) := by decide +kernel
theorem dX7_breath_28 : decode cX7_breath 28 = .ok (.invokevirtual 162, 3) := by decide +kernel
theorem dX7_breath_31 : decode cX7_breath 31 = .ok (.lstore_n 3, 1) := by decide +kernel
theorem dX7_breath_32 : decode cX7_breath 32 = .ok (.iload_n 2, 1) := by decide +kernel
theorem dX7_breath_33 : decode cX7_breath 33 = .ok (.iconst 0, 1) := by decide +kernel
theorem dX7_breath_34 : decode cX7_breath 34 = .ok (.lload_n 3, 1) := by decide +kernel
theorem dX7_breath_35 : decode cX7_breath 35 = .ok (.invokestatic 115, 3) := by decide +kernel
theorem dX7_breath_38 : decode cX7_breath 38 = .ok (.iconst 1, 1) := by decide +kernel
theorem dX7_breath_39 : decode cX7_breath 39 = .ok (.isub, 1) := by decide +kernel
theorem dX7_breath_40 : decode cX7_breath 40 = .ok (.invokestatic 93, 3) := by decide +kernel
theorem dX7_breath_43 : decode cX7_breath 43 = .ok (.ifCond .ne 5, 3) := by decide +kernel
theorem dX7_breath_46 : decode cX7_breath 46 = .ok (.iconst (-1), 1) := by decide +kernel
theorem dX7_breath_47 : decode cX7_breath 47 = .ok (.ireturn, 1) := by decide +kernel
theorem dX7_breath_48 : decode cX7_breath 48 = .ok (.lload_n 3, 1) := by decide +kernel
theorem dX7_breath_49 : decode cX7_breath 49 = .ok (.iconst 0, 1) := by decide +kernel
theorem dX7_breath_50 : decode cX7_breath 50 = .ok (.invokestatic 107, 3) := by decide +kernel
theorem dX7_breath_53 : decode cX7_breath 53 = .ok (.istore 5, 2) := by decide +kernel
theorem dX7_breath_55 : decode cX7_breath 55 = .ok (.iconst 0, 1) := by decide +kernel
theorem dX7_breath_56 : decode cX7_breath 56 = .ok (.istore 6, 2) := by decide +kernel
theorem dX7_breath_58 : decode cX7_breath 58 = .ok (.iload 6, 2) := by decide +kernel
theorem dX7_breath_60 : decode cX7_breath 60 = .ok (.iload_n 2, 1) := by decide +kernel
theorem dX7_breath_61 : decode cX7_breath 61 = .ok (.if_icmp .ge 19, 3) := by decide +kernel
theorem dX7_breath_64 : decode cX7_breath 64 = .ok (.lload_n 3, 1) := by decide +kernel
theorem dX7_breath_65 : decode cX7_breath 65 = .ok (.iload 5, 2) := by decide +kernel
theorem dX7_breath_67 : decode cX7_breath 67 = .ok (.iconst 1, 1) := by decide +kernel
theorem dX7_breath_68 : decode cX7_breath 68 = .ok (.iadd, 1) := by decide +kernel
theorem dX7_breath_69 : decode cX7_breath 69 = .ok (.invokestatic 107, 3) := by decide +kernel
theorem dX7_breath_72 : decode cX7_breath 72 = .ok (.istore 5, 2) := by decide +kernel
theorem dX7_breath_74 : decode cX7_breath 74 = .ok (.iinc 6 1, 3) := by decide +kernel
theorem dX7_breath_77 : decode cX7_breath 77 = .ok (.goto (-19), 3) := by decide +kernel
theorem dX7_breath_80 : decode cX7_breath 80 = .ok (.iload 5, 2) := by decide +kernel
theorem dX7_breath_82 : decode cX7_breath 82 = .ok (.ireturn, 1) := by decide +kernel
set_option maxRecDepth 20000 in
theorem ggX7_region_X7_in : GoodIn wsX7_region wsX7_in := goodIn_r _ [8] (by decide +kernel) (by decide +kernel)
set_option maxRecDepth 20000 in
theorem gX7_region_X7_in : GoodIn wsX7_region (va_wsS RX7 93 yX7_in wsX7_in) := goodIn_app (goodIn_of _ (by decide +kernel)) ggX7_region_X7_in
set_option maxRecDepth 20000 in
theorem ggX7_region_X7_isCrossing : GoodIn wsX7_region wsX7_isCrossing := goodIn_r _ [12, 13, 14, 15, 7, 16, 17, 18, 5, 6, 8, 58, 59, 60, 61, 62, 63, 64, 65, 66, 67, 68, 69, 70, 71, 72, 73, 74, 75, 76, 77, 78, 79, 80, 81, 82, 83, 84, 85, 86] (by decide +kernel) (by decide +kernel)
set_option maxRecDepth 20000 in
theorem gX7_region_X7_isCrossing : GoodIn wsX7_region (wsV RX7 144 RX7 yX7_isCrossing wsX7_isCrossing) := goodIn_app (goodIn_of _ (by decide +kernel)) ggX7_region_X7_isCrossing
set_option maxRecDepth 20000 in
theorem ggX7_region_X7_atOf : GoodIn wsX7_region wsX7_atOf := goodIn_r _ [22, 2, 3, 4, 58, 59, 60, 61, 62, 63, 64, 65, 66, 67, 68, 69, 70, 71, 72, 73, 74, 75, 76, 77, 78, 79, 80, 81, 82, 83, 84, 85, 86] (by decide +kernel) (by decide +kernel)
set_option maxRecDepth 20000 in
theorem gX7_region_X7_atOf : GoodIn wsX7_region (wsV RX7 159 RX7 yX7_atOf wsX7_atOf) := goodIn_app (goodIn_of _ (by decide +kernel)) ggX7_region_X7_atOf
set_option maxRecDepth 20000 in
theorem ggX7_region_X7_all : GoodIn wsX7_region wsX7_all := goodIn_r _ [26, 13, 14, 15, 7, 16, 17, 18, 58, 59, 60, 61, 62, 63, 64, 65, 66, 67, 68, 69, 70, 71, 72, 73, 74, 75, 76, 77, 78, 79, 80, 81, 82, 83, 84, 85, 86] (by decide +kernel) (by decide +kernel)
set_option maxRecDepth 20000 in
theorem gX7_region_X7_all : GoodIn wsX7_region (wsV RX7 101 RX7 yX7_all wsX7_all) := goodIn_app (goodIn_of _ (by decide +kernel)) ggX7_region_X7_all
set_option maxRecDepth 20000 in
theorem ggX7_region_X7_stones : GoodIn wsX7_region wsX7_stones := goodIn_r _ [30, 2, 3, 4, 58, 59, 60, 61, 62, 63, 64, 65, 66, 67, 68, 69, 70, 71, 72, 73, 74, 75, 76, 77, 78, 79, 80, 81, 82, 83, 84, 85, 86] (by decide +kernel) (by decide +kernel)
set_option maxRecDepth 20000 in
theorem gX7_region_X7_stones : GoodIn wsX7_region (wsV RX7 165 RX7 yX7_stones wsX7_stones) := goodIn_app (goodIn_of _ (by decide +kernel)) ggX7_region_X7_stones
set_option maxRecDepth 20000 in
theorem ggX7_region_X7_spread : GoodIn wsX7_region wsX7_spread := goodIn_r _ [34, 35, 36, 37, 7, 38, 39, 13, 14, 15, 16, 17, 18, 58, 59, 60, 61, 62, 63, 64, 65, 66, 67, 68, 69, 70, 71, 72, 73, 74, 75, 76, 77, 78, 79, 80, 81, 82, 83, 84, 85, 86] (by decide +kernel) (by decide +kernel)
set_option maxRecDepth 20000 in
theorem gX7_region_X7_spread : GoodIn wsX7_region (wsV RX7 111 RX7 yX7_spread wsX7_spread) := goodIn_app (goodIn_of _ (by decide +kernel)) ggX7_region_X7_spread
set_option maxRecDepth 20000 in
theorem ggX7_region_X7_free : GoodIn wsX7_region wsX7_free := goodIn_r _ [43, 1, 23, 24, 25, 7, 26, 13, 14, 15, 16, 17, 18, 58, 59, 60, 61, 62, 63, 64, 65, 66, 67, 68, 69, 70, 71, 72, 73, 74, 75, 76, 77, 78, 79, 80, 81, 82, 83, 84, 85, 86] (by decide +kernel) (by decide +kernel)
set_option maxRecDepth 20000 in
theorem gX7_region_X7_free : GoodIn wsX7_region (wsV RX7 129 RX7 yX7_free wsX7_free) := goodIn_app (goodIn_of _ (by decide +kernel)) ggX7_region_X7_free
set_option maxRecDepth 20000 in
theorem ggX7_region_X7_many : GoodIn wsX7_region wsX7_many := goodIn_r _ [46] (by decide +kernel) (by decide +kernel)
set_option maxRecDepth 20000 in
theorem gX7_region_X7_many : GoodIn wsX7_region (va_wsS RX7 115 yX7_many wsX7_many) := goodIn_app (goodIn_of _ (by decide +kernel)) ggX7_region_X7_many
set_option maxRecDepth 20000 in
theorem ggX7_region_X7_least : GoodIn wsX7_region wsX7_least := goodIn_r _ [49] (by decide +kernel) (by decide +kernel)
set_option maxRecDepth 20000 in
theorem gX7_region_X7_least : GoodIn wsX7_region (va_wsS RX7 107 yX7_least wsX7_least) := goodIn_app (goodIn_of _ (by decide +kernel)) ggX7_region_X7_least
set_option maxRecDepth 20000 in
theorem ggX7_region_X7_around : GoodIn wsX7_region wsX7_around := goodIn_r _ [38, 39, 13, 14, 15, 7, 16, 17, 18, 58, 59, 60, 61, 62, 63, 64, 65, 66, 67, 68, 69, 70, 71, 72, 73, 74, 75, 76, 77, 78, 79, 80, 81, 82, 83, 84, 85, 86] (by decide +kernel) (by decide +kernel)
set_option maxRecDepth 20000 in
theorem gX7_region_X7_around : GoodIn wsX7_region (wsV RX7 97 RX7 yX7_around wsX7_around) := goodIn_app (goodIn_of _ (by decide +kernel)) ggX7_region_X7_around
set_option maxRecDepth 20000 in
theorem ggX7_region_X7_isVital : GoodIn wsX7_region wsX7_isVital := goodIn_r _ [53, 2, 3, 4, 1, 35, 36, 37, 7, 38, 39, 13, 14, 15, 16, 17, 18, 40, 41, 42, 43, 23, 24, 25, 26, 54, 55, 56, 57, 58, 59, 60, 61, 62, 63, 64, 65, 66, 67, 68, 69, 70, 71, 72, 73, 74, 75, 76, 77, 78, 79, 80, 81, 82, 83, 84, 85, 86] (by decide +kernel) (by decide +kernel)
set_option maxRecDepth 20000 in
theorem gX7_region_X7_isVital : GoodIn wsX7_region (wsV RX7 169 RX7 yX7_isVital wsX7_isVital) := goodIn_app (goodIn_of _ (by decide +kernel)) ggX7_region_X7_isVital
theorem dX7_region_0 : decode cX7_region 0 = .ok (.iload_n 1, 1) := by decide +kernel
theorem dX7_region_1 : decode cX7_region 1 = .ok (.iconst 1, 1) := by decide +kernel
theorem dX7_region_2 : decode cX7_region 2 = .ok (.iconst 2, 1) := by decide +kernel
theorem dX7_region_3 : decode cX7_region 3 = .ok (.invokestatic 93, 3) := by decide +kernel
theorem dX7_region_6 : decode cX7_region 6 = .ok (.ifCond .eq 20, 3) := by decide +kernel
theorem dX7_region_9 : decode cX7_region 9 = .ok (.aload_n 0, 1) := by decide +kernel
theorem dX7_region_10 : decode cX7_region 10 = .ok (.iload_n 2, 1) := by decide +kernel
theorem dX7_region_11 : decode cX7_region 11 = .ok (.invokevirtual 144, 3) := by decide +kernel
theorem dX7_region_14 : decode cX7_region 14 = .ok (.ifCond .eq 12, 3) := by decide +kernel
theorem dX7_region_17 : decode cX7_region 17 = .ok (.iload_n 3, 1) := by decide +kernel
theorem dX7_region_18 : decode cX7_region 18 = .ok (.iconst 0, 1) := by decide +kernel
theorem dX7_region_19 : decode cX7_region 19 = .ok (.iconst 4, 1) := by decide +kernel
theorem dX7_region_20 : decode cX7_region 20 = .ok (.invokestatic 93, 3) := by decide +kernel
theorem dX7_region_23 : decode cX7_region 23 = .ok (.ifCond .ne 6, 3) := by decide +kernel
theorem dX7_region_26 : decode cX7_region 26 = .ok (.bipush (-2), 2) := by decide +kernel
theorem dX7_region_28 : decode cX7_region 28 = .ok (.ireturn, 1) := by decide +kernel
theorem dX7_region_29 : decode cX7_region 29 = .ok (.aload_n 0, 1) := by decide +kernel
theorem dX7_region_30 : decode cX7_region 30 = .ok (.iload_n 2, 1) := by decide +kernel
theorem dX7_region_31 : decode cX7_region 31 = .ok (.invokevirtual 159, 3) := by decide +kernel
theorem dX7_region_34 : decode cX7_region 34 = .ok (.iload_n 1, 1) := by decide +kernel
theorem dX7_region_35 : decode cX7_region 35 = .ok (.if_icmp .ne 6, 3) := by decide +kernel
theorem dX7_region_38 : decode cX7_region 38 = .ok (.bipush (-3), 2) := by decide +kernel
theorem dX7_region_40 : decode cX7_region 40 = .ok (.ireturn, 1) := by decide +kernel
theorem dX7_region_41 : decode cX7_region 41 = .ok (.aload_n 0, 1) := by decide +kernel
theorem dX7_region_42 : decode cX7_region 42 = .ok (.lconst 1, 1) := by decide +kernel
theorem dX7_region_43 : decode cX7_region 43 = .ok (.iload_n 2, 1) := by decide +kernel
theorem dX7_region_44 : decode cX7_region 44 = .ok (.lshl, 1) := by decide +kernel
theorem dX7_region_45 : decode cX7_region 45 = .ok (.aload_n 0, 1) := by decide +kernel
theorem dX7_region_46 : decode cX7_region 46 = .ok (.invokevirtual 101, 3) := by decide +kernel
theorem dX7_region_49 : decode cX7_region 49 = .ok (.aload_n 0, 1) := by decide +kernel
theorem dX7_region_50 : decode cX7_region 50 = .ok (.iload_n 1, 1) := by decide +kernel
theorem dX7_region_51 : decode cX7_region 51 = .ok (.invokevirtual 165, 3) := by decide +kernel
theorem dX7_region_54 : decode cX7_region 54 = .ok (.ldc2_w 105, 3) := by decide +kernel
theorem dX7_region_57 : decode cX7_region 57 = .ok (.lxor, 1) := by decide +kernel
theorem dX7_region_58 : decode cX7_region 58 = .ok (.land, 1) := by decide +kernel
theorem dX7_region_59 : decode cX7_region 59 = .ok (.invokevirtual 111, 3) := by decide +kernel
theorem dX7_region_62 : decode cX7_region 62 = .ok (.lstore 4, 2) := by decide +kernel
theorem dX7_region_64 : decode cX7_region 64 = .ok (.iload_n 3, 1) := by decide +kernel
theorem dX7_region_65 : decode cX7_region 65 = .ok (.iconst 2, 1) := by decide +kernel
theorem dX7_region_66 : decode cX7_region 66 = .ok (.if_icmp .ge 41, 3) := by decide +kernel
theorem dX7_region_69 : decode cX7_region 69 = .ok (.iload_n 3, 1) := by decide +kernel
theorem dX7_region_70 : decode cX7_region 70 = .ok (.ifCond .ne 8, 3) := by decide +kernel
theorem dX7_region_73 : decode cX7_region 73 = .ok (.lload 4, 2) := by decide +kernel
theorem dX7_region_75 : decode cX7_region 75 = .ok (.goto 28, 3) := by decide +kernel
theorem dX7_region_78 : decode cX7_region 78 = .ok (.lload 4, 2) := by decide +kernel
theorem dX7_region_80 : decode cX7_region 80 = .ok (.aload_n 0, 1) := by decide +kernel
theorem dX7_region_81 : decode cX7_region 81 = .ok (.aload_n 0, 1) := by decide +kernel
theorem dX7_region_82 : decode cX7_region 82 = .ok (.getfield 24, 3) := by decide +kernel
theorem dX7_region_85 : decode cX7_region 85 = .ok (.aload_n 0, 1) := by decide +kernel
theorem dX7_region_86 : decode cX7_region 86 = .ok (.getfield 86, 3) := by decide +kernel
theorem dX7_region_89 : decode cX7_region 89 = .ok (.laload, 1) := by decide +kernel
theorem dX7_region_90 : decode cX7_region 90 = .ok (.aload_n 0, 1) := by decide +kernel
theorem dX7_region_91 : decode cX7_region 91 = .ok (.getfield 27, 3) := by decide +kernel
theorem dX7_region_94 : decode cX7_region 94 = .ok (.aload_n 0, 1) := by decide +kernel
theorem dX7_region_95 : decode cX7_region 95 = .ok (.getfield 86, 3) := by decide +kernel
theorem dX7_region_98 : decode cX7_region 98 = .ok (.laload, 1) := by decide +kernel
theorem dX7_region_99 : decode cX7_region 99 = .ok (.invokevirtual 129, 3) := by decide +kernel
theorem dX7_region_102 : decode cX7_region 102 = .ok (.land, 1) := by decide +kernel
theorem dX7_region_103 : decode cX7_region 103 = .ok (.invokestatic 115, 3) := by decide +kernel
theorem dX7_region_106 : decode cX7_region 106 = .ok (.ireturn, 1) := by decide +kernel
theorem dX7_region_107 : decode cX7_region 107 = .ok (.iload_n 3, 1) := by decide +kernel
theorem dX7_region_108 : decode cX7_region 108 = .ok (.iconst 4, 1) := by decide +kernel
theorem dX7_region_109 : decode cX7_region 109 = .ok (.if_icmp .ne 10, 3) := by decide +kernel
theorem dX7_region_112 : decode cX7_region 112 = .ok (.lload 4, 2) := by decide +kernel
theorem dX7_region_114 : decode cX7_region 114 = .ok (.iconst 0, 1) := by decide +kernel
theorem dX7_region_115 : decode cX7_region 115 = .ok (.invokestatic 107, 3) := by decide +kernel
theorem dX7_region_118 : decode cX7_region 118 = .ok (.ireturn, 1) := by decide +kernel
theorem dX7_region_119 : decode cX7_region 119 = .ok (.iconst 0, 1) := by decide +kernel
theorem dX7_region_120 : decode cX7_region 120 = .ok (.istore 6, 2) := by decide +kernel
theorem dX7_region_122 : decode cX7_region 122 = .ok (.aload_n 0, 1) := by decide +kernel
theorem dX7_region_123 : decode cX7_region 123 = .ok (.lload 4, 2) := by decide +kernel
theorem dX7_region_125 : decode cX7_region 125 = .ok (.invokevirtual 97, 3) := by decide +kernel
theorem dX7_region_128 : decode cX7_region 128 = .ok (.aload_n 0, 1) := by decide +kernel
theorem dX7_region_129 : decode cX7_region 129 = .ok (.iload_n 1, 1) := by decide +kernel
theorem dX7_region_130 : decode cX7_region 130 = .ok (.invokevirtual 165, 3) := by decide +kernel
theorem dX7_region_133 : decode cX7_region 133 = .ok (.land, 1) := by decide +kernel
theorem dX7_region_134 : decode cX7_region 134 = .ok (.lstore 7, 2) := by decide +kernel
theorem dX7_region_136 : decode cX7_region 136 = .ok (.lload 7, 2) := by decide +kernel
theorem dX7_region_138 : decode cX7_region 138 = .ok (.lconst 0, 1) := by decide +kernel
theorem dX7_region_139 : decode cX7_region 139 = .ok (.lcmp, 1) := by decide +kernel
theorem dX7_region_140 : decode cX7_region 140 = .ok (.ifCond .eq 60, 3) := by decide +kernel
theorem dX7_region_143 : decode cX7_region 143 = .ok (.aload_n 0, 1) := by decide +kernel
theorem dX7_region_144 : decode cX7_region 144 = .ok (.lload 7, 2) := by decide +kernel
theorem dX7_region_146 : decode cX7_region 146 = .ok (.lload 7, 2) := by decide +kernel
theorem dX7_region_148 : decode cX7_region 148 = .ok (.lneg, 1) := by decide +kernel
theorem dX7_region_149 : decode cX7_region 149 = .ok (.land, 1) := by decide +kernel
theorem dX7_region_150 : decode cX7_region 150 = .ok (.aload_n 0, 1) := by decide +kernel
theorem dX7_region_151 : decode cX7_region 151 = .ok (.iload_n 1, 1) := by decide +kernel
theorem dX7_region_152 : decode cX7_region 152 = .ok (.invokevirtual 165, 3) := by decide +kernel
theorem dX7_region_155 : decode cX7_region 155 = .ok (.invokevirtual 111, 3) := by decide +kernel
theorem dX7_region_158 : decode cX7_region 158 = .ok (.lstore 9, 2) := by decide +kernel
theorem dX7_region_160 : decode cX7_region 160 = .ok (.lload 7, 2) := by decide +kernel
theorem dX7_region_162 : decode cX7_region 162 = .ok (.lload 9, 2) := by decide +kernel
theorem dX7_region_164 : decode cX7_region 164 = .ok (.ldc2_w 105, 3) := by decide +kernel
theorem dX7_region_167 : decode cX7_region 167 = .ok (.lxor, 1) := by decide +kernel
theorem dX7_region_168 : decode cX7_region 168 = .ok (.land, 1) := by decide +kernel
theorem dX7_region_169 : decode cX7_region 169 = .ok (.lstore 7, 2) := by decide +kernel
theorem dX7_region_171 : decode cX7_region 171 = .ok (.iload 6, 2) := by decide +kernel
theorem dX7_region_173 : decode cX7_region 173 = .ok (.iload_n 3, 1) := by decide +kernel
theorem dX7_region_174 : decode cX7_region 174 = .ok (.iconst 2, 1) := by decide +kernel
theorem dX7_region_175 : decode cX7_region 175 = .ok (.if_icmp .eq 14, 3) := by decide +kernel
theorem dX7_region_178 : decode cX7_region 178 = .ok (.aload_n 0, 1) := by decide +kernel
theorem dX7_region_179 : decode cX7_region 179 = .ok (.lload 4, 2) := by decide +kernel
theorem dX7_region_181 : decode cX7_region 181 = .ok (.lload 9, 2) := by decide +kernel
theorem dX7_region_183 : decode cX7_region 183 = .ok (.invokevirtual 169, 3) := by decide +kernel
theorem dX7_region_186 : decode cX7_region 186 = .ok (.ifCond .eq 7, 3) := by decide +kernel
theorem dX7_region_189 : decode cX7_region 189 = .ok (.iconst 1, 1) := by decide +kernel
theorem dX7_region_190 : decode cX7_region 190 = .ok (.goto 4, 3) := by decide +kernel
theorem dX7_region_193 : decode cX7_region 193 = .ok (.iconst 0, 1) := by decide +kernel
theorem dX7_region_194 : decode cX7_region 194 = .ok (.iadd, 1) := by decide +kernel
theorem dX7_region_195 : decode cX7_region 195 = .ok (.istore 6, 2) := by decide +kernel
theorem dX7_region_197 : decode cX7_region 197 = .ok (.goto (-61), 3) := by decide +kernel
theorem dX7_region_200 : decode cX7_region 200 = .ok (.iload 6, 2) := by decide +kernel
theorem dX7_region_202 : decode cX7_region 202 = .ok (.ireturn, 1) := by decide +kernel
set_option maxRecDepth 20000 in
theorem ggX7_standing_X7_in : GoodIn wsX7_standing wsX7_in := goodIn_r _ [4] (by decide +kernel) (by decide +kernel)
set_option maxRecDepth 20000 in
theorem gX7_standing_X7_in : GoodIn wsX7_standing (va_wsS RX7 93 yX7_in wsX7_in) := goodIn_app (goodIn_of _ (by decide +kernel)) ggX7_standing_X7_in
set_option maxRecDepth 20000 in
theorem ggX7_standing_X7_stand : GoodIn wsX7_standing wsX7_stand := goodIn_r _ [8, 9, 10, 11, 12, 3, 13, 14, 15, 16, 17, 18, 19, 20, 21, 22, 23, 24, 25, 26, 27, 28, 29, 30, 31, 32, 33, 34, 35, 36, 37, 38, 39, 40, 41, 42, 43, 44, 45, 46, 47, 48, 49, 50, 51, 55, 56, 57, 58, 59, 60, 61, 62, 63, 64, 65, 66, 67, 68, 69, 70, 71, 72, 73, 74, 75, 76, 77, 78, 79, 80, 81, 82, 83] (by decide +kernel) (by decide +kernel)
set_option maxRecDepth 20000 in
theorem gX7_standing_X7_stand : GoodIn wsX7_standing (wsV RX7 180 RX7 yX7_stand wsX7_stand) := goodIn_app (goodIn_of _ (by decide +kernel)) ggX7_standing_X7_stand
set_option maxRecDepth 20000 in
theorem ggX7_standing_X7_many : GoodIn wsX7_standing wsX7_many := goodIn_r _ [54] (by decide +kernel) (by decide +kernel)
set_option maxRecDepth 20000 in
theorem gX7_standing_X7_many : GoodIn wsX7_standing (va_wsS RX7 115 yX7_many wsX7_many) := goodIn_app (goodIn_of _ (by decide +kernel)) ggX7_standing_X7_many
theorem dX7_standing_0 : decode cX7_standing 0 = .ok (.iload_n 1, 1) := by decide +kernel
theorem dX7_standing_1 : decode cX7_standing 1 = .ok (.iconst 1, 1) := by decide +kernel
theorem dX7_standing_2 : decode cX7_standing 2 = .ok (.iconst 2, 1) := by decide +kernel
theorem dX7_standing_3 : decode cX7_standing 3 = .ok (.invokestatic 93, 3) := by decide +kernel
theorem dX7_standing_6 : decode cX7_standing 6 = .ok (.ifCond .eq 14, 3) := by decide +kernel
theorem dX7_standing_9 : decode cX7_standing 9 = .ok (.aload_n 0, 1) := by decide +kernel
theorem dX7_standing_10 : decode cX7_standing 10 = .ok (.iload_n 1, 1) := by decide +kernel
theorem dX7_standing_11 : decode cX7_standing 11 = .ok (.invokevirtual 180, 3) := by decide +kernel
theorem dX7_standing_14 : decode cX7_standing 14 = .ok (.invokestatic 115, 3) := by decide +kernel
theorem dX7_standing_17 : decode cX7_standing 17 = .ok (.goto 5, 3) := by decide +kernel
theorem dX7_standing_20 : decode cX7_standing 20 = .ok (.bipush (-2), 2) := by decide +kernel
theorem dX7_standing_22 : decode cX7_standing 22 = .ok (.ireturn, 1) := by decide +kernel
theorem dX7_counts_0 : decode cX7_counts 0 = .ok (.aload_n 0, 1) := by decide +kernel
theorem dX7_counts_1 : decode cX7_counts 1 = .ok (.getfield 183, 3) := by decide +kernel
theorem dX7_counts_4 : decode cX7_counts 4 = .ok (.sipush 600, 3) := by decide +kernel
theorem dX7_counts_7 : decode cX7_counts 7 = .ok (.if_icmp .ne 11, 3) := by decide +kernel
theorem dX7_counts_10 : decode cX7_counts 10 = .ok (.aload_n 0, 1) := by decide +kernel
theorem dX7_counts_11 : decode cX7_counts 11 = .ok (.iconst 1, 1) := by decide +kernel
theorem dX7_counts_12 : decode cX7_counts 12 = .ok (.putfield 186, 3) := by decide +kernel
theorem dX7_counts_15 : decode cX7_counts 15 = .ok (.goto 13, 3) := by decide +kernel
theorem dX7_counts_18 : decode cX7_counts 18 = .ok (.aload_n 0, 1) := by decide +kernel
theorem dX7_counts_19 : decode cX7_counts 19 = .ok (.dup, 1) := by decide +kernel
theorem dX7_counts_20 : decode cX7_counts 20 = .ok (.getfield 183, 3) := by decide +kernel
theorem dX7_counts_23 : decode cX7_counts 23 = .ok (.iconst 1, 1) := by decide +kernel
theorem dX7_counts_24 : decode cX7_counts 24 = .ok (.iadd, 1) := by decide +kernel
theorem dX7_counts_25 : decode cX7_counts 25 = .ok (.putfield 183, 3) := by decide +kernel
theorem dX7_counts_28 : decode cX7_counts 28 = .ok (.return_, 1) := by decide +kernel
set_option maxRecDepth 20000 in
theorem ggX7_chaseBreaths_X7_spread : GoodIn wsX7_chaseBreaths wsX7_spread := goodIn_r _ [5, 6, 7, 8, 4, 9, 10, 11, 12, 13, 14, 15, 16, 26, 27, 28, 29, 30, 31, 32, 33, 34, 35, 36, 37, 38, 39, 40, 41, 42, 43, 44, 45, 46, 47, 48, 49, 50, 51, 52, 53, 54] (by decide +kernel) (by decide +kernel)
set_option maxRecDepth 20000 in
theorem gX7_chaseBreaths_X7_spread : GoodIn wsX7_chaseBreaths (wsV RX7 111 RX7 yX7_spread wsX7_spread) := goodIn_app (goodIn_of _ (by decide +kernel)) ggX7_chaseBreaths_X7_spread
set_option maxRecDepth 20000 in
theorem ggX7_chaseBreaths_X7_around : GoodIn wsX7_chaseBreaths wsX7_around := goodIn_r _ [9, 10, 11, 12, 13, 4, 14, 15, 16, 26, 27, 28, 29, 30, 31, 32, 33, 34, 35, 36, 37, 38, 39, 40, 41, 42, 43, 44, 45, 46, 47, 48, 49, 50, 51, 52, 53, 54] (by decide +kernel) (by decide +kernel)
set_option maxRecDepth 20000 in
theorem gX7_chaseBreaths_X7_around : GoodIn wsX7_chaseBreaths (wsV RX7 97 RX7 yX7_around wsX7_around) := goodIn_app (goodIn_of _ (by decide +kernel)) ggX7_chaseBreaths_X7_around
set_option maxRecDepth 20000 in
theorem ggX7_chaseBreaths_X7_free : GoodIn wsX7_chaseBreaths wsX7_free := goodIn_r _ [20, 21, 22, 23, 24, 4, 25, 11, 12, 13, 14, 15, 16, 26, 27, 28, 29, 30, 31, 32, 33, 34, 35, 36, 37, 38, 39, 40, 41, 42, 43, 44, 45, 46, 47, 48, 49, 50, 51, 52, 53, 54] (by decide +kernel) (by decide +kernel)
set_option maxRecDepth 20000 in
theorem gX7_chaseBreaths_X7_free : GoodIn wsX7_chaseBreaths (wsV RX7 129 RX7 yX7_free wsX7_free) := goodIn_app (goodIn_of _ (by decide +kernel)) ggX7_chaseBreaths_X7_free
theorem dX7_chaseBreaths_0 : decode cX7_chaseBreaths 0 = .ok (.aload_n 0, 1) := by decide +kernel
theorem dX7_chaseBreaths_1 : decode cX7_chaseBreaths 1 = .ok (.aload_n 0, 1) := by decide +kernel
theorem dX7_chaseBreaths_2 : decode cX7_chaseBreaths 2 = .ok (.lconst 1, 1) := by decide +kernel
theorem dX7_chaseBreaths_3 : decode cX7_chaseBreaths 3 = .ok (.iload 6, 2) := by decide +kernel
theorem dX7_chaseBreaths_5 : decode cX7_chaseBreaths 5 = .ok (.lshl, 1) := by decide +kernel
theorem dX7_chaseBreaths_6 : decode cX7_chaseBreaths 6 = .ok (.iload 5, 2) := by decide +kernel
theorem dX7_chaseBreaths_8 : decode cX7_chaseBreaths 8 = .ok (.iconst 1, 1) := by decide +kernel
theorem dX7_chaseBreaths_9 : decode cX7_chaseBreaths 9 = .ok (.if_icmp .ne 7, 3) := by decide +kernel
theorem dX7_chaseBreaths_12 : decode cX7_chaseBreaths 12 = .ok (.lload_n 1, 1) := by decide +kernel
theorem dX7_chaseBreaths_13 : decode cX7_chaseBreaths 13 = .ok (.goto 4, 3) := by decide +kernel
theorem dX7_chaseBreaths_16 : decode cX7_chaseBreaths 16 = .ok (.lload_n 3, 1) := by decide +kernel
theorem dX7_chaseBreaths_17 : decode cX7_chaseBreaths 17 = .ok (.invokevirtual 111, 3) := by decide +kernel
theorem dX7_chaseBreaths_20 : decode cX7_chaseBreaths 20 = .ok (.invokevirtual 97, 3) := by decide +kernel
theorem dX7_chaseBreaths_23 : decode cX7_chaseBreaths 23 = .ok (.aload_n 0, 1) := by decide +kernel
theorem dX7_chaseBreaths_24 : decode cX7_chaseBreaths 24 = .ok (.lload_n 1, 1) := by decide +kernel
theorem dX7_chaseBreaths_25 : decode cX7_chaseBreaths 25 = .ok (.lload_n 3, 1) := by decide +kernel
theorem dX7_chaseBreaths_26 : decode cX7_chaseBreaths 26 = .ok (.invokevirtual 129, 3) := by decide +kernel
theorem dX7_chaseBreaths_29 : decode cX7_chaseBreaths 29 = .ok (.land, 1) := by decide +kernel
theorem dX7_chaseBreaths_30 : decode cX7_chaseBreaths 30 = .ok (.lreturn, 1) := by decide +kernel
theorem dX7_isAt_0 : decode cX7_isAt 0 = .ok (.aload_n 0, 1) := by decide +kernel
theorem dX7_isAt_1 : decode cX7_isAt 1 = .ok (.getfield 122, 3) := by decide +kernel
theorem dX7_isAt_4 : decode cX7_isAt 4 = .ok (.lload_n 1, 1) := by decide +kernel
theorem dX7_isAt_5 : decode cX7_isAt 5 = .ok (.lcmp, 1) := by decide +kernel
theorem dX7_isAt_6 : decode cX7_isAt 6 = .ok (.ifCond .ne 16, 3) := by decide +kernel
theorem dX7_isAt_9 : decode cX7_isAt 9 = .ok (.aload_n 0, 1) := by decide +kernel
theorem dX7_isAt_10 : decode cX7_isAt 10 = .ok (.getfield 126, 3) := by decide +kernel
theorem dX7_isAt_13 : decode cX7_isAt 13 = .ok (.lload_n 3, 1) := by decide +kernel
theorem dX7_isAt_14 : decode cX7_isAt 14 = .ok (.lcmp, 1) := by decide +kernel
theorem dX7_isAt_15 : decode cX7_isAt 15 = .ok (.ifCond .ne 7, 3) := by decide +kernel
theorem dX7_isAt_18 : decode cX7_isAt 18 = .ok (.iconst 1, 1) := by decide +kernel
theorem dX7_isAt_19 : decode cX7_isAt 19 = .ok (.goto 4, 3) := by decide +kernel
theorem dX7_isAt_22 : decode cX7_isAt 22 = .ok (.iconst 0, 1) := by decide +kernel
theorem dX7_isAt_23 : decode cX7_isAt 23 = .ok (.ireturn, 1) := by decide +kernel
set_option maxRecDepth 20000 in
theorem ggX7_comes_X7_chaseBreaths : GoodIn wsX7_comes wsX7_chaseBreaths := goodIn_r _ [9, 10, 11, 12, 8, 13, 14, 15, 16, 17, 18, 19, 20, 21, 22, 23, 24, 25, 26, 27, 28, 29, 30, 31, 32, 33, 34, 35, 36, 37, 38, 39, 40, 41, 42, 43, 44, 45, 46, 47, 48, 49, 50, 51, 52, 53, 54, 55, 56, 57, 58, 59, 60, 61, 62] (by decide +kernel) (by decide +kernel)
set_option maxRecDepth 20000 in
theorem gX7_comes_X7_chaseBreaths : GoodIn wsX7_comes (wsV RX7 190 RX7 yX7_chaseBreaths wsX7_chaseBreaths) := goodIn_app (goodIn_of _ (by decide +kernel)) ggX7_comes_X7_chaseBreaths
theorem dX7_comes_0 : decode cX7_comes 0 = .ok (.aload_n 0, 1) := by decide +kernel
theorem dX7_comes_1 : decode cX7_comes 1 = .ok (.getfield 39, 3) := by decide +kernel
theorem dX7_comes_4 : decode cX7_comes 4 = .ok (.iload_n 1, 1) := by decide +kernel
theorem dX7_comes_5 : decode cX7_comes 5 = .ok (.lload_n 2, 1) := by decide +kernel
theorem dX7_comes_6 : decode cX7_comes 6 = .ok (.lastore, 1) := by decide +kernel
theorem dX7_comes_7 : decode cX7_comes 7 = .ok (.aload_n 0, 1) := by decide +kernel
theorem dX7_comes_8 : decode cX7_comes 8 = .ok (.getfield 42, 3) := by decide +kernel
theorem dX7_comes_11 : decode cX7_comes 11 = .ok (.iload_n 1, 1) := by decide +kernel
theorem dX7_comes_12 : decode cX7_comes 12 = .ok (.lload 4, 2) := by decide +kernel
theorem dX7_comes_14 : decode cX7_comes 14 = .ok (.lastore, 1) := by decide +kernel
theorem dX7_comes_15 : decode cX7_comes 15 = .ok (.aload_n 0, 1) := by decide +kernel
theorem dX7_comes_16 : decode cX7_comes 16 = .ok (.getfield 55, 3) := by decide +kernel
theorem dX7_comes_19 : decode cX7_comes 19 = .ok (.iload_n 1, 1) := by decide +kernel
theorem dX7_comes_20 : decode cX7_comes 20 = .ok (.aload_n 0, 1) := by decide +kernel
theorem dX7_comes_21 : decode cX7_comes 21 = .ok (.lload_n 2, 1) := by decide +kernel
theorem dX7_comes_22 : decode cX7_comes 22 = .ok (.lload 4, 2) := by decide +kernel
theorem dX7_comes_24 : decode cX7_comes 24 = .ok (.iload 6, 2) := by decide +kernel
theorem dX7_comes_26 : decode cX7_comes 26 = .ok (.iload 7, 2) := by decide +kernel
theorem dX7_comes_28 : decode cX7_comes 28 = .ok (.invokevirtual 190, 3) := by decide +kernel
theorem dX7_comes_31 : decode cX7_comes 31 = .ok (.lastore, 1) := by decide +kernel
theorem dX7_comes_32 : decode cX7_comes 32 = .ok (.aload_n 0, 1) := by decide +kernel
theorem dX7_comes_33 : decode cX7_comes 33 = .ok (.getfield 70, 3) := by decide +kernel
theorem dX7_comes_36 : decode cX7_comes 36 = .ok (.iload_n 1, 1) := by decide +kernel
theorem dX7_comes_37 : decode cX7_comes 37 = .ok (.iconst 0, 1) := by decide +kernel
theorem dX7_comes_38 : decode cX7_comes 38 = .ok (.bastore, 1) := by decide +kernel
theorem dX7_comes_39 : decode cX7_comes 39 = .ok (.return_, 1) := by decide +kernel
set_option maxRecDepth 20000 in
theorem ggX7_mayChase_X7_other : GoodIn wsX7_mayChase wsX7_other := goodIn_r _ [9] (by decide +kernel) (by decide +kernel)
set_option maxRecDepth 20000 in
theorem gX7_mayChase_X7_other : GoodIn wsX7_mayChase (va_wsS RX7 132 yX7_other wsX7_other) := goodIn_app (goodIn_of _ (by decide +kernel)) ggX7_mayChase_X7_other
set_option maxRecDepth 20000 in
theorem ggX7_mayChase_X7_laid : GoodIn wsX7_mayChase wsX7_laid := goodIn_r _ [13, 14, 15, 16, 17, 18, 19, 20, 8, 21, 22, 23, 24, 25, 26, 27, 28, 29, 30, 31, 32, 33, 34, 35, 36, 37, 38, 39, 40, 41, 42, 43, 44, 45, 46, 51, 52, 53, 54, 55, 56, 57, 58, 59, 60, 61, 62, 63, 64, 65, 66, 67, 68, 69, 70, 71, 72, 73, 74, 75, 76, 77, 78, 79] (by decide +kernel) (by decide +kernel)
set_option maxRecDepth 20000 in
theorem gX7_mayChase_X7_laid : GoodIn wsX7_mayChase (wsV RX7 136 RX7 yX7_laid wsX7_laid) := goodIn_app (goodIn_of _ (by decide +kernel)) ggX7_mayChase_X7_laid
set_option maxRecDepth 20000 in
theorem ggX7_mayChase_X7_isAt : GoodIn wsX7_mayChase wsX7_isAt := goodIn_r _ [50, 17, 18, 51, 52, 53, 54, 55, 56, 57, 58, 59, 60, 61, 62, 63, 64, 65, 66, 67, 68, 69, 70, 71, 72, 73, 74, 75, 76, 77, 78, 79] (by decide +kernel) (by decide +kernel)
set_option maxRecDepth 20000 in
theorem gX7_mayChase_X7_isAt : GoodIn wsX7_mayChase (wsV RX7 194 RX7 yX7_isAt wsX7_isAt) := goodIn_app (goodIn_of _ (by decide +kernel)) ggX7_mayChase_X7_isAt
theorem dX7_mayChase_0 : decode cX7_mayChase 0 = .ok (.aload_n 0, 1) := by decide +kernel
theorem dX7_mayChase_1 : decode cX7_mayChase 1 = .ok (.aload_n 0, 1) := by decide +kernel
theorem dX7_mayChase_2 : decode cX7_mayChase 2 = .ok (.getfield 39, 3) := by decide +kernel
theorem dX7_mayChase_5 : decode cX7_mayChase 5 = .ok (.iload_n 1, 1) := by decide +kernel
theorem dX7_mayChase_6 : decode cX7_mayChase 6 = .ok (.laload, 1) := by decide +kernel
theorem dX7_mayChase_7 : decode cX7_mayChase 7 = .ok (.aload_n 0, 1) := by decide +kernel
theorem dX7_mayChase_8 : decode cX7_mayChase 8 = .ok (.getfield 42, 3) := by decide +kernel
theorem dX7_mayChase_11 : decode cX7_mayChase 11 = .ok (.iload_n 1, 1) := by decide +kernel
theorem dX7_mayChase_12 : decode cX7_mayChase 12 = .ok (.laload, 1) := by decide +kernel
theorem dX7_mayChase_13 : decode cX7_mayChase 13 = .ok (.iload_n 2, 1) := by decide +kernel
theorem dX7_mayChase_14 : decode cX7_mayChase 14 = .ok (.invokestatic 132, 3) := by decide +kernel
theorem dX7_mayChase_17 : decode cX7_mayChase 17 = .ok (.iload_n 3, 1) := by decide +kernel
theorem dX7_mayChase_18 : decode cX7_mayChase 18 = .ok (.invokevirtual 136, 3) := by decide +kernel
theorem dX7_mayChase_21 : decode cX7_mayChase 21 = .ok (.ifCond .ne 35, 3) := by decide +kernel
theorem dX7_mayChase_24 : decode cX7_mayChase 24 = .ok (.aload_n 0, 1) := by decide +kernel
theorem dX7_mayChase_25 : decode cX7_mayChase 25 = .ok (.getfield 51, 3) := by decide +kernel
theorem dX7_mayChase_28 : decode cX7_mayChase 28 = .ok (.iload_n 1, 1) := by decide +kernel
theorem dX7_mayChase_29 : decode cX7_mayChase 29 = .ok (.baload, 1) := by decide +kernel
theorem dX7_mayChase_30 : decode cX7_mayChase 30 = .ok (.ifCond .eq 22, 3) := by decide +kernel
theorem dX7_mayChase_33 : decode cX7_mayChase 33 = .ok (.aload_n 0, 1) := by decide +kernel
theorem dX7_mayChase_34 : decode cX7_mayChase 34 = .ok (.aload_n 0, 1) := by decide +kernel
theorem dX7_mayChase_35 : decode cX7_mayChase 35 = .ok (.getfield 45, 3) := by decide +kernel
theorem dX7_mayChase_38 : decode cX7_mayChase 38 = .ok (.iload_n 1, 1) := by decide +kernel
theorem dX7_mayChase_39 : decode cX7_mayChase 39 = .ok (.laload, 1) := by decide +kernel
theorem dX7_mayChase_40 : decode cX7_mayChase 40 = .ok (.aload_n 0, 1) := by decide +kernel
theorem dX7_mayChase_41 : decode cX7_mayChase 41 = .ok (.getfield 48, 3) := by decide +kernel
theorem dX7_mayChase_44 : decode cX7_mayChase 44 = .ok (.iload_n 1, 1) := by decide +kernel
theorem dX7_mayChase_45 : decode cX7_mayChase 45 = .ok (.laload, 1) := by decide +kernel
theorem dX7_mayChase_46 : decode cX7_mayChase 46 = .ok (.invokevirtual 194, 3) := by decide +kernel
theorem dX7_mayChase_49 : decode cX7_mayChase 49 = .ok (.ifCond .ne 7, 3) := by decide +kernel
theorem dX7_mayChase_52 : decode cX7_mayChase 52 = .ok (.iconst 1, 1) := by decide +kernel
theorem dX7_mayChase_53 : decode cX7_mayChase 53 = .ok (.goto 4, 3) := by decide +kernel
theorem dX7_mayChase_56 : decode cX7_mayChase 56 = .ok (.iconst 0, 1) := by decide +kernel
theorem dX7_mayChase_57 : decode cX7_mayChase 57 = .ok (.ireturn, 1) := by decide +kernel
set_option maxRecDepth 20000 in
theorem ggX7_findAnswers_X7_spread : GoodIn wsX7_findAnswers wsX7_spread := goodIn_r _ [11, 12, 13, 14, 10, 15, 16, 17, 18, 19, 20, 21, 22, 37, 38, 39, 40, 41, 42, 43, 44, 45, 46, 47, 48, 49, 50, 51, 52, 53, 54, 55, 56, 57, 58, 59, 60, 61, 62, 63, 64, 65] (by decide +kernel) (by decide +kernel)
set_option maxRecDepth 20000 in
theorem gX7_findAnswers_X7_spread : GoodIn wsX7_findAnswers (wsV RX7 111 RX7 yX7_spread wsX7_spread) := goodIn_app (goodIn_of _ (by decide +kernel)) ggX7_findAnswers_X7_spread
set_option maxRecDepth 20000 in
theorem ggX7_findAnswers_X7_around : GoodIn wsX7_findAnswers wsX7_around := goodIn_r _ [15, 16, 17, 18, 19, 10, 20, 21, 22, 37, 38, 39, 40, 41, 42, 43, 44, 45, 46, 47, 48, 49, 50, 51, 52, 53, 54, 55, 56, 57, 58, 59, 60, 61, 62, 63, 64, 65] (by decide +kernel) (by decide +kernel)
set_option maxRecDepth 20000 in
theorem gX7_findAnswers_X7_around : GoodIn wsX7_findAnswers (wsV RX7 97 RX7 yX7_around wsX7_around) := goodIn_app (goodIn_of _ (by decide +kernel)) ggX7_findAnswers_X7_around
set_option maxRecDepth 20000 in
theorem ggX7_findAnswers_X7_free : GoodIn wsX7_findAnswers wsX7_free := goodIn_r _ [26, 5, 27, 28, 29, 10, 30, 17, 18, 19, 20, 21, 22, 37, 38, 39, 40, 41, 42, 43, 44, 45, 46, 47, 48, 49, 50, 51, 52, 53, 54, 55, 56, 57, 58, 59, 60, 61, 62, 63, 64, 65] (by decide +kernel) (by decide +kernel)
set_option maxRecDepth 20000 in
theorem gX7_findAnswers_X7_free : GoodIn wsX7_findAnswers (wsV RX7 129 RX7 yX7_free wsX7_free) := goodIn_app (goodIn_of _ (by decide +kernel)) ggX7_findAnswers_X7_free
set_option maxRecDepth 20000 in
theorem ggX7_findAnswers_X7_least : GoodIn wsX7_findAnswers wsX7_least := goodIn_r _ [33] (by decide +kernel) (by decide +kernel)
set_option maxRecDepth 20000 in
theorem gX7_findAnswers_X7_least : GoodIn wsX7_findAnswers (va_wsS RX7 107 yX7_least wsX7_least) := goodIn_app (goodIn_of _ (by decide +kernel)) ggX7_findAnswers_X7_least
set_option maxRecDepth 20000 in
theorem ggX7_findAnswers_X7_many : GoodIn wsX7_findAnswers wsX7_many := goodIn_r _ [36] (by decide +kernel) (by decide +kernel)
set_option maxRecDepth 20000 in
theorem gX7_findAnswers_X7_many : GoodIn wsX7_findAnswers (va_wsS RX7 115 yX7_many wsX7_many) := goodIn_app (goodIn_of _ (by decide +kernel)) ggX7_findAnswers_X7_many
theorem dX7_findAnswers_0 : decode cX7_findAnswers 0 = .ok (.aload_n 0, 1) := by decide +kernel
theorem dX7_findAnswers_1 : decode cX7_findAnswers 1 = .ok (.getfield 58, 3) := by decide +kernel
theorem dX7_findAnswers_4 : decode cX7_findAnswers 4 = .ok (.iload_n 1, 1) := by decide +kernel
theorem dX7_findAnswers_5 : decode cX7_findAnswers 5 = .ok (.laload, 1) := by decide +kernel
theorem dX7_findAnswers_6 : decode cX7_findAnswers 6 = .ok (.lstore 4, 2) := by decide +kernel
theorem dX7_findAnswers_8 : decode cX7_findAnswers 8 = .ok (.aload_n 0, 1) := by decide +kernel
theorem dX7_findAnswers_9 : decode cX7_findAnswers 9 = .ok (.getfield 61, 3) := by decide +kernel
theorem dX7_findAnswers_12 : decode cX7_findAnswers 12 = .ok (.iload_n 1, 1) := by decide +kernel
theorem dX7_findAnswers_13 : decode cX7_findAnswers 13 = .ok (.laload, 1) := by decide +kernel
theorem dX7_findAnswers_14 : decode cX7_findAnswers 14 = .ok (.lstore 6, 2) := by decide +kernel
theorem dX7_findAnswers_16 : decode cX7_findAnswers 16 = .ok (.iload_n 2, 1) := by decide +kernel
theorem dX7_findAnswers_17 : decode cX7_findAnswers 17 = .ok (.iconst 1, 1) := by decide +kernel
theorem dX7_findAnswers_18 : decode cX7_findAnswers 18 = .ok (.if_icmp .ne 8, 3) := by decide +kernel
theorem dX7_findAnswers_21 : decode cX7_findAnswers 21 = .ok (.lload 4, 2) := by decide +kernel
theorem dX7_findAnswers_23 : decode cX7_findAnswers 23 = .ok (.goto 5, 3) := by decide +kernel
theorem dX7_findAnswers_26 : decode cX7_findAnswers 26 = .ok (.lload 6, 2) := by decide +kernel
theorem dX7_findAnswers_28 : decode cX7_findAnswers 28 = .ok (.lstore 8, 2) := by decide +kernel
theorem dX7_findAnswers_30 : decode cX7_findAnswers 30 = .ok (.iload_n 2, 1) := by decide +kernel
theorem dX7_findAnswers_31 : decode cX7_findAnswers 31 = .ok (.iconst 1, 1) := by decide +kernel
theorem dX7_findAnswers_32 : decode cX7_findAnswers 32 = .ok (.if_icmp .ne 8, 3) := by decide +kernel
theorem dX7_findAnswers_35 : decode cX7_findAnswers 35 = .ok (.lload 6, 2) := by decide +kernel
theorem dX7_findAnswers_37 : decode cX7_findAnswers 37 = .ok (.goto 5, 3) := by decide +kernel
theorem dX7_findAnswers_40 : decode cX7_findAnswers 40 = .ok (.lload 4, 2) := by decide +kernel
theorem dX7_findAnswers_42 : decode cX7_findAnswers 42 = .ok (.lstore 10, 2) := by decide +kernel
theorem dX7_findAnswers_44 : decode cX7_findAnswers 44 = .ok (.aload_n 0, 1) := by decide +kernel
theorem dX7_findAnswers_45 : decode cX7_findAnswers 45 = .ok (.lconst 1, 1) := by decide +kernel
theorem dX7_findAnswers_46 : decode cX7_findAnswers 46 = .ok (.iload_n 3, 1) := by decide +kernel
theorem dX7_findAnswers_47 : decode cX7_findAnswers 47 = .ok (.lshl, 1) := by decide +kernel
theorem dX7_findAnswers_48 : decode cX7_findAnswers 48 = .ok (.lload 8, 2) := by decide +kernel
theorem dX7_findAnswers_50 : decode cX7_findAnswers 50 = .ok (.invokevirtual 111, 3) := by decide +kernel
theorem dX7_findAnswers_53 : decode cX7_findAnswers 53 = .ok (.lstore 12, 2) := by decide +kernel
theorem dX7_findAnswers_55 : decode cX7_findAnswers 55 = .ok (.aload_n 0, 1) := by decide +kernel
theorem dX7_findAnswers_56 : decode cX7_findAnswers 56 = .ok (.lload 12, 2) := by decide +kernel
theorem dX7_findAnswers_58 : decode cX7_findAnswers 58 = .ok (.invokevirtual 97, 3) := by decide +kernel
theorem dX7_findAnswers_61 : decode cX7_findAnswers 61 = .ok (.aload_n 0, 1) := by decide +kernel
theorem dX7_findAnswers_62 : decode cX7_findAnswers 62 = .ok (.lload 4, 2) := by decide +kernel
theorem dX7_findAnswers_64 : decode cX7_findAnswers 64 = .ok (.lload 6, 2) := by decide +kernel
theorem dX7_findAnswers_66 : decode cX7_findAnswers 66 = .ok (.invokevirtual 129, 3) := by decide +kernel
theorem dX7_findAnswers_69 : decode cX7_findAnswers 69 = .ok (.land, 1) := by decide +kernel
theorem dX7_findAnswers_70 : decode cX7_findAnswers 70 = .ok (.lstore 14, 2) := by decide +kernel
theorem dX7_findAnswers_72 : decode cX7_findAnswers 72 = .ok (.aload_n 0, 1) := by decide +kernel
theorem dX7_findAnswers_73 : decode cX7_findAnswers 73 = .ok (.getfield 67, 3) := by decide +kernel
theorem dX7_findAnswers_76 : decode cX7_findAnswers 76 = .ok (.iload_n 1, 1) := by decide +kernel
theorem dX7_findAnswers_77 : decode cX7_findAnswers 77 = .ok (.lload 14, 2) := by decide +kernel
theorem dX7_findAnswers_79 : decode cX7_findAnswers 79 = .ok (.iconst 0, 1) := by decide +kernel
theorem dX7_findAnswers_80 : decode cX7_findAnswers 80 = .ok (.invokestatic 107, 3) := by decide +kernel
theorem dX7_findAnswers_83 : decode cX7_findAnswers 83 = .ok (.iastore, 1) := by decide +kernel
theorem dX7_findAnswers_84 : decode cX7_findAnswers 84 = .ok (.aload_n 0, 1) := by decide +kernel
theorem dX7_findAnswers_85 : decode cX7_findAnswers 85 = .ok (.getfield 64, 3) := by decide +kernel
theorem dX7_findAnswers_88 : decode cX7_findAnswers 88 = .ok (.iload_n 1, 1) := by decide +kernel
theorem dX7_findAnswers_89 : decode cX7_findAnswers 89 = .ok (.lload 14, 2) := by decide +kernel
theorem dX7_findAnswers_91 : decode cX7_findAnswers 91 = .ok (.lastore, 1) := by decide +kernel
theorem dX7_findAnswers_92 : decode cX7_findAnswers 92 = .ok (.aload_n 0, 1) := by decide +kernel
theorem dX7_findAnswers_93 : decode cX7_findAnswers 93 = .ok (.lload 12, 2) := by decide +kernel
theorem dX7_findAnswers_95 : decode cX7_findAnswers 95 = .ok (.invokevirtual 97, 3) := by decide +kernel
theorem dX7_findAnswers_98 : decode cX7_findAnswers 98 = .ok (.lload 10, 2) := by decide +kernel
theorem dX7_findAnswers_100 : decode cX7_findAnswers 100 = .ok (.land, 1) := by decide +kernel
theorem dX7_findAnswers_101 : decode cX7_findAnswers 101 = .ok (.lstore 16, 2) := by decide +kernel
theorem dX7_findAnswers_103 : decode cX7_findAnswers 103 = .ok (.lload 16, 2) := by decide +kernel
theorem dX7_findAnswers_105 : decode cX7_findAnswers 105 = .ok (.lconst 0, 1) := by decide +kernel
theorem dX7_findAnswers_106 : decode cX7_findAnswers 106 = .ok (.lcmp, 1) := by decide +kernel
theorem dX7_findAnswers_107 : decode cX7_findAnswers 107 = .ok (.ifCond .eq 72, 3) := by decide +kernel
theorem dX7_findAnswers_110 : decode cX7_findAnswers 110 = .ok (.aload_n 0, 1) := by decide +kernel
theorem dX7_findAnswers_111 : decode cX7_findAnswers 111 = .ok (.lload 16, 2) := by decide +kernel
theorem dX7_findAnswers_113 : decode cX7_findAnswers 113 = .ok (.lload 16, 2) := by decide +kernel
theorem dX7_findAnswers_115 : decode cX7_findAnswers 115 = .ok (.lneg, 1) := by decide +kernel
theorem dX7_findAnswers_116 : decode cX7_findAnswers 116 = .ok (.land, 1) := by decide +kernel
theorem dX7_findAnswers_117 : decode cX7_findAnswers 117 = .ok (.lload 10, 2) := by decide +kernel
theorem dX7_findAnswers_119 : decode cX7_findAnswers 119 = .ok (.invokevirtual 111, 3) := by decide +kernel
theorem dX7_findAnswers_122 : decode cX7_findAnswers 122 = .ok (.lstore 18, 2) := by decide +kernel
theorem dX7_findAnswers_124 : decode cX7_findAnswers 124 = .ok (.lload 16, 2) := by decide +kernel
theorem dX7_findAnswers_126 : decode cX7_findAnswers 126 = .ok (.lload 18, 2) := by decide +kernel
theorem dX7_findAnswers_128 : decode cX7_findAnswers 128 = .ok (.ldc2_w 105, 3) := by decide +kernel
theorem dX7_findAnswers_131 : decode cX7_findAnswers 131 = .ok (.lxor, 1) := by decide +kernel
theorem dX7_findAnswers_132 : decode cX7_findAnswers 132 = .ok (.land, 1) := by decide +kernel
theorem dX7_findAnswers_133 : decode cX7_findAnswers 133 = .ok (.lstore 16, 2) := by decide +kernel
theorem dX7_findAnswers_135 : decode cX7_findAnswers 135 = .ok (.aload_n 0, 1) := by decide +kernel
theorem dX7_findAnswers_136 : decode cX7_findAnswers 136 = .ok (.lload 18, 2) := by decide +kernel
theorem dX7_findAnswers_138 : decode cX7_findAnswers 138 = .ok (.invokevirtual 97, 3) := by decide +kernel
theorem dX7_findAnswers_141 : decode cX7_findAnswers 141 = .ok (.aload_n 0, 1) := by decide +kernel
theorem dX7_findAnswers_142 : decode cX7_findAnswers 142 = .ok (.lload 4, 2) := by decide +kernel
theorem dX7_findAnswers_144 : decode cX7_findAnswers 144 = .ok (.lload 6, 2) := by decide +kernel
theorem dX7_findAnswers_146 : decode cX7_findAnswers 146 = .ok (.invokevirtual 129, 3) := by decide +kernel
theorem dX7_findAnswers_149 : decode cX7_findAnswers 149 = .ok (.land, 1) := by decide +kernel
theorem dX7_findAnswers_150 : decode cX7_findAnswers 150 = .ok (.lstore 20, 2) := by decide +kernel
theorem dX7_findAnswers_152 : decode cX7_findAnswers 152 = .ok (.aload_n 0, 1) := by decide +kernel
theorem dX7_findAnswers_153 : decode cX7_findAnswers 153 = .ok (.getfield 64, 3) := by decide +kernel
theorem dX7_findAnswers_156 : decode cX7_findAnswers 156 = .ok (.iload_n 1, 1) := by decide +kernel
theorem dX7_findAnswers_157 : decode cX7_findAnswers 157 = .ok (.dup2, 1) := by decide +kernel
theorem dX7_findAnswers_158 : decode cX7_findAnswers 158 = .ok (.laload, 1) := by decide +kernel
theorem dX7_findAnswers_159 : decode cX7_findAnswers 159 = .ok (.lload 20, 2) := by decide +kernel
theorem dX7_findAnswers_161 : decode cX7_findAnswers 161 = .ok (.invokestatic 115, 3) := by decide +kernel
theorem dX7_findAnswers_164 : decode cX7_findAnswers 164 = .ok (.iconst 1, 1) := by decide +kernel
theorem dX7_findAnswers_165 : decode cX7_findAnswers 165 = .ok (.if_icmp .ne 8, 3) := by decide +kernel
theorem dX7_findAnswers_168 : decode cX7_findAnswers 168 = .ok (.lload 20, 2) := by decide +kernel
theorem dX7_findAnswers_170 : decode cX7_findAnswers 170 = .ok (.goto 4, 3) := by decide +kernel
theorem dX7_findAnswers_173 : decode cX7_findAnswers 173 = .ok (.lconst 0, 1) := by decide +kernel
theorem dX7_findAnswers_174 : decode cX7_findAnswers 174 = .ok (.lor, 1) := by decide +kernel
theorem dX7_findAnswers_175 : decode cX7_findAnswers 175 = .ok (.lastore, 1) := by decide +kernel
theorem dX7_findAnswers_176 : decode cX7_findAnswers 176 = .ok (.goto (-73), 3) := by decide +kernel
theorem dX7_findAnswers_179 : decode cX7_findAnswers 179 = .ok (.aload_n 0, 1) := by decide +kernel
theorem dX7_findAnswers_180 : decode cX7_findAnswers 180 = .ok (.getfield 70, 3) := by decide +kernel
theorem dX7_findAnswers_183 : decode cX7_findAnswers 183 = .ok (.iload_n 1, 1) := by decide +kernel
theorem dX7_findAnswers_184 : decode cX7_findAnswers 184 = .ok (.iconst 1, 1) := by decide +kernel
theorem dX7_findAnswers_185 : decode cX7_findAnswers 185 = .ok (.bastore, 1) := by decide +kernel
theorem dX7_findAnswers_186 : decode cX7_findAnswers 186 = .ok (.return_, 1) := by decide +kernel
set_option maxRecDepth 20000 in
theorem ggX7_isCaught_X7_comes : GoodIn wsX7_isCaught wsX7_comes := goodIn_r _ [19, 20, 21, 6, 7, 22, 23, 24, 18, 25, 26, 27, 28, 29, 30, 31, 32, 33, 34, 35, 36, 37, 38, 39, 40, 41, 42, 43, 44, 14, 45, 46, 47, 48, 90, 91, 92, 93, 94, 95, 96, 97, 98, 99, 100, 101, 102, 103, 104, 105, 106, 107, 108, 109, 110, 111, 112, 113, 114, 115, 116, 117, 118] (by decide +kernel) (by decide +kernel)
set_option maxRecDepth 20000 in
theorem gX7_isCaught_X7_comes : GoodIn wsX7_isCaught (wsV RX7 197 RX7 yX7_comes wsX7_comes) := goodIn_app (goodIn_of _ (by decide +kernel)) ggX7_isCaught_X7_comes
set_option maxRecDepth 20000 in
theorem ggX7_isCaught_X7_many : GoodIn wsX7_isCaught wsX7_many := goodIn_r _ [51] (by decide +kernel) (by decide +kernel)
set_option maxRecDepth 20000 in
theorem gX7_isCaught_X7_many : GoodIn wsX7_isCaught (va_wsS RX7 115 yX7_many wsX7_many) := goodIn_app (goodIn_of _ (by decide +kernel)) ggX7_isCaught_X7_many
set_option maxRecDepth 20000 in
theorem ggX7_isCaught_X7_least : GoodIn wsX7_isCaught wsX7_least := goodIn_r _ [54] (by decide +kernel) (by decide +kernel)
set_option maxRecDepth 20000 in
theorem gX7_isCaught_X7_least : GoodIn wsX7_isCaught (va_wsS RX7 107 yX7_least wsX7_least) := goodIn_app (goodIn_of _ (by decide +kernel)) ggX7_isCaught_X7_least
set_option maxRecDepth 20000 in
theorem ggX7_isCaught_X7_mayChase : GoodIn wsX7_isCaught wsX7_mayChase := goodIn_r _ [58, 20, 21, 1, 8, 10, 59, 60, 18, 61, 62, 63, 64, 65, 34, 14, 66, 12, 13, 52, 53, 54, 26, 27, 28, 29, 30, 31, 32, 33, 35, 36, 37, 38, 39, 40, 45, 46, 47, 48, 49, 50, 51, 41, 42, 43, 44, 67, 68, 69, 70, 90, 91, 92, 93, 94, 95, 96, 97, 98, 99, 100, 101, 102, 103, 104, 105, 106, 107, 108, 109, 110, 111, 112, 113, 114, 115, 116, 117, 118] (by decide +kernel) (by decide +kernel)
set_option maxRecDepth 20000 in
theorem gX7_isCaught_X7_mayChase : GoodIn wsX7_isCaught (wsV RX7 201 RX7 yX7_mayChase wsX7_mayChase) := goodIn_app (goodIn_of _ (by decide +kernel)) ggX7_isCaught_X7_mayChase
set_option maxRecDepth 20000 in
theorem ggX7_isCaught_X7_counts : GoodIn wsX7_isCaught wsX7_counts := goodIn_r _ [74, 75, 5, 90, 91, 92, 93, 94, 95, 96, 97, 98, 99, 100, 101, 102, 103, 104, 105, 106, 107, 108, 109, 110, 111, 112, 113, 114, 115, 116, 117, 118] (by decide +kernel) (by decide +kernel)
set_option maxRecDepth 20000 in
theorem gX7_isCaught_X7_counts : GoodIn wsX7_isCaught (wsV RX7 204 RX7 yX7_counts wsX7_counts) := goodIn_app (goodIn_of _ (by decide +kernel)) ggX7_isCaught_X7_counts
set_option maxRecDepth 20000 in
theorem ggX7_isCaught_X7_nextAnswer : GoodIn wsX7_isCaught wsX7_nextAnswer := goodIn_r _ [79, 80, 81, 14, 52, 53, 18, 54, 90, 91, 92, 93, 94, 95, 96, 97, 98, 99, 100, 101, 102, 103, 104, 105, 106, 107, 108, 109, 110, 111, 112, 113, 114, 115, 116, 117, 118] (by decide +kernel) (by decide +kernel)
set_option maxRecDepth 20000 in
theorem gX7_isCaught_X7_nextAnswer : GoodIn wsX7_isCaught (wsV RX7 207 RX7 yX7_nextAnswer wsX7_nextAnswer) := goodIn_app (goodIn_of _ (by decide +kernel)) ggX7_isCaught_X7_nextAnswer
set_option maxRecDepth 20000 in
theorem ggX7_isCaught_X7_mayAnswer : GoodIn wsX7_isCaught wsX7_mayAnswer := goodIn_r _ [85, 9, 11, 20, 21, 62, 63, 64, 18, 65, 34, 14, 66, 12, 13, 52, 53, 54, 26, 27, 28, 29, 30, 31, 32, 33, 35, 36, 37, 38, 39, 40, 45, 46, 47, 48, 49, 50, 51, 41, 42, 43, 44, 67, 68, 69, 70, 90, 91, 92, 93, 94, 95, 96, 97, 98, 99, 100, 101, 102, 103, 104, 105, 106, 107, 108, 109, 110, 111, 112, 113, 114, 115, 116, 117, 118] (by decide +kernel) (by decide +kernel)
set_option maxRecDepth 20000 in
theorem gX7_isCaught_X7_mayAnswer : GoodIn wsX7_isCaught (wsV RX7 210 RX7 yX7_mayAnswer wsX7_mayAnswer) := goodIn_app (goodIn_of _ (by decide +kernel)) ggX7_isCaught_X7_mayAnswer
set_option maxRecDepth 20000 in
theorem ggX7_isCaught_X7_chaseBreaths : GoodIn wsX7_isCaught wsX7_chaseBreaths := goodIn_r _ [25, 26, 27, 28, 18, 29, 30, 31, 32, 33, 34, 35, 36, 37, 38, 39, 40, 41, 42, 43, 44, 14, 45, 46, 47, 48, 90, 91, 92, 93, 94, 95, 96, 97, 98, 99, 100, 101, 102, 103, 104, 105, 106, 107, 108, 109, 110, 111, 112, 113, 114, 115, 116, 117, 118] (by decide +kernel) (by decide +kernel)
set_option maxRecDepth 20000 in
theorem gX7_isCaught_X7_chaseBreaths : GoodIn wsX7_isCaught (wsV RX7 190 RX7 yX7_chaseBreaths wsX7_chaseBreaths) := goodIn_app (goodIn_of _ (by decide +kernel)) ggX7_isCaught_X7_chaseBreaths
set_option maxRecDepth 20000 in
theorem ggX7_isCaught_X7_findAnswers : GoodIn wsX7_isCaught wsX7_findAnswers := goodIn_r _ [89, 9, 11, 80, 81, 14, 7, 26, 27, 28, 18, 29, 30, 31, 32, 33, 34, 35, 36, 37, 38, 39, 40, 41, 42, 43, 44, 45, 46, 47, 48, 52, 53, 54, 49, 50, 51, 90, 91, 92, 93, 94, 95, 96, 97, 98, 99, 100, 101, 102, 103, 104, 105, 106, 107, 108, 109, 110, 111, 112, 113, 114, 115, 116, 117, 118] (by decide +kernel) (by decide +kernel)
set_option maxRecDepth 20000 in
theorem gX7_isCaught_X7_findAnswers : GoodIn wsX7_isCaught (wsV RX7 213 RX7 yX7_findAnswers wsX7_findAnswers) := goodIn_app (goodIn_of _ (by decide +kernel)) ggX7_isCaught_X7_findAnswers
theorem dX7_isCaught_0 : decode cX7_isCaught 0 = .ok (.iconst 0, 1) := by decide +kernel
theorem dX7_isCaught_1 : decode cX7_isCaught 1 = .ok (.istore 4, 2) := by decide +kernel
theorem dX7_isCaught_3 : decode cX7_isCaught 3 = .ok (.aload_n 0, 1) := by decide +kernel
theorem dX7_isCaught_4 : decode cX7_isCaught 4 = .ok (.getfield 51, 3) := by decide +kernel
theorem dX7_isCaught_7 : decode cX7_isCaught 7 = .ok (.iconst 0, 1) := by decide +kernel
theorem dX7_isCaught_8 : decode cX7_isCaught 8 = .ok (.iconst 0, 1) := by decide +kernel
theorem dX7_isCaught_9 : decode cX7_isCaught 9 = .ok (.bastore, 1) := by decide +kernel
theorem dX7_isCaught_10 : decode cX7_isCaught 10 = .ok (.aload_n 0, 1) := by decide +kernel
theorem dX7_isCaught_11 : decode cX7_isCaught 11 = .ok (.iconst 0, 1) := by decide +kernel
theorem dX7_isCaught_12 : decode cX7_isCaught 12 = .ok (.aload_n 0, 1) := by decide +kernel
theorem dX7_isCaught_13 : decode cX7_isCaught 13 = .ok (.getfield 24, 3) := by decide +kernel
theorem dX7_isCaught_16 : decode cX7_isCaught 16 = .ok (.aload_n 0, 1) := by decide +kernel
theorem dX7_isCaught_17 : decode cX7_isCaught 17 = .ok (.getfield 86, 3) := by decide +kernel
theorem dX7_isCaught_20 : decode cX7_isCaught 20 = .ok (.laload, 1) := by decide +kernel
theorem dX7_isCaught_21 : decode cX7_isCaught 21 = .ok (.aload_n 0, 1) := by decide +kernel
theorem dX7_isCaught_22 : decode cX7_isCaught 22 = .ok (.getfield 27, 3) := by decide +kernel
theorem dX7_isCaught_25 : decode cX7_isCaught 25 = .ok (.aload_n 0, 1) := by decide +kernel
theorem dX7_isCaught_26 : decode cX7_isCaught 26 = .ok (.getfield 86, 3) := by decide +kernel
theorem dX7_isCaught_29 : decode cX7_isCaught 29 = .ok (.laload, 1) := by decide +kernel
theorem dX7_isCaught_30 : decode cX7_isCaught 30 = .ok (.iload_n 1, 1) := by decide +kernel
theorem dX7_isCaught_31 : decode cX7_isCaught 31 = .ok (.iload_n 2, 1) := by decide +kernel
theorem dX7_isCaught_32 : decode cX7_isCaught 32 = .ok (.invokevirtual 197, 3) := by decide +kernel
theorem dX7_isCaught_35 : decode cX7_isCaught 35 = .ok (.iconst 1, 1) := by decide +kernel
theorem dX7_isCaught_36 : decode cX7_isCaught 36 = .ok (.istore 5, 2) := by decide +kernel
theorem dX7_isCaught_38 : decode cX7_isCaught 38 = .ok (.iconst 0, 1) := by decide +kernel
theorem dX7_isCaught_39 : decode cX7_isCaught 39 = .ok (.istore 6, 2) := by decide +kernel
theorem dX7_isCaught_41 : decode cX7_isCaught 41 = .ok (.iload 4, 2) := by decide +kernel
theorem dX7_isCaught_43 : decode cX7_isCaught 43 = .ok (.ifCond .lt 382, 3) := by decide +kernel
theorem dX7_isCaught_46 : decode cX7_isCaught 46 = .ok (.aload_n 0, 1) := by decide +kernel
theorem dX7_isCaught_47 : decode cX7_isCaught 47 = .ok (.getfield 186, 3) := by decide +kernel
theorem dX7_isCaught_50 : decode cX7_isCaught 50 = .ok (.ifCond .ne 375, 3) := by decide +kernel
theorem dX7_isCaught_53 : decode cX7_isCaught 53 = .ok (.iload 5, 2) := by decide +kernel
theorem dX7_isCaught_55 : decode cX7_isCaught 55 = .ok (.ifCond .eq 104, 3) := by decide +kernel
theorem dX7_isCaught_58 : decode cX7_isCaught 58 = .ok (.aload_n 0, 1) := by decide +kernel
theorem dX7_isCaught_59 : decode cX7_isCaught 59 = .ok (.getfield 55, 3) := by decide +kernel
theorem dX7_isCaught_62 : decode cX7_isCaught 62 = .ok (.iload 4, 2) := by decide +kernel
theorem dX7_isCaught_64 : decode cX7_isCaught 64 = .ok (.laload, 1) := by decide +kernel
theorem dX7_isCaught_65 : decode cX7_isCaught 65 = .ok (.invokestatic 115, 3) := by decide +kernel
theorem dX7_isCaught_68 : decode cX7_isCaught 68 = .ok (.istore 7, 2) := by decide +kernel
theorem dX7_isCaught_70 : decode cX7_isCaught 70 = .ok (.iconst 0, 1) := by decide +kernel
theorem dX7_isCaught_71 : decode cX7_isCaught 71 = .ok (.istore 5, 2) := by decide +kernel
theorem dX7_isCaught_73 : decode cX7_isCaught 73 = .ok (.iload 7, 2) := by decide +kernel
theorem dX7_isCaught_75 : decode cX7_isCaught 75 = .ok (.iconst 1, 1) := by decide +kernel
theorem dX7_isCaught_76 : decode cX7_isCaught 76 = .ok (.if_icmp .ne 54, 3) := by decide +kernel
theorem dX7_isCaught_79 : decode cX7_isCaught 79 = .ok (.iload_n 3, 1) := by decide +kernel
theorem dX7_isCaught_80 : decode cX7_isCaught 80 = .ok (.iload 4, 2) := by decide +kernel
theorem dX7_isCaught_82 : decode cX7_isCaught 82 = .ok (.isub, 1) := by decide +kernel
theorem dX7_isCaught_83 : decode cX7_isCaught 83 = .ok (.iconst 1, 1) := by decide +kernel
theorem dX7_isCaught_84 : decode cX7_isCaught 84 = .ok (.if_icmp .lt 28, 3) := by decide +kernel
theorem dX7_isCaught_87 : decode cX7_isCaught 87 = .ok (.aload_n 0, 1) := by decide +kernel
theorem dX7_isCaught_88 : decode cX7_isCaught 88 = .ok (.iload 4, 2) := by decide +kernel
theorem dX7_isCaught_90 : decode cX7_isCaught 90 = .ok (.iload_n 1, 1) := by decide +kernel
theorem dX7_isCaught_91 : decode cX7_isCaught 91 = .ok (.aload_n 0, 1) := by decide +kernel
theorem dX7_isCaught_92 : decode cX7_isCaught 92 = .ok (.getfield 55, 3) := by decide +kernel
theorem dX7_isCaught_95 : decode cX7_isCaught 95 = .ok (.iload 4, 2) := by decide +kernel
theorem dX7_isCaught_97 : decode cX7_isCaught 97 = .ok (.laload, 1) := by decide +kernel
theorem dX7_isCaught_98 : decode cX7_isCaught 98 = .ok (.iconst 0, 1) := by decide +kernel
theorem dX7_isCaught_99 : decode cX7_isCaught 99 = .ok (.invokestatic 107, 3) := by decide +kernel
theorem dX7_isCaught_102 : decode cX7_isCaught 102 = .ok (.invokevirtual 201, 3) := by decide +kernel
theorem dX7_isCaught_105 : decode cX7_isCaught 105 = .ok (.ifCond .eq 7, 3) := by decide +kernel
theorem dX7_isCaught_108 : decode cX7_isCaught 108 = .ok (.iconst 1, 1) := by decide +kernel
theorem dX7_isCaught_109 : decode cX7_isCaught 109 = .ok (.goto 4, 3) := by decide +kernel
theorem dX7_isCaught_112 : decode cX7_isCaught 112 = .ok (.iconst 0, 1) := by decide +kernel
theorem dX7_isCaught_113 : decode cX7_isCaught 113 = .ok (.istore 6, 2) := by decide +kernel
theorem dX7_isCaught_115 : decode cX7_isCaught 115 = .ok (.iload 6, 2) := by decide +kernel
theorem dX7_isCaught_117 : decode cX7_isCaught 117 = .ok (.ifCond .eq 7, 3) := by decide +kernel
theorem dX7_isCaught_120 : decode cX7_isCaught 120 = .ok (.aload_n 0, 1) := by decide +kernel
theorem dX7_isCaught_121 : decode cX7_isCaught 121 = .ok (.invokevirtual 204, 3) := by decide +kernel
theorem dX7_isCaught_124 : decode cX7_isCaught 124 = .ok (.iinc 4 (-1), 3) := by decide +kernel
theorem dX7_isCaught_127 : decode cX7_isCaught 127 = .ok (.goto (-86), 3) := by decide +kernel
theorem dX7_isCaught_130 : decode cX7_isCaught 130 = .ok (.iload 7, 2) := by decide +kernel
theorem dX7_isCaught_132 : decode cX7_isCaught 132 = .ok (.iconst 2, 1) := by decide +kernel
theorem dX7_isCaught_133 : decode cX7_isCaught 133 = .ok (.if_icmp .ne 11, 3) := by decide +kernel
theorem dX7_isCaught_136 : decode cX7_isCaught 136 = .ok (.iload_n 3, 1) := by decide +kernel
theorem dX7_isCaught_137 : decode cX7_isCaught 137 = .ok (.iload 4, 2) := by decide +kernel
theorem dX7_isCaught_139 : decode cX7_isCaught 139 = .ok (.isub, 1) := by decide +kernel
theorem dX7_isCaught_140 : decode cX7_isCaught 140 = .ok (.iconst 2, 1) := by decide +kernel
theorem dX7_isCaught_141 : decode cX7_isCaught 141 = .ok (.if_icmp .ge 12, 3) := by decide +kernel
theorem dX7_isCaught_144 : decode cX7_isCaught 144 = .ok (.iconst 0, 1) := by decide +kernel
theorem dX7_isCaught_145 : decode cX7_isCaught 145 = .ok (.istore 6, 2) := by decide +kernel
theorem dX7_isCaught_147 : decode cX7_isCaught 147 = .ok (.iinc 4 (-1), 3) := by decide +kernel
theorem dX7_isCaught_150 : decode cX7_isCaught 150 = .ok (.goto (-109), 3) := by decide +kernel
theorem dX7_isCaught_153 : decode cX7_isCaught 153 = .ok (.iconst 0, 1) := by decide +kernel
theorem dX7_isCaught_154 : decode cX7_isCaught 154 = .ok (.istore 6, 2) := by decide +kernel
theorem dX7_isCaught_156 : decode cX7_isCaught 156 = .ok (.goto 26, 3) := by decide +kernel
theorem dX7_isCaught_159 : decode cX7_isCaught 159 = .ok (.aload_n 0, 1) := by decide +kernel
theorem dX7_isCaught_160 : decode cX7_isCaught 160 = .ok (.getfield 70, 3) := by decide +kernel
theorem dX7_isCaught_163 : decode cX7_isCaught 163 = .ok (.iload 4, 2) := by decide +kernel
theorem dX7_isCaught_165 : decode cX7_isCaught 165 = .ok (.baload, 1) := by decide +kernel
theorem dX7_isCaught_166 : decode cX7_isCaught 166 = .ok (.ifCond .eq 16, 3) := by decide +kernel
theorem dX7_isCaught_169 : decode cX7_isCaught 169 = .ok (.iload 6, 2) := by decide +kernel
theorem dX7_isCaught_171 : decode cX7_isCaught 171 = .ok (.ifCond .ne 11, 3) := by decide +kernel
theorem dX7_isCaught_174 : decode cX7_isCaught 174 = .ok (.aload_n 0, 1) := by decide +kernel
theorem dX7_isCaught_175 : decode cX7_isCaught 175 = .ok (.getfield 70, 3) := by decide +kernel
theorem dX7_isCaught_178 : decode cX7_isCaught 178 = .ok (.iload 4, 2) := by decide +kernel
theorem dX7_isCaught_180 : decode cX7_isCaught 180 = .ok (.iconst 0, 1) := by decide +kernel
theorem dX7_isCaught_181 : decode cX7_isCaught 181 = .ok (.bastore, 1) := by decide +kernel
theorem dX7_isCaught_182 : decode cX7_isCaught 182 = .ok (.aload_n 0, 1) := by decide +kernel
theorem dX7_isCaught_183 : decode cX7_isCaught 183 = .ok (.getfield 70, 3) := by decide +kernel
theorem dX7_isCaught_186 : decode cX7_isCaught 186 = .ok (.iload 4, 2) := by decide +kernel
theorem dX7_isCaught_188 : decode cX7_isCaught 188 = .ok (.baload, 1) := by decide +kernel
theorem dX7_isCaught_189 : decode cX7_isCaught 189 = .ok (.ifCond .eq 117, 3) := by decide +kernel
theorem dX7_isCaught_192 : decode cX7_isCaught 192 = .ok (.aload_n 0, 1) := by decide +kernel
theorem dX7_isCaught_193 : decode cX7_isCaught 193 = .ok (.iload 4, 2) := by decide +kernel
theorem dX7_isCaught_195 : decode cX7_isCaught 195 = .ok (.invokevirtual 207, 3) := by decide +kernel
theorem dX7_isCaught_198 : decode cX7_isCaught 198 = .ok (.istore 7, 2) := by decide +kernel
theorem dX7_isCaught_200 : decode cX7_isCaught 200 = .ok (.iload 7, 2) := by decide +kernel
theorem dX7_isCaught_202 : decode cX7_isCaught 202 = .ok (.iconst (-1), 1) := by decide +kernel
theorem dX7_isCaught_203 : decode cX7_isCaught 203 = .ok (.if_icmp .ne 12, 3) := by decide +kernel
theorem dX7_isCaught_206 : decode cX7_isCaught 206 = .ok (.iconst 1, 1) := by decide +kernel
theorem dX7_isCaught_207 : decode cX7_isCaught 207 = .ok (.istore 6, 2) := by decide +kernel
theorem dX7_isCaught_209 : decode cX7_isCaught 209 = .ok (.iinc 4 (-1), 3) := by decide +kernel
theorem dX7_isCaught_212 : decode cX7_isCaught 212 = .ok (.goto 91, 3) := by decide +kernel
theorem dX7_isCaught_215 : decode cX7_isCaught 215 = .ok (.aload_n 0, 1) := by decide +kernel
theorem dX7_isCaught_216 : decode cX7_isCaught 216 = .ok (.iload 4, 2) := by decide +kernel
theorem dX7_isCaught_218 : decode cX7_isCaught 218 = .ok (.iload_n 1, 1) := by decide +kernel
theorem dX7_isCaught_219 : decode cX7_isCaught 219 = .ok (.iload 7, 2) := by decide +kernel
theorem dX7_isCaught_221 : decode cX7_isCaught 221 = .ok (.invokevirtual 210, 3) := by decide +kernel
theorem dX7_isCaught_224 : decode cX7_isCaught 224 = .ok (.ifCond .eq 76, 3) := by decide +kernel
theorem dX7_isCaught_227 : decode cX7_isCaught 227 = .ok (.aload_n 0, 1) := by decide +kernel
theorem dX7_isCaught_228 : decode cX7_isCaught 228 = .ok (.invokevirtual 204, 3) := by decide +kernel
theorem dX7_isCaught_231 : decode cX7_isCaught 231 = .ok (.aload_n 0, 1) := by decide +kernel
theorem dX7_isCaught_232 : decode cX7_isCaught 232 = .ok (.getfield 45, 3) := by decide +kernel
theorem dX7_isCaught_235 : decode cX7_isCaught 235 = .ok (.iload 4, 2) := by decide +kernel
theorem dX7_isCaught_237 : decode cX7_isCaught 237 = .ok (.iconst 1, 1) := by decide +kernel
theorem dX7_isCaught_238 : decode cX7_isCaught 238 = .ok (.iadd, 1) := by decide +kernel
theorem dX7_isCaught_239 : decode cX7_isCaught 239 = .ok (.aload_n 0, 1) := by decide +kernel
theorem dX7_isCaught_240 : decode cX7_isCaught 240 = .ok (.getfield 58, 3) := by decide +kernel
theorem dX7_isCaught_243 : decode cX7_isCaught 243 = .ok (.iload 4, 2) := by decide +kernel
theorem dX7_isCaught_245 : decode cX7_isCaught 245 = .ok (.laload, 1) := by decide +kernel
theorem dX7_isCaught_246 : decode cX7_isCaught 246 = .ok (.lastore, 1) := by decide +kernel
theorem dX7_isCaught_247 : decode cX7_isCaught 247 = .ok (.aload_n 0, 1) := by decide +kernel
theorem dX7_isCaught_248 : decode cX7_isCaught 248 = .ok (.getfield 48, 3) := by decide +kernel
theorem dX7_isCaught_251 : decode cX7_isCaught 251 = .ok (.iload 4, 2) := by decide +kernel
theorem dX7_isCaught_253 : decode cX7_isCaught 253 = .ok (.iconst 1, 1) := by decide +kernel
theorem dX7_isCaught_254 : decode cX7_isCaught 254 = .ok (.iadd, 1) := by decide +kernel
theorem dX7_isCaught_255 : decode cX7_isCaught 255 = .ok (.aload_n 0, 1) := by decide +kernel
theorem dX7_isCaught_256 : decode cX7_isCaught 256 = .ok (.getfield 61, 3) := by decide +kernel
theorem dX7_isCaught_259 : decode cX7_isCaught 259 = .ok (.iload 4, 2) := by decide +kernel
theorem dX7_isCaught_261 : decode cX7_isCaught 261 = .ok (.laload, 1) := by decide +kernel
theorem dX7_isCaught_262 : decode cX7_isCaught 262 = .ok (.lastore, 1) := by decide +kernel
theorem dX7_isCaught_263 : decode cX7_isCaught 263 = .ok (.aload_n 0, 1) := by decide +kernel
theorem dX7_isCaught_264 : decode cX7_isCaught 264 = .ok (.getfield 51, 3) := by decide +kernel
theorem dX7_isCaught_267 : decode cX7_isCaught 267 = .ok (.iload 4, 2) := by decide +kernel
theorem dX7_isCaught_269 : decode cX7_isCaught 269 = .ok (.iconst 1, 1) := by decide +kernel
theorem dX7_isCaught_270 : decode cX7_isCaught 270 = .ok (.iadd, 1) := by decide +kernel
theorem dX7_isCaught_271 : decode cX7_isCaught 271 = .ok (.iconst 1, 1) := by decide +kernel
theorem dX7_isCaught_272 : decode cX7_isCaught 272 = .ok (.bastore, 1) := by decide +kernel
theorem dX7_isCaught_273 : decode cX7_isCaught 273 = .ok (.aload_n 0, 1) := by decide +kernel
theorem dX7_isCaught_274 : decode cX7_isCaught 274 = .ok (.iload 4, 2) := by decide +kernel
theorem dX7_isCaught_276 : decode cX7_isCaught 276 = .ok (.iconst 1, 1) := by decide +kernel
theorem dX7_isCaught_277 : decode cX7_isCaught 277 = .ok (.iadd, 1) := by decide +kernel
theorem dX7_isCaught_278 : decode cX7_isCaught 278 = .ok (.aload_n 0, 1) := by decide +kernel
theorem dX7_isCaught_279 : decode cX7_isCaught 279 = .ok (.getfield 122, 3) := by decide +kernel
theorem dX7_isCaught_282 : decode cX7_isCaught 282 = .ok (.aload_n 0, 1) := by decide +kernel
theorem dX7_isCaught_283 : decode cX7_isCaught 283 = .ok (.getfield 126, 3) := by decide +kernel
theorem dX7_isCaught_286 : decode cX7_isCaught 286 = .ok (.iload_n 1, 1) := by decide +kernel
theorem dX7_isCaught_287 : decode cX7_isCaught 287 = .ok (.iload_n 2, 1) := by decide +kernel
theorem dX7_isCaught_288 : decode cX7_isCaught 288 = .ok (.invokevirtual 197, 3) := by decide +kernel
theorem dX7_isCaught_291 : decode cX7_isCaught 291 = .ok (.iinc 4 1, 3) := by decide +kernel
theorem dX7_isCaught_294 : decode cX7_isCaught 294 = .ok (.iconst 1, 1) := by decide +kernel
theorem dX7_isCaught_295 : decode cX7_isCaught 295 = .ok (.istore 5, 2) := by decide +kernel
theorem dX7_isCaught_297 : decode cX7_isCaught 297 = .ok (.goto 6, 3) := by decide +kernel
theorem dX7_isCaught_300 : decode cX7_isCaught 300 = .ok (.iconst 1, 1) := by decide +kernel
theorem dX7_isCaught_301 : decode cX7_isCaught 301 = .ok (.istore 6, 2) := by decide +kernel
theorem dX7_isCaught_303 : decode cX7_isCaught 303 = .ok (.goto (-262), 3) := by decide +kernel
theorem dX7_isCaught_306 : decode cX7_isCaught 306 = .ok (.aload_n 0, 1) := by decide +kernel
theorem dX7_isCaught_307 : decode cX7_isCaught 307 = .ok (.getfield 55, 3) := by decide +kernel
theorem dX7_isCaught_310 : decode cX7_isCaught 310 = .ok (.iload 4, 2) := by decide +kernel
theorem dX7_isCaught_312 : decode cX7_isCaught 312 = .ok (.laload, 1) := by decide +kernel
theorem dX7_isCaught_313 : decode cX7_isCaught 313 = .ok (.iconst 0, 1) := by decide +kernel
theorem dX7_isCaught_314 : decode cX7_isCaught 314 = .ok (.invokestatic 107, 3) := by decide +kernel
theorem dX7_isCaught_317 : decode cX7_isCaught 317 = .ok (.istore 7, 2) := by decide +kernel
theorem dX7_isCaught_319 : decode cX7_isCaught 319 = .ok (.iload 7, 2) := by decide +kernel
theorem dX7_isCaught_321 : decode cX7_isCaught 321 = .ok (.iconst (-1), 1) := by decide +kernel
theorem dX7_isCaught_322 : decode cX7_isCaught 322 = .ok (.if_icmp .ne 12, 3) := by decide +kernel
theorem dX7_isCaught_325 : decode cX7_isCaught 325 = .ok (.iconst 0, 1) := by decide +kernel
theorem dX7_isCaught_326 : decode cX7_isCaught 326 = .ok (.istore 6, 2) := by decide +kernel
theorem dX7_isCaught_328 : decode cX7_isCaught 328 = .ok (.iinc 4 (-1), 3) := by decide +kernel
theorem dX7_isCaught_331 : decode cX7_isCaught 331 = .ok (.goto 91, 3) := by decide +kernel
theorem dX7_isCaught_334 : decode cX7_isCaught 334 = .ok (.aload_n 0, 1) := by decide +kernel
theorem dX7_isCaught_335 : decode cX7_isCaught 335 = .ok (.getfield 55, 3) := by decide +kernel
theorem dX7_isCaught_338 : decode cX7_isCaught 338 = .ok (.iload 4, 2) := by decide +kernel
theorem dX7_isCaught_340 : decode cX7_isCaught 340 = .ok (.dup2, 1) := by decide +kernel
theorem dX7_isCaught_341 : decode cX7_isCaught 341 = .ok (.laload, 1) := by decide +kernel
theorem dX7_isCaught_342 : decode cX7_isCaught 342 = .ok (.lconst 1, 1) := by decide +kernel
theorem dX7_isCaught_343 : decode cX7_isCaught 343 = .ok (.iload 7, 2) := by decide +kernel
theorem dX7_isCaught_345 : decode cX7_isCaught 345 = .ok (.lshl, 1) := by decide +kernel
theorem dX7_isCaught_346 : decode cX7_isCaught 346 = .ok (.ldc2_w 105, 3) := by decide +kernel
theorem dX7_isCaught_349 : decode cX7_isCaught 349 = .ok (.lxor, 1) := by decide +kernel
theorem dX7_isCaught_350 : decode cX7_isCaught 350 = .ok (.land, 1) := by decide +kernel
theorem dX7_isCaught_351 : decode cX7_isCaught 351 = .ok (.lastore, 1) := by decide +kernel
theorem dX7_isCaught_352 : decode cX7_isCaught 352 = .ok (.aload_n 0, 1) := by decide +kernel
theorem dX7_isCaught_353 : decode cX7_isCaught 353 = .ok (.iload 4, 2) := by decide +kernel
theorem dX7_isCaught_355 : decode cX7_isCaught 355 = .ok (.iload_n 1, 1) := by decide +kernel
theorem dX7_isCaught_356 : decode cX7_isCaught 356 = .ok (.iload 7, 2) := by decide +kernel
theorem dX7_isCaught_358 : decode cX7_isCaught 358 = .ok (.invokevirtual 201, 3) := by decide +kernel
theorem dX7_isCaught_361 : decode cX7_isCaught 361 = .ok (.ifCond .eq 61, 3) := by decide +kernel
theorem dX7_isCaught_364 : decode cX7_isCaught 364 = .ok (.aload_n 0, 1) := by decide +kernel
theorem dX7_isCaught_365 : decode cX7_isCaught 365 = .ok (.invokevirtual 204, 3) := by decide +kernel
theorem dX7_isCaught_368 : decode cX7_isCaught 368 = .ok (.aload_n 0, 1) := by decide +kernel
theorem dX7_isCaught_369 : decode cX7_isCaught 369 = .ok (.getfield 58, 3) := by decide +kernel
theorem dX7_isCaught_372 : decode cX7_isCaught 372 = .ok (.iload 4, 2) := by decide +kernel
theorem dX7_isCaught_374 : decode cX7_isCaught 374 = .ok (.aload_n 0, 1) := by decide +kernel
theorem dX7_isCaught_375 : decode cX7_isCaught 375 = .ok (.getfield 122, 3) := by decide +kernel
theorem dX7_isCaught_378 : decode cX7_isCaught 378 = .ok (.lastore, 1) := by decide +kernel
theorem dX7_isCaught_379 : decode cX7_isCaught 379 = .ok (.aload_n 0, 1) := by decide +kernel
theorem dX7_isCaught_380 : decode cX7_isCaught 380 = .ok (.getfield 61, 3) := by decide +kernel
theorem dX7_isCaught_383 : decode cX7_isCaught 383 = .ok (.iload 4, 2) := by decide +kernel
theorem dX7_isCaught_385 : decode cX7_isCaught 385 = .ok (.aload_n 0, 1) := by decide +kernel
theorem dX7_isCaught_386 : decode cX7_isCaught 386 = .ok (.getfield 126, 3) := by decide +kernel
theorem dX7_isCaught_389 : decode cX7_isCaught 389 = .ok (.lastore, 1) := by decide +kernel
theorem dX7_isCaught_390 : decode cX7_isCaught 390 = .ok (.aload_n 0, 1) := by decide +kernel
theorem dX7_isCaught_391 : decode cX7_isCaught 391 = .ok (.aload_n 0, 1) := by decide +kernel
theorem dX7_isCaught_392 : decode cX7_isCaught 392 = .ok (.getfield 122, 3) := by decide +kernel
theorem dX7_isCaught_395 : decode cX7_isCaught 395 = .ok (.aload_n 0, 1) := by decide +kernel
theorem dX7_isCaught_396 : decode cX7_isCaught 396 = .ok (.getfield 126, 3) := by decide +kernel
theorem dX7_isCaught_399 : decode cX7_isCaught 399 = .ok (.iload_n 1, 1) := by decide +kernel
theorem dX7_isCaught_400 : decode cX7_isCaught 400 = .ok (.iload_n 2, 1) := by decide +kernel
theorem dX7_isCaught_401 : decode cX7_isCaught 401 = .ok (.invokevirtual 190, 3) := by decide +kernel
theorem dX7_isCaught_404 : decode cX7_isCaught 404 = .ok (.invokestatic 115, 3) := by decide +kernel
theorem dX7_isCaught_407 : decode cX7_isCaught 407 = .ok (.iconst 1, 1) := by decide +kernel
theorem dX7_isCaught_408 : decode cX7_isCaught 408 = .ok (.if_icmp .ne 14, 3) := by decide +kernel
theorem dX7_isCaught_411 : decode cX7_isCaught 411 = .ok (.aload_n 0, 1) := by decide +kernel
theorem dX7_isCaught_412 : decode cX7_isCaught 412 = .ok (.iload 4, 2) := by decide +kernel
theorem dX7_isCaught_414 : decode cX7_isCaught 414 = .ok (.iload_n 1, 1) := by decide +kernel
theorem dX7_isCaught_415 : decode cX7_isCaught 415 = .ok (.iload_n 2, 1) := by decide +kernel
theorem dX7_isCaught_416 : decode cX7_isCaught 416 = .ok (.invokevirtual 213, 3) := by decide +kernel
theorem dX7_isCaught_419 : decode cX7_isCaught 419 = .ok (.iconst 1, 1) := by decide +kernel
theorem dX7_isCaught_420 : decode cX7_isCaught 420 = .ok (.istore 6, 2) := by decide +kernel
theorem dX7_isCaught_422 : decode cX7_isCaught 422 = .ok (.goto (-381), 3) := by decide +kernel
theorem dX7_isCaught_425 : decode cX7_isCaught 425 = .ok (.iload 6, 2) := by decide +kernel
theorem dX7_isCaught_427 : decode cX7_isCaught 427 = .ok (.ireturn, 1) := by decide +kernel
set_option maxRecDepth 20000 in
theorem ggX7_nextAnswer_X7_least : GoodIn wsX7_nextAnswer wsX7_least := goodIn_r _ [7] (by decide +kernel) (by decide +kernel)
set_option maxRecDepth 20000 in
theorem gX7_nextAnswer_X7_least : GoodIn wsX7_nextAnswer (va_wsS RX7 107 yX7_least wsX7_least) := goodIn_app (goodIn_of _ (by decide +kernel)) ggX7_nextAnswer_X7_least
theorem dX7_nextAnswer_0 : decode cX7_nextAnswer 0 = .ok (.aload_n 0, 1) := by decide +kernel
theorem dX7_nextAnswer_1 : decode cX7_nextAnswer 1 = .ok (.getfield 67, 3) := by decide +kernel
theorem dX7_nextAnswer_4 : decode cX7_nextAnswer 4 = .ok (.iload_n 1, 1) := by decide +kernel
theorem dX7_nextAnswer_5 : decode cX7_nextAnswer 5 = .ok (.iaload, 1) := by decide +kernel
theorem dX7_nextAnswer_6 : decode cX7_nextAnswer 6 = .ok (.iconst (-1), 1) := by decide +kernel
theorem dX7_nextAnswer_7 : decode cX7_nextAnswer 7 = .ok (.if_icmp .eq 12, 3) := by decide +kernel
theorem dX7_nextAnswer_10 : decode cX7_nextAnswer 10 = .ok (.aload_n 0, 1) := by decide +kernel
theorem dX7_nextAnswer_11 : decode cX7_nextAnswer 11 = .ok (.getfield 67, 3) := by decide +kernel
theorem dX7_nextAnswer_14 : decode cX7_nextAnswer 14 = .ok (.iload_n 1, 1) := by decide +kernel
theorem dX7_nextAnswer_15 : decode cX7_nextAnswer 15 = .ok (.iaload, 1) := by decide +kernel
theorem dX7_nextAnswer_16 : decode cX7_nextAnswer 16 = .ok (.goto 13, 3) := by decide +kernel
theorem dX7_nextAnswer_19 : decode cX7_nextAnswer 19 = .ok (.aload_n 0, 1) := by decide +kernel
theorem dX7_nextAnswer_20 : decode cX7_nextAnswer 20 = .ok (.getfield 64, 3) := by decide +kernel
theorem dX7_nextAnswer_23 : decode cX7_nextAnswer 23 = .ok (.iload_n 1, 1) := by decide +kernel
theorem dX7_nextAnswer_24 : decode cX7_nextAnswer 24 = .ok (.laload, 1) := by decide +kernel
theorem dX7_nextAnswer_25 : decode cX7_nextAnswer 25 = .ok (.iconst 0, 1) := by decide +kernel
theorem dX7_nextAnswer_26 : decode cX7_nextAnswer 26 = .ok (.invokestatic 107, 3) := by decide +kernel
theorem dX7_nextAnswer_29 : decode cX7_nextAnswer 29 = .ok (.istore_n 2, 1) := by decide +kernel
theorem dX7_nextAnswer_30 : decode cX7_nextAnswer 30 = .ok (.aload_n 0, 1) := by decide +kernel
theorem dX7_nextAnswer_31 : decode cX7_nextAnswer 31 = .ok (.getfield 67, 3) := by decide +kernel
theorem dX7_nextAnswer_34 : decode cX7_nextAnswer 34 = .ok (.iload_n 1, 1) := by decide +kernel
theorem dX7_nextAnswer_35 : decode cX7_nextAnswer 35 = .ok (.iconst (-1), 1) := by decide +kernel
theorem dX7_nextAnswer_36 : decode cX7_nextAnswer 36 = .ok (.iastore, 1) := by decide +kernel
theorem dX7_nextAnswer_37 : decode cX7_nextAnswer 37 = .ok (.aload_n 0, 1) := by decide +kernel
theorem dX7_nextAnswer_38 : decode cX7_nextAnswer 38 = .ok (.getfield 64, 3) := by decide +kernel
theorem dX7_nextAnswer_41 : decode cX7_nextAnswer 41 = .ok (.iload_n 1, 1) := by decide +kernel
theorem dX7_nextAnswer_42 : decode cX7_nextAnswer 42 = .ok (.dup2, 1) := by decide +kernel
theorem dX7_nextAnswer_43 : decode cX7_nextAnswer 43 = .ok (.laload, 1) := by decide +kernel
theorem dX7_nextAnswer_44 : decode cX7_nextAnswer 44 = .ok (.iload_n 2, 1) := by decide +kernel
theorem dX7_nextAnswer_45 : decode cX7_nextAnswer 45 = .ok (.iconst (-1), 1) := by decide +kernel
theorem dX7_nextAnswer_46 : decode cX7_nextAnswer 46 = .ok (.if_icmp .ne 9, 3) := by decide +kernel
theorem dX7_nextAnswer_49 : decode cX7_nextAnswer 49 = .ok (.ldc2_w 105, 3) := by decide +kernel
theorem dX7_nextAnswer_52 : decode cX7_nextAnswer 52 = .ok (.goto 10, 3) := by decide +kernel
theorem dX7_nextAnswer_55 : decode cX7_nextAnswer 55 = .ok (.lconst 1, 1) := by decide +kernel
theorem dX7_nextAnswer_56 : decode cX7_nextAnswer 56 = .ok (.iload_n 2, 1) := by decide +kernel
theorem dX7_nextAnswer_57 : decode cX7_nextAnswer 57 = .ok (.lshl, 1) := by decide +kernel
theorem dX7_nextAnswer_58 : decode cX7_nextAnswer 58 = .ok (.ldc2_w 105, 3) := by decide +kernel
theorem dX7_nextAnswer_61 : decode cX7_nextAnswer 61 = .ok (.lxor, 1) := by decide +kernel
theorem dX7_nextAnswer_62 : decode cX7_nextAnswer 62 = .ok (.land, 1) := by decide +kernel
theorem dX7_nextAnswer_63 : decode cX7_nextAnswer 63 = .ok (.lastore, 1) := by decide +kernel
theorem dX7_nextAnswer_64 : decode cX7_nextAnswer 64 = .ok (.iload_n 2, 1) := by decide +kernel
theorem dX7_nextAnswer_65 : decode cX7_nextAnswer 65 = .ok (.ireturn, 1) := by decide +kernel
set_option maxRecDepth 20000 in
theorem ggX7_mayAnswer_X7_laid : GoodIn wsX7_mayAnswer wsX7_laid := goodIn_r _ [9, 10, 11, 12, 13, 14, 15, 16, 8, 17, 18, 19, 20, 21, 22, 23, 24, 25, 26, 27, 28, 29, 30, 31, 32, 33, 34, 35, 36, 37, 38, 39, 40, 41, 42, 47, 48, 49, 50, 51, 52, 53, 54, 55, 56, 57, 58, 59, 60, 61, 62, 63, 64, 65, 66, 67, 68, 69, 70, 71, 72, 73, 74, 75] (by decide +kernel) (by decide +kernel)
set_option maxRecDepth 20000 in
theorem gX7_mayAnswer_X7_laid : GoodIn wsX7_mayAnswer (wsV RX7 136 RX7 yX7_laid wsX7_laid) := goodIn_app (goodIn_of _ (by decide +kernel)) ggX7_mayAnswer_X7_laid
set_option maxRecDepth 20000 in
theorem ggX7_mayAnswer_X7_isAt : GoodIn wsX7_mayAnswer wsX7_isAt := goodIn_r _ [46, 13, 14, 47, 48, 49, 50, 51, 52, 53, 54, 55, 56, 57, 58, 59, 60, 61, 62, 63, 64, 65, 66, 67, 68, 69, 70, 71, 72, 73, 74, 75] (by decide +kernel) (by decide +kernel)
set_option maxRecDepth 20000 in
theorem gX7_mayAnswer_X7_isAt : GoodIn wsX7_mayAnswer (wsV RX7 194 RX7 yX7_isAt wsX7_isAt) := goodIn_app (goodIn_of _ (by decide +kernel)) ggX7_mayAnswer_X7_isAt
theorem dX7_mayAnswer_0 : decode cX7_mayAnswer 0 = .ok (.aload_n 0, 1) := by decide +kernel
theorem dX7_mayAnswer_1 : decode cX7_mayAnswer 1 = .ok (.aload_n 0, 1) := by decide +kernel
theorem dX7_mayAnswer_2 : decode cX7_mayAnswer 2 = .ok (.getfield 58, 3) := by decide +kernel
theorem dX7_mayAnswer_5 : decode cX7_mayAnswer 5 = .ok (.iload_n 1, 1) := by decide +kernel
theorem dX7_mayAnswer_6 : decode cX7_mayAnswer 6 = .ok (.laload, 1) := by decide +kernel
theorem dX7_mayAnswer_7 : decode cX7_mayAnswer 7 = .ok (.aload_n 0, 1) := by decide +kernel
theorem dX7_mayAnswer_8 : decode cX7_mayAnswer 8 = .ok (.getfield 61, 3) := by decide +kernel
theorem dX7_mayAnswer_11 : decode cX7_mayAnswer 11 = .ok (.iload_n 1, 1) := by decide +kernel
theorem dX7_mayAnswer_12 : decode cX7_mayAnswer 12 = .ok (.laload, 1) := by decide +kernel
theorem dX7_mayAnswer_13 : decode cX7_mayAnswer 13 = .ok (.iload_n 2, 1) := by decide +kernel
theorem dX7_mayAnswer_14 : decode cX7_mayAnswer 14 = .ok (.iload_n 3, 1) := by decide +kernel
theorem dX7_mayAnswer_15 : decode cX7_mayAnswer 15 = .ok (.invokevirtual 136, 3) := by decide +kernel
theorem dX7_mayAnswer_18 : decode cX7_mayAnswer 18 = .ok (.ifCond .ne 26, 3) := by decide +kernel
theorem dX7_mayAnswer_21 : decode cX7_mayAnswer 21 = .ok (.aload_n 0, 1) := by decide +kernel
theorem dX7_mayAnswer_22 : decode cX7_mayAnswer 22 = .ok (.aload_n 0, 1) := by decide +kernel
theorem dX7_mayAnswer_23 : decode cX7_mayAnswer 23 = .ok (.getfield 39, 3) := by decide +kernel
theorem dX7_mayAnswer_26 : decode cX7_mayAnswer 26 = .ok (.iload_n 1, 1) := by decide +kernel
theorem dX7_mayAnswer_27 : decode cX7_mayAnswer 27 = .ok (.laload, 1) := by decide +kernel
theorem dX7_mayAnswer_28 : decode cX7_mayAnswer 28 = .ok (.aload_n 0, 1) := by decide +kernel
theorem dX7_mayAnswer_29 : decode cX7_mayAnswer 29 = .ok (.getfield 42, 3) := by decide +kernel
end
section
theorem dX7_mayAnswer_32 : decode cX7_mayAnswer 32 = .ok (.iload_n 1, 1) := by decide +kernel
theorem dX7_mayAnswer_33 : decode cX7_mayAnswer 33 = .ok (.laload, 1) := by decide +kernel
theorem dX7_mayAnswer_34 : decode cX7_mayAnswer 34 = .ok (.invokevirtual 194, 3) := by decide +kernel
theorem dX7_mayAnswer_37 : decode cX7_mayAnswer 37 = .ok (.ifCond .ne 7, 3) := by decide +kernel
theorem dX7_mayAnswer_40 : decode cX7_mayAnswer 40 = .ok (.iconst 1, 1) := by decide +kernel
theorem dX7_mayAnswer_41 : decode cX7_mayAnswer 41 = .ok (.goto 4, 3) := by decide +kernel
theorem dX7_mayAnswer_44 : decode cX7_mayAnswer 44 = .ok (.iconst 0, 1) := by decide +kernel
theorem dX7_mayAnswer_45 : decode cX7_mayAnswer 45 = .ok (.ireturn, 1) := by decide +kernel
set_option maxRecDepth 20000 in
theorem ggX7_chase_X7_isCrossing : GoodIn wsX7_chase wsX7_isCrossing := goodIn_r _ [7, 8, 9, 10, 6, 11, 12, 13, 14, 15, 16, 105, 106, 107, 108, 109, 110, 111, 112, 113, 114, 115, 116, 117, 118, 119, 120, 121, 122, 123, 124, 125, 126, 127, 128, 129, 130, 131, 132, 133] (by decide +kernel) (by decide +kernel)
set_option maxRecDepth 20000 in
theorem gX7_chase_X7_isCrossing : GoodIn wsX7_chase (wsV RX7 144 RX7 yX7_isCrossing wsX7_isCrossing) := goodIn_app (goodIn_of _ (by decide +kernel)) ggX7_chase_X7_isCrossing
set_option maxRecDepth 20000 in
theorem ggX7_chase_X7_in : GoodIn wsX7_chase wsX7_in := goodIn_r _ [16] (by decide +kernel) (by decide +kernel)
set_option maxRecDepth 20000 in
theorem gX7_chase_X7_in : GoodIn wsX7_chase (va_wsS RX7 93 yX7_in wsX7_in) := goodIn_app (goodIn_of _ (by decide +kernel)) ggX7_chase_X7_in
set_option maxRecDepth 20000 in
theorem ggX7_chase_X7_atOf : GoodIn wsX7_chase wsX7_atOf := goodIn_r _ [20, 21, 22, 23, 105, 106, 107, 108, 109, 110, 111, 112, 113, 114, 115, 116, 117, 118, 119, 120, 121, 122, 123, 124, 125, 126, 127, 128, 129, 130, 131, 132, 133] (by decide +kernel) (by decide +kernel)
set_option maxRecDepth 20000 in
theorem gX7_chase_X7_atOf : GoodIn wsX7_chase (wsV RX7 159 RX7 yX7_atOf wsX7_atOf) := goodIn_app (goodIn_of _ (by decide +kernel)) ggX7_chase_X7_atOf
set_option maxRecDepth 20000 in
theorem ggX7_chase_X7_isCaught : GoodIn wsX7_chase wsX7_isCaught := goodIn_r _ [27, 28, 21, 22, 23, 2, 29, 30, 31, 32, 33, 34, 35, 36, 37, 38, 39, 40, 6, 41, 42, 43, 44, 45, 46, 47, 48, 49, 50, 51, 52, 53, 54, 55, 56, 8, 9, 10, 11, 12, 13, 57, 58, 59, 60, 61, 62, 63, 64, 65, 66, 67, 68, 69, 70, 71, 72, 73, 74, 75, 76, 77, 78, 79, 80, 81, 82, 83, 84, 85, 86, 87, 88, 89, 90, 1, 91, 92, 93, 94, 95, 96, 97, 98, 99, 100, 101, 102, 103, 104, 105, 106, 107, 108, 109, 110, 111, 112, 113, 114, 115, 116, 117, 118, 119, 120, 121, 122, 123, 124, 125, 126, 127, 128, 129, 130, 131, 132, 133] (by decide +kernel) (by decide +kernel)
set_option maxRecDepth 20000 in
theorem gX7_chase_X7_isCaught : GoodIn wsX7_chase (wsV RX7 216 RX7 yX7_isCaught wsX7_isCaught) := goodIn_app (goodIn_of _ (by decide +kernel)) ggX7_chase_X7_isCaught
theorem dX7_chase_0 : decode cX7_chase 0 = .ok (.aload_n 0, 1) := by decide +kernel
theorem dX7_chase_1 : decode cX7_chase 1 = .ok (.iload_n 1, 1) := by decide +kernel
theorem dX7_chase_2 : decode cX7_chase 2 = .ok (.invokevirtual 144, 3) := by decide +kernel
theorem dX7_chase_5 : decode cX7_chase 5 = .ok (.ifCond .eq 13, 3) := by decide +kernel
theorem dX7_chase_8 : decode cX7_chase 8 = .ok (.iload_n 2, 1) := by decide +kernel
theorem dX7_chase_9 : decode cX7_chase 9 = .ok (.iconst 1, 1) := by decide +kernel
theorem dX7_chase_10 : decode cX7_chase 10 = .ok (.bipush 20, 2) := by decide +kernel
theorem dX7_chase_12 : decode cX7_chase 12 = .ok (.invokestatic 93, 3) := by decide +kernel
theorem dX7_chase_15 : decode cX7_chase 15 = .ok (.ifCond .ne 6, 3) := by decide +kernel
theorem dX7_chase_18 : decode cX7_chase 18 = .ok (.bipush (-2), 2) := by decide +kernel
theorem dX7_chase_20 : decode cX7_chase 20 = .ok (.ireturn, 1) := by decide +kernel
theorem dX7_chase_21 : decode cX7_chase 21 = .ok (.aload_n 0, 1) := by decide +kernel
theorem dX7_chase_22 : decode cX7_chase 22 = .ok (.iload_n 1, 1) := by decide +kernel
theorem dX7_chase_23 : decode cX7_chase 23 = .ok (.invokevirtual 159, 3) := by decide +kernel
theorem dX7_chase_26 : decode cX7_chase 26 = .ok (.ifCond .ne 6, 3) := by decide +kernel
theorem dX7_chase_29 : decode cX7_chase 29 = .ok (.bipush (-3), 2) := by decide +kernel
theorem dX7_chase_31 : decode cX7_chase 31 = .ok (.ireturn, 1) := by decide +kernel
theorem dX7_chase_32 : decode cX7_chase 32 = .ok (.aload_n 0, 1) := by decide +kernel
theorem dX7_chase_33 : decode cX7_chase 33 = .ok (.iconst 0, 1) := by decide +kernel
theorem dX7_chase_34 : decode cX7_chase 34 = .ok (.putfield 183, 3) := by decide +kernel
theorem dX7_chase_37 : decode cX7_chase 37 = .ok (.aload_n 0, 1) := by decide +kernel
theorem dX7_chase_38 : decode cX7_chase 38 = .ok (.iconst 0, 1) := by decide +kernel
theorem dX7_chase_39 : decode cX7_chase 39 = .ok (.putfield 186, 3) := by decide +kernel
theorem dX7_chase_42 : decode cX7_chase 42 = .ok (.aload_n 0, 1) := by decide +kernel
theorem dX7_chase_43 : decode cX7_chase 43 = .ok (.aload_n 0, 1) := by decide +kernel
theorem dX7_chase_44 : decode cX7_chase 44 = .ok (.iload_n 1, 1) := by decide +kernel
theorem dX7_chase_45 : decode cX7_chase 45 = .ok (.invokevirtual 159, 3) := by decide +kernel
theorem dX7_chase_48 : decode cX7_chase 48 = .ok (.iload_n 1, 1) := by decide +kernel
theorem dX7_chase_49 : decode cX7_chase 49 = .ok (.iload_n 2, 1) := by decide +kernel
theorem dX7_chase_50 : decode cX7_chase 50 = .ok (.invokevirtual 216, 3) := by decide +kernel
theorem dX7_chase_53 : decode cX7_chase 53 = .ok (.istore_n 3, 1) := by decide +kernel
theorem dX7_chase_54 : decode cX7_chase 54 = .ok (.aload_n 0, 1) := by decide +kernel
theorem dX7_chase_55 : decode cX7_chase 55 = .ok (.getfield 186, 3) := by decide +kernel
theorem dX7_chase_58 : decode cX7_chase 58 = .ok (.ifCond .eq 8, 3) := by decide +kernel
theorem dX7_chase_61 : decode cX7_chase 61 = .ok (.bipush (-5), 2) := by decide +kernel
theorem dX7_chase_63 : decode cX7_chase 63 = .ok (.goto 12, 3) := by decide +kernel
theorem dX7_chase_66 : decode cX7_chase 66 = .ok (.iload_n 3, 1) := by decide +kernel
theorem dX7_chase_67 : decode cX7_chase 67 = .ok (.ifCond .eq 7, 3) := by decide +kernel
theorem dX7_chase_70 : decode cX7_chase 70 = .ok (.iconst 1, 1) := by decide +kernel
theorem dX7_chase_71 : decode cX7_chase 71 = .ok (.goto 4, 3) := by decide +kernel
theorem dX7_chase_74 : decode cX7_chase 74 = .ok (.iconst 0, 1) := by decide +kernel
theorem dX7_chase_75 : decode cX7_chase 75 = .ok (.ireturn, 1) := by decide +kernel
theorem dX7_isGone_0 : decode cX7_isGone 0 = .ok (.iload_n 2, 1) := by decide +kernel
theorem dX7_isGone_1 : decode cX7_isGone 1 = .ok (.iconst 1, 1) := by decide +kernel
theorem dX7_isGone_2 : decode cX7_isGone 2 = .ok (.if_icmp .ne 12, 3) := by decide +kernel
theorem dX7_isGone_5 : decode cX7_isGone 5 = .ok (.aload_n 0, 1) := by decide +kernel
theorem dX7_isGone_6 : decode cX7_isGone 6 = .ok (.getfield 24, 3) := by decide +kernel
theorem dX7_isGone_9 : decode cX7_isGone 9 = .ok (.iload_n 1, 1) := by decide +kernel
theorem dX7_isGone_10 : decode cX7_isGone 10 = .ok (.laload, 1) := by decide +kernel
theorem dX7_isGone_11 : decode cX7_isGone 11 = .ok (.goto 9, 3) := by decide +kernel
theorem dX7_isGone_14 : decode cX7_isGone 14 = .ok (.aload_n 0, 1) := by decide +kernel
theorem dX7_isGone_15 : decode cX7_isGone 15 = .ok (.getfield 27, 3) := by decide +kernel
theorem dX7_isGone_18 : decode cX7_isGone 18 = .ok (.iload_n 1, 1) := by decide +kernel
theorem dX7_isGone_19 : decode cX7_isGone 19 = .ok (.laload, 1) := by decide +kernel
theorem dX7_isGone_20 : decode cX7_isGone 20 = .ok (.iload_n 3, 1) := by decide +kernel
theorem dX7_isGone_21 : decode cX7_isGone 21 = .ok (.lshr, 1) := by decide +kernel
theorem dX7_isGone_22 : decode cX7_isGone 22 = .ok (.lconst 1, 1) := by decide +kernel
theorem dX7_isGone_23 : decode cX7_isGone 23 = .ok (.land, 1) := by decide +kernel
theorem dX7_isGone_24 : decode cX7_isGone 24 = .ok (.lconst 0, 1) := by decide +kernel
theorem dX7_isGone_25 : decode cX7_isGone 25 = .ok (.lcmp, 1) := by decide +kernel
theorem dX7_isGone_26 : decode cX7_isGone 26 = .ok (.ifCond .ne 7, 3) := by decide +kernel
theorem dX7_isGone_29 : decode cX7_isGone 29 = .ok (.iconst 1, 1) := by decide +kernel
theorem dX7_isGone_30 : decode cX7_isGone 30 = .ok (.goto 4, 3) := by decide +kernel
theorem dX7_isGone_33 : decode cX7_isGone 33 = .ok (.iconst 0, 1) := by decide +kernel
theorem dX7_isGone_34 : decode cX7_isGone 34 = .ok (.ireturn, 1) := by decide +kernel
set_option maxRecDepth 20000 in
theorem ggX7_isTaken_X7_size : GoodIn wsX7_isTaken wsX7_size := goodIn_r _ [13, 14, 15, 66, 67, 68, 69, 70, 71, 72, 73, 74, 75, 76, 77, 78, 79, 80, 81, 82, 83, 84, 85, 86, 87, 88, 89, 90, 91, 92, 93, 94] (by decide +kernel) (by decide +kernel)
set_option maxRecDepth 20000 in
theorem gX7_isTaken_X7_size : GoodIn wsX7_isTaken (wsV RX7 89 RX7 yX7_size wsX7_size) := goodIn_app (goodIn_of _ (by decide +kernel)) ggX7_isTaken_X7_size
set_option maxRecDepth 20000 in
theorem ggX7_isTaken_X7_reason : GoodIn wsX7_isTaken wsX7_reason := goodIn_r _ [19, 5, 7, 20, 21, 22, 12, 23, 24, 25, 26, 6, 8, 27, 28, 29, 30, 31, 32, 33, 34, 35, 36, 37, 9, 10, 11, 13, 14, 15, 38, 39, 40, 41, 42, 43, 44, 45, 46, 47, 48, 49, 50, 51, 52, 53, 4, 54, 55, 56, 66, 67, 68, 69, 70, 71, 72, 73, 74, 75, 76, 77, 78, 79, 80, 81, 82, 83, 84, 85, 86, 87, 88, 89, 90, 91, 92, 93, 94] (by decide +kernel) (by decide +kernel)
set_option maxRecDepth 20000 in
theorem gX7_isTaken_X7_reason : GoodIn wsX7_isTaken (wsV RX7 148 RX7 yX7_reason wsX7_reason) := goodIn_app (goodIn_of _ (by decide +kernel)) ggX7_isTaken_X7_reason
set_option maxRecDepth 20000 in
theorem ggX7_isTaken_X7_counts : GoodIn wsX7_isTaken wsX7_counts := goodIn_r _ [60, 61, 2, 66, 67, 68, 69, 70, 71, 72, 73, 74, 75, 76, 77, 78, 79, 80, 81, 82, 83, 84, 85, 86, 87, 88, 89, 90, 91, 92, 93, 94] (by decide +kernel) (by decide +kernel)
set_option maxRecDepth 20000 in
theorem gX7_isTaken_X7_counts : GoodIn wsX7_isTaken (wsV RX7 204 RX7 yX7_counts wsX7_counts) := goodIn_app (goodIn_of _ (by decide +kernel)) ggX7_isTaken_X7_counts
set_option maxRecDepth 20000 in
theorem ggX7_isTaken_X7_other : GoodIn wsX7_isTaken wsX7_other := goodIn_r _ [56] (by decide +kernel) (by decide +kernel)
set_option maxRecDepth 20000 in
theorem gX7_isTaken_X7_other : GoodIn wsX7_isTaken (va_wsS RX7 132 yX7_other wsX7_other) := goodIn_app (goodIn_of _ (by decide +kernel)) ggX7_isTaken_X7_other
set_option maxRecDepth 20000 in
theorem ggX7_isTaken_X7_isGone : GoodIn wsX7_isTaken wsX7_isGone := goodIn_r _ [65, 5, 7, 66, 67, 68, 69, 70, 71, 72, 73, 74, 75, 76, 77, 78, 79, 80, 81, 82, 83, 84, 85, 86, 87, 88, 89, 90, 91, 92, 93, 94] (by decide +kernel) (by decide +kernel)
set_option maxRecDepth 20000 in
theorem gX7_isTaken_X7_isGone : GoodIn wsX7_isTaken (wsV RX7 219 RX7 yX7_isGone wsX7_isGone) := goodIn_app (goodIn_of _ (by decide +kernel)) ggX7_isTaken_X7_isGone
theorem dX7_isTaken_0 : decode cX7_isTaken 0 = .ok (.iconst 0, 1) := by decide +kernel
theorem dX7_isTaken_1 : decode cX7_isTaken 1 = .ok (.istore 4, 2) := by decide +kernel
theorem dX7_isTaken_3 : decode cX7_isTaken 3 = .ok (.aload_n 0, 1) := by decide +kernel
theorem dX7_isTaken_4 : decode cX7_isTaken 4 = .ok (.getfield 76, 3) := by decide +kernel
theorem dX7_isTaken_7 : decode cX7_isTaken 7 = .ok (.iconst 0, 1) := by decide +kernel
theorem dX7_isTaken_8 : decode cX7_isTaken 8 = .ok (.iconst 0, 1) := by decide +kernel
theorem dX7_isTaken_9 : decode cX7_isTaken 9 = .ok (.iastore, 1) := by decide +kernel
theorem dX7_isTaken_10 : decode cX7_isTaken 10 = .ok (.iconst 0, 1) := by decide +kernel
theorem dX7_isTaken_11 : decode cX7_isTaken 11 = .ok (.istore 5, 2) := by decide +kernel
theorem dX7_isTaken_13 : decode cX7_isTaken 13 = .ok (.iconst 0, 1) := by decide +kernel
theorem dX7_isTaken_14 : decode cX7_isTaken 14 = .ok (.istore 6, 2) := by decide +kernel
theorem dX7_isTaken_16 : decode cX7_isTaken 16 = .ok (.iload 4, 2) := by decide +kernel
theorem dX7_isTaken_18 : decode cX7_isTaken 18 = .ok (.ifCond .lt 295, 3) := by decide +kernel
theorem dX7_isTaken_21 : decode cX7_isTaken 21 = .ok (.aload_n 0, 1) := by decide +kernel
theorem dX7_isTaken_22 : decode cX7_isTaken 22 = .ok (.getfield 186, 3) := by decide +kernel
theorem dX7_isTaken_25 : decode cX7_isTaken 25 = .ok (.ifCond .ne 288, 3) := by decide +kernel
theorem dX7_isTaken_28 : decode cX7_isTaken 28 = .ok (.aload_n 0, 1) := by decide +kernel
theorem dX7_isTaken_29 : decode cX7_isTaken 29 = .ok (.getfield 86, 3) := by decide +kernel
theorem dX7_isTaken_32 : decode cX7_isTaken 32 = .ok (.iload 4, 2) := by decide +kernel
theorem dX7_isTaken_34 : decode cX7_isTaken 34 = .ok (.iadd, 1) := by decide +kernel
theorem dX7_isTaken_35 : decode cX7_isTaken 35 = .ok (.istore 7, 2) := by decide +kernel
theorem dX7_isTaken_37 : decode cX7_isTaken 37 = .ok (.aload_n 0, 1) := by decide +kernel
theorem dX7_isTaken_38 : decode cX7_isTaken 38 = .ok (.getfield 30, 3) := by decide +kernel
theorem dX7_isTaken_41 : decode cX7_isTaken 41 = .ok (.iload 7, 2) := by decide +kernel
theorem dX7_isTaken_43 : decode cX7_isTaken 43 = .ok (.iaload, 1) := by decide +kernel
theorem dX7_isTaken_44 : decode cX7_isTaken 44 = .ok (.iload_n 1, 1) := by decide +kernel
theorem dX7_isTaken_45 : decode cX7_isTaken 45 = .ok (.if_icmp .ne 7, 3) := by decide +kernel
theorem dX7_isTaken_48 : decode cX7_isTaken 48 = .ok (.iconst 1, 1) := by decide +kernel
theorem dX7_isTaken_49 : decode cX7_isTaken 49 = .ok (.goto 4, 3) := by decide +kernel
theorem dX7_isTaken_52 : decode cX7_isTaken 52 = .ok (.iconst 0, 1) := by decide +kernel
theorem dX7_isTaken_53 : decode cX7_isTaken 53 = .ok (.istore 8, 2) := by decide +kernel
theorem dX7_isTaken_55 : decode cX7_isTaken 55 = .ok (.iload 5, 2) := by decide +kernel
theorem dX7_isTaken_57 : decode cX7_isTaken 57 = .ok (.ifCond .eq 14, 3) := by decide +kernel
theorem dX7_isTaken_60 : decode cX7_isTaken 60 = .ok (.iload 6, 2) := by decide +kernel
theorem dX7_isTaken_62 : decode cX7_isTaken 62 = .ok (.iload 8, 2) := by decide +kernel
theorem dX7_isTaken_64 : decode cX7_isTaken 64 = .ok (.if_icmp .eq 7, 3) := by decide +kernel
theorem dX7_isTaken_67 : decode cX7_isTaken 67 = .ok (.iconst 1, 1) := by decide +kernel
theorem dX7_isTaken_68 : decode cX7_isTaken 68 = .ok (.goto 4, 3) := by decide +kernel
theorem dX7_isTaken_71 : decode cX7_isTaken 71 = .ok (.iconst 0, 1) := by decide +kernel
theorem dX7_isTaken_72 : decode cX7_isTaken 72 = .ok (.istore 9, 2) := by decide +kernel
theorem dX7_isTaken_74 : decode cX7_isTaken 74 = .ok (.iload 9, 2) := by decide +kernel
theorem dX7_isTaken_76 : decode cX7_isTaken 76 = .ok (.ifCond .ne 23, 3) := by decide +kernel
theorem dX7_isTaken_79 : decode cX7_isTaken 79 = .ok (.aload_n 0, 1) := by decide +kernel
theorem dX7_isTaken_80 : decode cX7_isTaken 80 = .ok (.getfield 76, 3) := by decide +kernel
theorem dX7_isTaken_83 : decode cX7_isTaken 83 = .ok (.iload 4, 2) := by decide +kernel
theorem dX7_isTaken_85 : decode cX7_isTaken 85 = .ok (.iaload, 1) := by decide +kernel
theorem dX7_isTaken_86 : decode cX7_isTaken 86 = .ok (.aload_n 0, 1) := by decide +kernel
theorem dX7_isTaken_87 : decode cX7_isTaken 87 = .ok (.invokevirtual 89, 3) := by decide +kernel
theorem dX7_isTaken_90 : decode cX7_isTaken 90 = .ok (.if_icmp .gt 9, 3) := by decide +kernel
theorem dX7_isTaken_93 : decode cX7_isTaken 93 = .ok (.iload 4, 2) := by decide +kernel
theorem dX7_isTaken_95 : decode cX7_isTaken 95 = .ok (.iload_n 3, 1) := by decide +kernel
theorem dX7_isTaken_96 : decode cX7_isTaken 96 = .ok (.if_icmp .ne 40, 3) := by decide +kernel
theorem dX7_isTaken_99 : decode cX7_isTaken 99 = .ok (.iload 9, 2) := by decide +kernel
theorem dX7_isTaken_101 : decode cX7_isTaken 101 = .ok (.ifCond .eq 8, 3) := by decide +kernel
theorem dX7_isTaken_104 : decode cX7_isTaken 104 = .ok (.iload 6, 2) := by decide +kernel
theorem dX7_isTaken_106 : decode cX7_isTaken 106 = .ok (.goto 19, 3) := by decide +kernel
theorem dX7_isTaken_109 : decode cX7_isTaken 109 = .ok (.iload 8, 2) := by decide +kernel
theorem dX7_isTaken_111 : decode cX7_isTaken 111 = .ok (.ifCond .eq 13, 3) := by decide +kernel
theorem dX7_isTaken_114 : decode cX7_isTaken 114 = .ok (.iload 4, 2) := by decide +kernel
theorem dX7_isTaken_116 : decode cX7_isTaken 116 = .ok (.iload_n 3, 1) := by decide +kernel
theorem dX7_isTaken_117 : decode cX7_isTaken 117 = .ok (.if_icmp .ge 7, 3) := by decide +kernel
theorem dX7_isTaken_120 : decode cX7_isTaken 120 = .ok (.iconst 1, 1) := by decide +kernel
theorem dX7_isTaken_121 : decode cX7_isTaken 121 = .ok (.goto 4, 3) := by decide +kernel
theorem dX7_isTaken_124 : decode cX7_isTaken 124 = .ok (.iconst 0, 1) := by decide +kernel
theorem dX7_isTaken_125 : decode cX7_isTaken 125 = .ok (.istore 6, 2) := by decide +kernel
theorem dX7_isTaken_127 : decode cX7_isTaken 127 = .ok (.iinc 4 (-1), 3) := by decide +kernel
theorem dX7_isTaken_130 : decode cX7_isTaken 130 = .ok (.iconst 1, 1) := by decide +kernel
theorem dX7_isTaken_131 : decode cX7_isTaken 131 = .ok (.istore 5, 2) := by decide +kernel
theorem dX7_isTaken_133 : decode cX7_isTaken 133 = .ok (.goto (-117), 3) := by decide +kernel
theorem dX7_isTaken_136 : decode cX7_isTaken 136 = .ok (.iconst 0, 1) := by decide +kernel
theorem dX7_isTaken_137 : decode cX7_isTaken 137 = .ok (.istore 5, 2) := by decide +kernel
theorem dX7_isTaken_139 : decode cX7_isTaken 139 = .ok (.aload_n 0, 1) := by decide +kernel
theorem dX7_isTaken_140 : decode cX7_isTaken 140 = .ok (.getfield 76, 3) := by decide +kernel
theorem dX7_isTaken_143 : decode cX7_isTaken 143 = .ok (.iload 4, 2) := by decide +kernel
theorem dX7_isTaken_145 : decode cX7_isTaken 145 = .ok (.iaload, 1) := by decide +kernel
theorem dX7_isTaken_146 : decode cX7_isTaken 146 = .ok (.istore 10, 2) := by decide +kernel
theorem dX7_isTaken_148 : decode cX7_isTaken 148 = .ok (.aload_n 0, 1) := by decide +kernel
theorem dX7_isTaken_149 : decode cX7_isTaken 149 = .ok (.getfield 76, 3) := by decide +kernel
theorem dX7_isTaken_152 : decode cX7_isTaken 152 = .ok (.iload 4, 2) := by decide +kernel
theorem dX7_isTaken_154 : decode cX7_isTaken 154 = .ok (.dup2, 1) := by decide +kernel
theorem dX7_isTaken_155 : decode cX7_isTaken 155 = .ok (.iaload, 1) := by decide +kernel
theorem dX7_isTaken_156 : decode cX7_isTaken 156 = .ok (.iconst 1, 1) := by decide +kernel
theorem dX7_isTaken_157 : decode cX7_isTaken 157 = .ok (.iadd, 1) := by decide +kernel
theorem dX7_isTaken_158 : decode cX7_isTaken 158 = .ok (.iastore, 1) := by decide +kernel
theorem dX7_isTaken_159 : decode cX7_isTaken 159 = .ok (.iload 10, 2) := by decide +kernel
theorem dX7_isTaken_161 : decode cX7_isTaken 161 = .ok (.aload_n 0, 1) := by decide +kernel
theorem dX7_isTaken_162 : decode cX7_isTaken 162 = .ok (.invokevirtual 89, 3) := by decide +kernel
theorem dX7_isTaken_165 : decode cX7_isTaken 165 = .ok (.if_icmp .ne 7, 3) := by decide +kernel
theorem dX7_isTaken_168 : decode cX7_isTaken 168 = .ok (.iconst 1, 1) := by decide +kernel
theorem dX7_isTaken_169 : decode cX7_isTaken 169 = .ok (.goto 4, 3) := by decide +kernel
theorem dX7_isTaken_172 : decode cX7_isTaken 172 = .ok (.iconst 0, 1) := by decide +kernel
theorem dX7_isTaken_173 : decode cX7_isTaken 173 = .ok (.istore 11, 2) := by decide +kernel
theorem dX7_isTaken_175 : decode cX7_isTaken 175 = .ok (.iload 11, 2) := by decide +kernel
theorem dX7_isTaken_177 : decode cX7_isTaken 177 = .ok (.ifCond .ne 21, 3) := by decide +kernel
theorem dX7_isTaken_180 : decode cX7_isTaken 180 = .ok (.aload_n 0, 1) := by decide +kernel
theorem dX7_isTaken_181 : decode cX7_isTaken 181 = .ok (.iload 7, 2) := by decide +kernel
theorem dX7_isTaken_183 : decode cX7_isTaken 183 = .ok (.aload_n 0, 1) := by decide +kernel
theorem dX7_isTaken_184 : decode cX7_isTaken 184 = .ok (.getfield 30, 3) := by decide +kernel
theorem dX7_isTaken_187 : decode cX7_isTaken 187 = .ok (.iload 7, 2) := by decide +kernel
theorem dX7_isTaken_189 : decode cX7_isTaken 189 = .ok (.iaload, 1) := by decide +kernel
theorem dX7_isTaken_190 : decode cX7_isTaken 190 = .ok (.iload 10, 2) := by decide +kernel
theorem dX7_isTaken_192 : decode cX7_isTaken 192 = .ok (.invokevirtual 148, 3) := by decide +kernel
theorem dX7_isTaken_195 : decode cX7_isTaken 195 = .ok (.ifCond .ne 115, 3) := by decide +kernel
theorem dX7_isTaken_198 : decode cX7_isTaken 198 = .ok (.aload_n 0, 1) := by decide +kernel
theorem dX7_isTaken_199 : decode cX7_isTaken 199 = .ok (.invokevirtual 204, 3) := by decide +kernel
theorem dX7_isTaken_202 : decode cX7_isTaken 202 = .ok (.aload_n 0, 1) := by decide +kernel
theorem dX7_isTaken_203 : decode cX7_isTaken 203 = .ok (.getfield 24, 3) := by decide +kernel
theorem dX7_isTaken_206 : decode cX7_isTaken 206 = .ok (.iload 7, 2) := by decide +kernel
theorem dX7_isTaken_208 : decode cX7_isTaken 208 = .ok (.iconst 1, 1) := by decide +kernel
theorem dX7_isTaken_209 : decode cX7_isTaken 209 = .ok (.iadd, 1) := by decide +kernel
theorem dX7_isTaken_210 : decode cX7_isTaken 210 = .ok (.iload 11, 2) := by decide +kernel
theorem dX7_isTaken_212 : decode cX7_isTaken 212 = .ok (.ifCond .eq 13, 3) := by decide +kernel
theorem dX7_isTaken_215 : decode cX7_isTaken 215 = .ok (.aload_n 0, 1) := by decide +kernel
theorem dX7_isTaken_216 : decode cX7_isTaken 216 = .ok (.getfield 24, 3) := by decide +kernel
theorem dX7_isTaken_219 : decode cX7_isTaken 219 = .ok (.iload 7, 2) := by decide +kernel
theorem dX7_isTaken_221 : decode cX7_isTaken 221 = .ok (.laload, 1) := by decide +kernel
theorem dX7_isTaken_222 : decode cX7_isTaken 222 = .ok (.goto 7, 3) := by decide +kernel
theorem dX7_isTaken_225 : decode cX7_isTaken 225 = .ok (.aload_n 0, 1) := by decide +kernel
theorem dX7_isTaken_226 : decode cX7_isTaken 226 = .ok (.getfield 122, 3) := by decide +kernel
theorem dX7_isTaken_229 : decode cX7_isTaken 229 = .ok (.lastore, 1) := by decide +kernel
theorem dX7_isTaken_230 : decode cX7_isTaken 230 = .ok (.aload_n 0, 1) := by decide +kernel
theorem dX7_isTaken_231 : decode cX7_isTaken 231 = .ok (.getfield 27, 3) := by decide +kernel
theorem dX7_isTaken_234 : decode cX7_isTaken 234 = .ok (.iload 7, 2) := by decide +kernel
theorem dX7_isTaken_236 : decode cX7_isTaken 236 = .ok (.iconst 1, 1) := by decide +kernel
theorem dX7_isTaken_237 : decode cX7_isTaken 237 = .ok (.iadd, 1) := by decide +kernel
theorem dX7_isTaken_238 : decode cX7_isTaken 238 = .ok (.iload 11, 2) := by decide +kernel
theorem dX7_isTaken_240 : decode cX7_isTaken 240 = .ok (.ifCond .eq 13, 3) := by decide +kernel
theorem dX7_isTaken_243 : decode cX7_isTaken 243 = .ok (.aload_n 0, 1) := by decide +kernel
theorem dX7_isTaken_244 : decode cX7_isTaken 244 = .ok (.getfield 27, 3) := by decide +kernel
theorem dX7_isTaken_247 : decode cX7_isTaken 247 = .ok (.iload 7, 2) := by decide +kernel
theorem dX7_isTaken_249 : decode cX7_isTaken 249 = .ok (.laload, 1) := by decide +kernel
theorem dX7_isTaken_250 : decode cX7_isTaken 250 = .ok (.goto 7, 3) := by decide +kernel
theorem dX7_isTaken_253 : decode cX7_isTaken 253 = .ok (.aload_n 0, 1) := by decide +kernel
theorem dX7_isTaken_254 : decode cX7_isTaken 254 = .ok (.getfield 126, 3) := by decide +kernel
theorem dX7_isTaken_257 : decode cX7_isTaken 257 = .ok (.lastore, 1) := by decide +kernel
theorem dX7_isTaken_258 : decode cX7_isTaken 258 = .ok (.aload_n 0, 1) := by decide +kernel
theorem dX7_isTaken_259 : decode cX7_isTaken 259 = .ok (.getfield 30, 3) := by decide +kernel
theorem dX7_isTaken_262 : decode cX7_isTaken 262 = .ok (.iload 7, 2) := by decide +kernel
theorem dX7_isTaken_264 : decode cX7_isTaken 264 = .ok (.iconst 1, 1) := by decide +kernel
theorem dX7_isTaken_265 : decode cX7_isTaken 265 = .ok (.iadd, 1) := by decide +kernel
theorem dX7_isTaken_266 : decode cX7_isTaken 266 = .ok (.aload_n 0, 1) := by decide +kernel
theorem dX7_isTaken_267 : decode cX7_isTaken 267 = .ok (.getfield 30, 3) := by decide +kernel
theorem dX7_isTaken_270 : decode cX7_isTaken 270 = .ok (.iload 7, 2) := by decide +kernel
theorem dX7_isTaken_272 : decode cX7_isTaken 272 = .ok (.iaload, 1) := by decide +kernel
theorem dX7_isTaken_273 : decode cX7_isTaken 273 = .ok (.invokestatic 132, 3) := by decide +kernel
theorem dX7_isTaken_276 : decode cX7_isTaken 276 = .ok (.iastore, 1) := by decide +kernel
theorem dX7_isTaken_277 : decode cX7_isTaken 277 = .ok (.aload_n 0, 1) := by decide +kernel
theorem dX7_isTaken_278 : decode cX7_isTaken 278 = .ok (.iload 7, 2) := by decide +kernel
theorem dX7_isTaken_280 : decode cX7_isTaken 280 = .ok (.iconst 1, 1) := by decide +kernel
theorem dX7_isTaken_281 : decode cX7_isTaken 281 = .ok (.iadd, 1) := by decide +kernel
theorem dX7_isTaken_282 : decode cX7_isTaken 282 = .ok (.iload_n 1, 1) := by decide +kernel
theorem dX7_isTaken_283 : decode cX7_isTaken 283 = .ok (.iload_n 2, 1) := by decide +kernel
theorem dX7_isTaken_284 : decode cX7_isTaken 284 = .ok (.invokevirtual 219, 3) := by decide +kernel
theorem dX7_isTaken_287 : decode cX7_isTaken 287 = .ok (.ifCond .eq 12, 3) := by decide +kernel
theorem dX7_isTaken_290 : decode cX7_isTaken 290 = .ok (.iconst 1, 1) := by decide +kernel
theorem dX7_isTaken_291 : decode cX7_isTaken 291 = .ok (.istore 6, 2) := by decide +kernel
theorem dX7_isTaken_293 : decode cX7_isTaken 293 = .ok (.iconst 1, 1) := by decide +kernel
theorem dX7_isTaken_294 : decode cX7_isTaken 294 = .ok (.istore 5, 2) := by decide +kernel
theorem dX7_isTaken_296 : decode cX7_isTaken 296 = .ok (.goto 14, 3) := by decide +kernel
theorem dX7_isTaken_299 : decode cX7_isTaken 299 = .ok (.iinc 4 1, 3) := by decide +kernel
theorem dX7_isTaken_302 : decode cX7_isTaken 302 = .ok (.aload_n 0, 1) := by decide +kernel
theorem dX7_isTaken_303 : decode cX7_isTaken 303 = .ok (.getfield 76, 3) := by decide +kernel
theorem dX7_isTaken_306 : decode cX7_isTaken 306 = .ok (.iload 4, 2) := by decide +kernel
theorem dX7_isTaken_308 : decode cX7_isTaken 308 = .ok (.iconst 0, 1) := by decide +kernel
theorem dX7_isTaken_309 : decode cX7_isTaken 309 = .ok (.iastore, 1) := by decide +kernel
theorem dX7_isTaken_310 : decode cX7_isTaken 310 = .ok (.goto (-294), 3) := by decide +kernel
theorem dX7_isTaken_313 : decode cX7_isTaken 313 = .ok (.iload 6, 2) := by decide +kernel
theorem dX7_isTaken_315 : decode cX7_isTaken 315 = .ok (.ireturn, 1) := by decide +kernel
set_option maxRecDepth 20000 in
theorem ggX7_fight_X7_isCrossing : GoodIn wsX7_fight wsX7_isCrossing := goodIn_r _ [11, 12, 13, 14, 10, 15, 16, 17, 18, 19, 20, 82, 83, 84, 85, 86, 87, 88, 89, 90, 91, 92, 93, 94, 95, 96, 97, 98, 99, 100, 101, 102, 103, 104, 105, 106, 107, 108, 109, 110] (by decide +kernel) (by decide +kernel)
set_option maxRecDepth 20000 in
theorem gX7_fight_X7_isCrossing : GoodIn wsX7_fight (wsV RX7 144 RX7 yX7_isCrossing wsX7_isCrossing) := goodIn_app (goodIn_of _ (by decide +kernel)) ggX7_fight_X7_isCrossing
set_option maxRecDepth 20000 in
theorem ggX7_fight_X7_in : GoodIn wsX7_fight wsX7_in := goodIn_r _ [20] (by decide +kernel) (by decide +kernel)
set_option maxRecDepth 20000 in
theorem gX7_fight_X7_in : GoodIn wsX7_fight (va_wsS RX7 93 yX7_in wsX7_in) := goodIn_app (goodIn_of _ (by decide +kernel)) ggX7_fight_X7_in
set_option maxRecDepth 20000 in
theorem ggX7_fight_X7_atOf : GoodIn wsX7_fight wsX7_atOf := goodIn_r _ [24, 25, 4, 26, 82, 83, 84, 85, 86, 87, 88, 89, 90, 91, 92, 93, 94, 95, 96, 97, 98, 99, 100, 101, 102, 103, 104, 105, 106, 107, 108, 109, 110] (by decide +kernel) (by decide +kernel)
set_option maxRecDepth 20000 in
theorem gX7_fight_X7_atOf : GoodIn wsX7_fight (wsV RX7 159 RX7 yX7_atOf wsX7_atOf) := goodIn_app (goodIn_of _ (by decide +kernel)) ggX7_fight_X7_atOf
set_option maxRecDepth 20000 in
theorem ggX7_fight_X7_isTaken : GoodIn wsX7_fight wsX7_isTaken := goodIn_r _ [30, 5, 2, 4, 3, 25, 31, 26, 32, 12, 13, 14, 10, 15, 16, 17, 33, 34, 35, 36, 37, 38, 39, 40, 41, 42, 43, 44, 45, 46, 47, 48, 49, 50, 51, 52, 53, 54, 55, 56, 57, 58, 59, 60, 61, 62, 63, 64, 65, 66, 67, 68, 69, 70, 71, 72, 73, 74, 75, 76, 77, 1, 78, 79, 80, 81, 82, 83, 84, 85, 86, 87, 88, 89, 90, 91, 92, 93, 94, 95, 96, 97, 98, 99, 100, 101, 102, 103, 104, 105, 106, 107, 108, 109, 110] (by decide +kernel) (by decide +kernel)
set_option maxRecDepth 20000 in
theorem gX7_fight_X7_isTaken : GoodIn wsX7_fight (wsV RX7 222 RX7 yX7_isTaken wsX7_isTaken) := goodIn_app (goodIn_of _ (by decide +kernel)) ggX7_fight_X7_isTaken
theorem dX7_fight_0 : decode cX7_fight 0 = .ok (.aload_n 0, 1) := by decide +kernel
theorem dX7_fight_1 : decode cX7_fight 1 = .ok (.iload_n 1, 1) := by decide +kernel
theorem dX7_fight_2 : decode cX7_fight 2 = .ok (.invokevirtual 144, 3) := by decide +kernel
theorem dX7_fight_5 : decode cX7_fight 5 = .ok (.ifCond .eq 13, 3) := by decide +kernel
theorem dX7_fight_8 : decode cX7_fight 8 = .ok (.iload_n 2, 1) := by decide +kernel
theorem dX7_fight_9 : decode cX7_fight 9 = .ok (.iconst 1, 1) := by decide +kernel
theorem dX7_fight_10 : decode cX7_fight 10 = .ok (.bipush 6, 2) := by decide +kernel
theorem dX7_fight_12 : decode cX7_fight 12 = .ok (.invokestatic 93, 3) := by decide +kernel
theorem dX7_fight_15 : decode cX7_fight 15 = .ok (.ifCond .ne 6, 3) := by decide +kernel
theorem dX7_fight_18 : decode cX7_fight 18 = .ok (.bipush (-2), 2) := by decide +kernel
theorem dX7_fight_20 : decode cX7_fight 20 = .ok (.ireturn, 1) := by decide +kernel
theorem dX7_fight_21 : decode cX7_fight 21 = .ok (.aload_n 0, 1) := by decide +kernel
theorem dX7_fight_22 : decode cX7_fight 22 = .ok (.iload_n 1, 1) := by decide +kernel
theorem dX7_fight_23 : decode cX7_fight 23 = .ok (.invokevirtual 159, 3) := by decide +kernel
theorem dX7_fight_26 : decode cX7_fight 26 = .ok (.istore_n 3, 1) := by decide +kernel
theorem dX7_fight_27 : decode cX7_fight 27 = .ok (.iload_n 3, 1) := by decide +kernel
theorem dX7_fight_28 : decode cX7_fight 28 = .ok (.ifCond .ne 6, 3) := by decide +kernel
theorem dX7_fight_31 : decode cX7_fight 31 = .ok (.bipush (-3), 2) := by decide +kernel
theorem dX7_fight_33 : decode cX7_fight 33 = .ok (.ireturn, 1) := by decide +kernel
theorem dX7_fight_34 : decode cX7_fight 34 = .ok (.aload_n 0, 1) := by decide +kernel
theorem dX7_fight_35 : decode cX7_fight 35 = .ok (.iconst 0, 1) := by decide +kernel
theorem dX7_fight_36 : decode cX7_fight 36 = .ok (.putfield 183, 3) := by decide +kernel
theorem dX7_fight_39 : decode cX7_fight 39 = .ok (.aload_n 0, 1) := by decide +kernel
theorem dX7_fight_40 : decode cX7_fight 40 = .ok (.iconst 0, 1) := by decide +kernel
theorem dX7_fight_41 : decode cX7_fight 41 = .ok (.putfield 186, 3) := by decide +kernel
theorem dX7_fight_44 : decode cX7_fight 44 = .ok (.aload_n 0, 1) := by decide +kernel
theorem dX7_fight_45 : decode cX7_fight 45 = .ok (.iload_n 3, 1) := by decide +kernel
theorem dX7_fight_46 : decode cX7_fight 46 = .ok (.iload_n 1, 1) := by decide +kernel
theorem dX7_fight_47 : decode cX7_fight 47 = .ok (.iload_n 2, 1) := by decide +kernel
theorem dX7_fight_48 : decode cX7_fight 48 = .ok (.invokevirtual 222, 3) := by decide +kernel
theorem dX7_fight_51 : decode cX7_fight 51 = .ok (.istore 4, 2) := by decide +kernel
theorem dX7_fight_53 : decode cX7_fight 53 = .ok (.aload_n 0, 1) := by decide +kernel
theorem dX7_fight_54 : decode cX7_fight 54 = .ok (.getfield 186, 3) := by decide +kernel
theorem dX7_fight_57 : decode cX7_fight 57 = .ok (.ifCond .eq 6, 3) := by decide +kernel
theorem dX7_fight_60 : decode cX7_fight 60 = .ok (.bipush (-5), 2) := by decide +kernel
theorem dX7_fight_62 : decode cX7_fight 62 = .ok (.ireturn, 1) := by decide +kernel
theorem dX7_fight_63 : decode cX7_fight 63 = .ok (.aload_n 0, 1) := by decide +kernel
theorem dX7_fight_64 : decode cX7_fight 64 = .ok (.iload 4, 2) := by decide +kernel
theorem dX7_fight_66 : decode cX7_fight 66 = .ok (.ifCond .eq 27, 3) := by decide +kernel
theorem dX7_fight_69 : decode cX7_fight 69 = .ok (.aload_n 0, 1) := by decide +kernel
theorem dX7_fight_70 : decode cX7_fight 70 = .ok (.getfield 30, 3) := by decide +kernel
theorem dX7_fight_73 : decode cX7_fight 73 = .ok (.aload_n 0, 1) := by decide +kernel
theorem dX7_fight_74 : decode cX7_fight 74 = .ok (.getfield 86, 3) := by decide +kernel
theorem dX7_fight_77 : decode cX7_fight 77 = .ok (.iaload, 1) := by decide +kernel
theorem dX7_fight_78 : decode cX7_fight 78 = .ok (.iload_n 3, 1) := by decide +kernel
theorem dX7_fight_79 : decode cX7_fight 79 = .ok (.if_icmp .eq 14, 3) := by decide +kernel
theorem dX7_fight_82 : decode cX7_fight 82 = .ok (.aload_n 0, 1) := by decide +kernel
theorem dX7_fight_83 : decode cX7_fight 83 = .ok (.getfield 76, 3) := by decide +kernel
theorem dX7_fight_86 : decode cX7_fight 86 = .ok (.iconst 0, 1) := by decide +kernel
theorem dX7_fight_87 : decode cX7_fight 87 = .ok (.iaload, 1) := by decide +kernel
theorem dX7_fight_88 : decode cX7_fight 88 = .ok (.iconst 1, 1) := by decide +kernel
theorem dX7_fight_89 : decode cX7_fight 89 = .ok (.isub, 1) := by decide +kernel
theorem dX7_fight_90 : decode cX7_fight 90 = .ok (.goto 7, 3) := by decide +kernel
theorem dX7_fight_93 : decode cX7_fight 93 = .ok (.aload_n 0, 1) := by decide +kernel
theorem dX7_fight_94 : decode cX7_fight 94 = .ok (.getfield 73, 3) := by decide +kernel
theorem dX7_fight_97 : decode cX7_fight 97 = .ok (.putfield 73, 3) := by decide +kernel
theorem dX7_fight_100 : decode cX7_fight 100 = .ok (.iload 4, 2) := by decide +kernel
theorem dX7_fight_102 : decode cX7_fight 102 = .ok (.ifCond .eq 7, 3) := by decide +kernel
theorem dX7_fight_105 : decode cX7_fight 105 = .ok (.iconst 1, 1) := by decide +kernel
theorem dX7_fight_106 : decode cX7_fight 106 = .ok (.goto 4, 3) := by decide +kernel
theorem dX7_fight_109 : decode cX7_fight 109 = .ok (.iconst 0, 1) := by decide +kernel
theorem dX7_fight_110 : decode cX7_fight 110 = .ok (.ireturn, 1) := by decide +kernel
theorem dX7_tries_0 : decode cX7_tries 0 = .ok (.aload_n 0, 1) := by decide +kernel
theorem dX7_tries_1 : decode cX7_tries 1 = .ok (.getfield 183, 3) := by decide +kernel
theorem dX7_tries_4 : decode cX7_tries 4 = .ok (.ireturn, 1) := by decide +kernel
theorem dX7_first_0 : decode cX7_first 0 = .ok (.aload_n 0, 1) := by decide +kernel
theorem dX7_first_1 : decode cX7_first 1 = .ok (.getfield 73, 3) := by decide +kernel
theorem dX7_first_4 : decode cX7_first 4 = .ok (.ireturn, 1) := by decide +kernel
set_option maxRecDepth 20000 in
theorem ggX7_pointsOf_X7_free : GoodIn wsX7_pointsOf wsX7_free := goodIn_r _ [11, 4, 12, 13, 14, 10, 15, 16, 17, 18, 19, 20, 21, 41, 42, 43, 44, 45, 46, 47, 48, 49, 50, 51, 52, 53, 54, 55, 56, 57, 58, 59, 60, 61, 62, 63, 64, 65, 66, 67, 68, 69] (by decide +kernel) (by decide +kernel)
set_option maxRecDepth 20000 in
theorem gX7_pointsOf_X7_free : GoodIn wsX7_pointsOf (wsV RX7 129 RX7 yX7_free wsX7_free) := goodIn_app (goodIn_of _ (by decide +kernel)) ggX7_pointsOf_X7_free
set_option maxRecDepth 20000 in
theorem ggX7_pointsOf_X7_spread : GoodIn wsX7_pointsOf wsX7_spread := goodIn_r _ [25, 26, 27, 28, 10, 29, 30, 16, 17, 18, 19, 20, 21, 41, 42, 43, 44, 45, 46, 47, 48, 49, 50, 51, 52, 53, 54, 55, 56, 57, 58, 59, 60, 61, 62, 63, 64, 65, 66, 67, 68, 69] (by decide +kernel) (by decide +kernel)
set_option maxRecDepth 20000 in
theorem gX7_pointsOf_X7_spread : GoodIn wsX7_pointsOf (wsV RX7 111 RX7 yX7_spread wsX7_spread) := goodIn_app (goodIn_of _ (by decide +kernel)) ggX7_pointsOf_X7_spread
set_option maxRecDepth 20000 in
theorem ggX7_pointsOf_X7_around : GoodIn wsX7_pointsOf wsX7_around := goodIn_r _ [29, 30, 16, 17, 18, 10, 19, 20, 21, 41, 42, 43, 44, 45, 46, 47, 48, 49, 50, 51, 52, 53, 54, 55, 56, 57, 58, 59, 60, 61, 62, 63, 64, 65, 66, 67, 68, 69] (by decide +kernel) (by decide +kernel)
set_option maxRecDepth 20000 in
theorem gX7_pointsOf_X7_around : GoodIn wsX7_pointsOf (wsV RX7 97 RX7 yX7_around wsX7_around) := goodIn_app (goodIn_of _ (by decide +kernel)) ggX7_pointsOf_X7_around
set_option maxRecDepth 20000 in
theorem ggX7_pointsOf_X7_stones : GoodIn wsX7_pointsOf wsX7_stones := goodIn_r _ [34, 1, 2, 3, 41, 42, 43, 44, 45, 46, 47, 48, 49, 50, 51, 52, 53, 54, 55, 56, 57, 58, 59, 60, 61, 62, 63, 64, 65, 66, 67, 68, 69] (by decide +kernel) (by decide +kernel)
set_option maxRecDepth 20000 in
theorem gX7_pointsOf_X7_stones : GoodIn wsX7_pointsOf (wsV RX7 165 RX7 yX7_stones wsX7_stones) := goodIn_app (goodIn_of _ (by decide +kernel)) ggX7_pointsOf_X7_stones
set_option maxRecDepth 20000 in
theorem ggX7_pointsOf_X7_other : GoodIn wsX7_pointsOf wsX7_other := goodIn_r _ [37] (by decide +kernel) (by decide +kernel)
set_option maxRecDepth 20000 in
theorem gX7_pointsOf_X7_other : GoodIn wsX7_pointsOf (va_wsS RX7 132 yX7_other wsX7_other) := goodIn_app (goodIn_of _ (by decide +kernel)) ggX7_pointsOf_X7_other
set_option maxRecDepth 20000 in
theorem ggX7_pointsOf_X7_many : GoodIn wsX7_pointsOf wsX7_many := goodIn_r _ [40] (by decide +kernel) (by decide +kernel)
set_option maxRecDepth 20000 in
theorem gX7_pointsOf_X7_many : GoodIn wsX7_pointsOf (va_wsS RX7 115 yX7_many wsX7_many) := goodIn_app (goodIn_of _ (by decide +kernel)) ggX7_pointsOf_X7_many
theorem dX7_pointsOf_0 : decode cX7_pointsOf 0 = .ok (.aload_n 0, 1) := by decide +kernel
theorem dX7_pointsOf_1 : decode cX7_pointsOf 1 = .ok (.aload_n 0, 1) := by decide +kernel
theorem dX7_pointsOf_2 : decode cX7_pointsOf 2 = .ok (.getfield 24, 3) := by decide +kernel
theorem dX7_pointsOf_5 : decode cX7_pointsOf 5 = .ok (.aload_n 0, 1) := by decide +kernel
theorem dX7_pointsOf_6 : decode cX7_pointsOf 6 = .ok (.getfield 86, 3) := by decide +kernel
theorem dX7_pointsOf_9 : decode cX7_pointsOf 9 = .ok (.laload, 1) := by decide +kernel
theorem dX7_pointsOf_10 : decode cX7_pointsOf 10 = .ok (.aload_n 0, 1) := by decide +kernel
theorem dX7_pointsOf_11 : decode cX7_pointsOf 11 = .ok (.getfield 27, 3) := by decide +kernel
theorem dX7_pointsOf_14 : decode cX7_pointsOf 14 = .ok (.aload_n 0, 1) := by decide +kernel
theorem dX7_pointsOf_15 : decode cX7_pointsOf 15 = .ok (.getfield 86, 3) := by decide +kernel
theorem dX7_pointsOf_18 : decode cX7_pointsOf 18 = .ok (.laload, 1) := by decide +kernel
theorem dX7_pointsOf_19 : decode cX7_pointsOf 19 = .ok (.invokevirtual 129, 3) := by decide +kernel
theorem dX7_pointsOf_22 : decode cX7_pointsOf 22 = .ok (.lstore_n 3, 1) := by decide +kernel
theorem dX7_pointsOf_23 : decode cX7_pointsOf 23 = .ok (.lload_n 3, 1) := by decide +kernel
theorem dX7_pointsOf_24 : decode cX7_pointsOf 24 = .ok (.lstore 5, 2) := by decide +kernel
theorem dX7_pointsOf_26 : decode cX7_pointsOf 26 = .ok (.iconst 0, 1) := by decide +kernel
theorem dX7_pointsOf_27 : decode cX7_pointsOf 27 = .ok (.istore 7, 2) := by decide +kernel
theorem dX7_pointsOf_29 : decode cX7_pointsOf 29 = .ok (.lload 5, 2) := by decide +kernel
theorem dX7_pointsOf_31 : decode cX7_pointsOf 31 = .ok (.lconst 0, 1) := by decide +kernel
theorem dX7_pointsOf_32 : decode cX7_pointsOf 32 = .ok (.lcmp, 1) := by decide +kernel
theorem dX7_pointsOf_33 : decode cX7_pointsOf 33 = .ok (.ifCond .eq 81, 3) := by decide +kernel
theorem dX7_pointsOf_36 : decode cX7_pointsOf 36 = .ok (.aload_n 0, 1) := by decide +kernel
theorem dX7_pointsOf_37 : decode cX7_pointsOf 37 = .ok (.lload 5, 2) := by decide +kernel
theorem dX7_pointsOf_39 : decode cX7_pointsOf 39 = .ok (.lload 5, 2) := by decide +kernel
theorem dX7_pointsOf_41 : decode cX7_pointsOf 41 = .ok (.lneg, 1) := by decide +kernel
theorem dX7_pointsOf_42 : decode cX7_pointsOf 42 = .ok (.land, 1) := by decide +kernel
theorem dX7_pointsOf_43 : decode cX7_pointsOf 43 = .ok (.lload_n 3, 1) := by decide +kernel
theorem dX7_pointsOf_44 : decode cX7_pointsOf 44 = .ok (.invokevirtual 111, 3) := by decide +kernel
theorem dX7_pointsOf_47 : decode cX7_pointsOf 47 = .ok (.lstore 8, 2) := by decide +kernel
theorem dX7_pointsOf_49 : decode cX7_pointsOf 49 = .ok (.lload 5, 2) := by decide +kernel
theorem dX7_pointsOf_51 : decode cX7_pointsOf 51 = .ok (.lload 8, 2) := by decide +kernel
theorem dX7_pointsOf_53 : decode cX7_pointsOf 53 = .ok (.ldc2_w 105, 3) := by decide +kernel
theorem dX7_pointsOf_56 : decode cX7_pointsOf 56 = .ok (.lxor, 1) := by decide +kernel
theorem dX7_pointsOf_57 : decode cX7_pointsOf 57 = .ok (.land, 1) := by decide +kernel
theorem dX7_pointsOf_58 : decode cX7_pointsOf 58 = .ok (.lstore 5, 2) := by decide +kernel
theorem dX7_pointsOf_60 : decode cX7_pointsOf 60 = .ok (.aload_n 0, 1) := by decide +kernel
theorem dX7_pointsOf_61 : decode cX7_pointsOf 61 = .ok (.lload 8, 2) := by decide +kernel
theorem dX7_pointsOf_63 : decode cX7_pointsOf 63 = .ok (.invokevirtual 97, 3) := by decide +kernel
theorem dX7_pointsOf_66 : decode cX7_pointsOf 66 = .ok (.lstore 10, 2) := by decide +kernel
theorem dX7_pointsOf_68 : decode cX7_pointsOf 68 = .ok (.iload 7, 2) := by decide +kernel
theorem dX7_pointsOf_70 : decode cX7_pointsOf 70 = .ok (.lload 10, 2) := by decide +kernel
theorem dX7_pointsOf_72 : decode cX7_pointsOf 72 = .ok (.aload_n 0, 1) := by decide +kernel
theorem dX7_pointsOf_73 : decode cX7_pointsOf 73 = .ok (.iload_n 1, 1) := by decide +kernel
theorem dX7_pointsOf_74 : decode cX7_pointsOf 74 = .ok (.invokevirtual 165, 3) := by decide +kernel
theorem dX7_pointsOf_77 : decode cX7_pointsOf 77 = .ok (.land, 1) := by decide +kernel
theorem dX7_pointsOf_78 : decode cX7_pointsOf 78 = .ok (.lconst 0, 1) := by decide +kernel
theorem dX7_pointsOf_79 : decode cX7_pointsOf 79 = .ok (.lcmp, 1) := by decide +kernel
theorem dX7_pointsOf_80 : decode cX7_pointsOf 80 = .ok (.ifCond .eq 27, 3) := by decide +kernel
theorem dX7_pointsOf_83 : decode cX7_pointsOf 83 = .ok (.lload 10, 2) := by decide +kernel
theorem dX7_pointsOf_85 : decode cX7_pointsOf 85 = .ok (.aload_n 0, 1) := by decide +kernel
theorem dX7_pointsOf_86 : decode cX7_pointsOf 86 = .ok (.iload_n 1, 1) := by decide +kernel
theorem dX7_pointsOf_87 : decode cX7_pointsOf 87 = .ok (.invokestatic 132, 3) := by decide +kernel
theorem dX7_pointsOf_90 : decode cX7_pointsOf 90 = .ok (.invokevirtual 165, 3) := by decide +kernel
theorem dX7_pointsOf_93 : decode cX7_pointsOf 93 = .ok (.land, 1) := by decide +kernel
theorem dX7_pointsOf_94 : decode cX7_pointsOf 94 = .ok (.lconst 0, 1) := by decide +kernel
theorem dX7_pointsOf_95 : decode cX7_pointsOf 95 = .ok (.lcmp, 1) := by decide +kernel
theorem dX7_pointsOf_96 : decode cX7_pointsOf 96 = .ok (.ifCond .ne 11, 3) := by decide +kernel
theorem dX7_pointsOf_99 : decode cX7_pointsOf 99 = .ok (.lload 8, 2) := by decide +kernel
theorem dX7_pointsOf_101 : decode cX7_pointsOf 101 = .ok (.invokestatic 115, 3) := by decide +kernel
theorem dX7_pointsOf_104 : decode cX7_pointsOf 104 = .ok (.goto 4, 3) := by decide +kernel
theorem dX7_pointsOf_107 : decode cX7_pointsOf 107 = .ok (.iconst 0, 1) := by decide +kernel
theorem dX7_pointsOf_108 : decode cX7_pointsOf 108 = .ok (.iadd, 1) := by decide +kernel
theorem dX7_pointsOf_109 : decode cX7_pointsOf 109 = .ok (.istore 7, 2) := by decide +kernel
theorem dX7_pointsOf_111 : decode cX7_pointsOf 111 = .ok (.goto (-82), 3) := by decide +kernel
theorem dX7_pointsOf_114 : decode cX7_pointsOf 114 = .ok (.iload 7, 2) := by decide +kernel
theorem dX7_pointsOf_116 : decode cX7_pointsOf 116 = .ok (.iload_n 2, 1) := by decide +kernel
theorem dX7_pointsOf_117 : decode cX7_pointsOf 117 = .ok (.iconst 1, 1) := by decide +kernel
theorem dX7_pointsOf_118 : decode cX7_pointsOf 118 = .ok (.if_icmp .ne 14, 3) := by decide +kernel
theorem dX7_pointsOf_121 : decode cX7_pointsOf 121 = .ok (.aload_n 0, 1) := by decide +kernel
theorem dX7_pointsOf_122 : decode cX7_pointsOf 122 = .ok (.iload_n 1, 1) := by decide +kernel
theorem dX7_pointsOf_123 : decode cX7_pointsOf 123 = .ok (.invokevirtual 165, 3) := by decide +kernel
theorem dX7_pointsOf_126 : decode cX7_pointsOf 126 = .ok (.invokestatic 115, 3) := by decide +kernel
theorem dX7_pointsOf_129 : decode cX7_pointsOf 129 = .ok (.goto 29, 3) := by decide +kernel
theorem dX7_pointsOf_132 : decode cX7_pointsOf 132 = .ok (.iload_n 1, 1) := by decide +kernel
theorem dX7_pointsOf_133 : decode cX7_pointsOf 133 = .ok (.iconst 1, 1) := by decide +kernel
theorem dX7_pointsOf_134 : decode cX7_pointsOf 134 = .ok (.if_icmp .ne 15, 3) := by decide +kernel
theorem dX7_pointsOf_137 : decode cX7_pointsOf 137 = .ok (.aload_n 0, 1) := by decide +kernel
theorem dX7_pointsOf_138 : decode cX7_pointsOf 138 = .ok (.getfield 36, 3) := by decide +kernel
theorem dX7_pointsOf_141 : decode cX7_pointsOf 141 = .ok (.aload_n 0, 1) := by decide +kernel
theorem dX7_pointsOf_142 : decode cX7_pointsOf 142 = .ok (.getfield 86, 3) := by decide +kernel
theorem dX7_pointsOf_145 : decode cX7_pointsOf 145 = .ok (.iaload, 1) := by decide +kernel
theorem dX7_pointsOf_146 : decode cX7_pointsOf 146 = .ok (.goto 12, 3) := by decide +kernel
theorem dX7_pointsOf_149 : decode cX7_pointsOf 149 = .ok (.aload_n 0, 1) := by decide +kernel
theorem dX7_pointsOf_150 : decode cX7_pointsOf 150 = .ok (.getfield 33, 3) := by decide +kernel
theorem dX7_pointsOf_153 : decode cX7_pointsOf 153 = .ok (.aload_n 0, 1) := by decide +kernel
theorem dX7_pointsOf_154 : decode cX7_pointsOf 154 = .ok (.getfield 86, 3) := by decide +kernel
theorem dX7_pointsOf_157 : decode cX7_pointsOf 157 = .ok (.iaload, 1) := by decide +kernel
theorem dX7_pointsOf_158 : decode cX7_pointsOf 158 = .ok (.iadd, 1) := by decide +kernel
theorem dX7_pointsOf_159 : decode cX7_pointsOf 159 = .ok (.ireturn, 1) := by decide +kernel
set_option maxRecDepth 20000 in
theorem ggX7_points_X7_in : GoodIn wsX7_points wsX7_in := goodIn_r _ [4] (by decide +kernel) (by decide +kernel)
set_option maxRecDepth 20000 in
theorem gX7_points_X7_in : GoodIn wsX7_points (va_wsS RX7 93 yX7_in wsX7_in) := goodIn_app (goodIn_of _ (by decide +kernel)) ggX7_points_X7_in
set_option maxRecDepth 20000 in
theorem ggX7_points_X7_pointsOf : GoodIn wsX7_points wsX7_pointsOf := goodIn_r _ [8, 9, 10, 11, 12, 13, 14, 15, 16, 17, 3, 18, 19, 20, 21, 22, 23, 24, 25, 26, 27, 28, 29, 30, 31, 32, 33, 34, 35, 36, 37, 38, 39, 40, 41, 42, 43, 44, 45, 46, 47, 48, 49, 50, 51, 52, 53, 54, 55, 56, 57, 58, 59, 60, 61, 62, 63, 64, 65, 66, 67, 68, 69, 70, 71, 72, 73, 74, 75, 76] (by decide +kernel) (by decide +kernel)
set_option maxRecDepth 20000 in
theorem gX7_points_X7_pointsOf : GoodIn wsX7_points (wsV RX7 225 RX7 yX7_pointsOf wsX7_pointsOf) := goodIn_app (goodIn_of _ (by decide +kernel)) ggX7_points_X7_pointsOf
theorem dX7_points_0 : decode cX7_points 0 = .ok (.iload_n 1, 1) := by decide +kernel
theorem dX7_points_1 : decode cX7_points 1 = .ok (.iconst 1, 1) := by decide +kernel
theorem dX7_points_2 : decode cX7_points 2 = .ok (.iconst 2, 1) := by decide +kernel
theorem dX7_points_3 : decode cX7_points 3 = .ok (.invokestatic 93, 3) := by decide +kernel
theorem dX7_points_6 : decode cX7_points 6 = .ok (.ifCond .eq 21, 3) := by decide +kernel
theorem dX7_points_9 : decode cX7_points 9 = .ok (.iload_n 2, 1) := by decide +kernel
theorem dX7_points_10 : decode cX7_points 10 = .ok (.iconst 0, 1) := by decide +kernel
theorem dX7_points_11 : decode cX7_points 11 = .ok (.iconst 1, 1) := by decide +kernel
theorem dX7_points_12 : decode cX7_points 12 = .ok (.invokestatic 93, 3) := by decide +kernel
theorem dX7_points_15 : decode cX7_points 15 = .ok (.ifCond .eq 12, 3) := by decide +kernel
theorem dX7_points_18 : decode cX7_points 18 = .ok (.aload_n 0, 1) := by decide +kernel
theorem dX7_points_19 : decode cX7_points 19 = .ok (.iload_n 1, 1) := by decide +kernel
theorem dX7_points_20 : decode cX7_points 20 = .ok (.iload_n 2, 1) := by decide +kernel
theorem dX7_points_21 : decode cX7_points 21 = .ok (.invokevirtual 225, 3) := by decide +kernel
theorem dX7_points_24 : decode cX7_points 24 = .ok (.goto 5, 3) := by decide +kernel
theorem dX7_points_27 : decode cX7_points 27 = .ok (.bipush (-2), 2) := by decide +kernel
theorem dX7_points_29 : decode cX7_points 29 = .ok (.ireturn, 1) := by decide +kernel
set_option maxRecDepth 20000 in
theorem ggX7_count_X7_many : GoodIn wsX7_count wsX7_many := goodIn_r _ [13] (by decide +kernel) (by decide +kernel)
set_option maxRecDepth 20000 in
theorem gX7_count_X7_many : GoodIn wsX7_count (va_wsS RX7 115 yX7_many wsX7_many) := goodIn_app (goodIn_of _ (by decide +kernel)) ggX7_count_X7_many
set_option maxRecDepth 20000 in
theorem ggX7_count_X7_passes : GoodIn wsX7_count wsX7_passes := goodIn_r _ [17, 1, 18, 19, 20, 21, 12, 22, 7, 8, 23, 24, 25, 26, 27, 28, 29, 30, 31, 32, 33, 34, 35, 36, 37, 38, 39, 40, 41, 42, 43, 44, 45, 46, 47, 48, 49, 50, 51] (by decide +kernel) (by decide +kernel)
set_option maxRecDepth 20000 in
theorem gX7_count_X7_passes : GoodIn wsX7_count (wsV RX7 156 RX7 yX7_passes wsX7_passes) := goodIn_app (goodIn_of _ (by decide +kernel)) ggX7_count_X7_passes
theorem dX7_count_0 : decode cX7_count 0 = .ok (.iload_n 1, 1) := by decide +kernel
theorem dX7_count_1 : decode cX7_count 1 = .ok (.tableswitch 136 0 9 #[55, 60, 70, 83, 96, 106, 116, 121, 126, 131], 55) := by decide +kernel
theorem dX7_count_56 : decode cX7_count 56 = .ok (.aload_n 0, 1) := by decide +kernel
theorem dX7_count_57 : decode cX7_count 57 = .ok (.getfield 86, 3) := by decide +kernel
theorem dX7_count_60 : decode cX7_count 60 = .ok (.ireturn, 1) := by decide +kernel
theorem dX7_count_61 : decode cX7_count 61 = .ok (.aload_n 0, 1) := by decide +kernel
theorem dX7_count_62 : decode cX7_count 62 = .ok (.getfield 30, 3) := by decide +kernel
theorem dX7_count_65 : decode cX7_count 65 = .ok (.aload_n 0, 1) := by decide +kernel
theorem dX7_count_66 : decode cX7_count 66 = .ok (.getfield 86, 3) := by decide +kernel
theorem dX7_count_69 : decode cX7_count 69 = .ok (.iaload, 1) := by decide +kernel
theorem dX7_count_70 : decode cX7_count 70 = .ok (.ireturn, 1) := by decide +kernel
theorem dX7_count_71 : decode cX7_count 71 = .ok (.aload_n 0, 1) := by decide +kernel
theorem dX7_count_72 : decode cX7_count 72 = .ok (.getfield 24, 3) := by decide +kernel
theorem dX7_count_75 : decode cX7_count 75 = .ok (.aload_n 0, 1) := by decide +kernel
theorem dX7_count_76 : decode cX7_count 76 = .ok (.getfield 86, 3) := by decide +kernel
theorem dX7_count_79 : decode cX7_count 79 = .ok (.laload, 1) := by decide +kernel
theorem dX7_count_80 : decode cX7_count 80 = .ok (.invokestatic 115, 3) := by decide +kernel
theorem dX7_count_83 : decode cX7_count 83 = .ok (.ireturn, 1) := by decide +kernel
theorem dX7_count_84 : decode cX7_count 84 = .ok (.aload_n 0, 1) := by decide +kernel
theorem dX7_count_85 : decode cX7_count 85 = .ok (.getfield 27, 3) := by decide +kernel
theorem dX7_count_88 : decode cX7_count 88 = .ok (.aload_n 0, 1) := by decide +kernel
theorem dX7_count_89 : decode cX7_count 89 = .ok (.getfield 86, 3) := by decide +kernel
theorem dX7_count_92 : decode cX7_count 92 = .ok (.laload, 1) := by decide +kernel
theorem dX7_count_93 : decode cX7_count 93 = .ok (.invokestatic 115, 3) := by decide +kernel
theorem dX7_count_96 : decode cX7_count 96 = .ok (.ireturn, 1) := by decide +kernel
theorem dX7_count_97 : decode cX7_count 97 = .ok (.aload_n 0, 1) := by decide +kernel
theorem dX7_count_98 : decode cX7_count 98 = .ok (.getfield 33, 3) := by decide +kernel
theorem dX7_count_101 : decode cX7_count 101 = .ok (.aload_n 0, 1) := by decide +kernel
theorem dX7_count_102 : decode cX7_count 102 = .ok (.getfield 86, 3) := by decide +kernel
theorem dX7_count_105 : decode cX7_count 105 = .ok (.iaload, 1) := by decide +kernel
theorem dX7_count_106 : decode cX7_count 106 = .ok (.ireturn, 1) := by decide +kernel
theorem dX7_count_107 : decode cX7_count 107 = .ok (.aload_n 0, 1) := by decide +kernel
theorem dX7_count_108 : decode cX7_count 108 = .ok (.getfield 36, 3) := by decide +kernel
theorem dX7_count_111 : decode cX7_count 111 = .ok (.aload_n 0, 1) := by decide +kernel
theorem dX7_count_112 : decode cX7_count 112 = .ok (.getfield 86, 3) := by decide +kernel
theorem dX7_count_115 : decode cX7_count 115 = .ok (.iaload, 1) := by decide +kernel
theorem dX7_count_116 : decode cX7_count 116 = .ok (.ireturn, 1) := by decide +kernel
theorem dX7_count_117 : decode cX7_count 117 = .ok (.aload_n 0, 1) := by decide +kernel
theorem dX7_count_118 : decode cX7_count 118 = .ok (.invokevirtual 156, 3) := by decide +kernel
theorem dX7_count_121 : decode cX7_count 121 = .ok (.ireturn, 1) := by decide +kernel
theorem dX7_count_122 : decode cX7_count 122 = .ok (.aload_n 0, 1) := by decide +kernel
theorem dX7_count_123 : decode cX7_count 123 = .ok (.getfield 7, 3) := by decide +kernel
theorem dX7_count_126 : decode cX7_count 126 = .ok (.ireturn, 1) := by decide +kernel
theorem dX7_count_127 : decode cX7_count 127 = .ok (.aload_n 0, 1) := by decide +kernel
theorem dX7_count_128 : decode cX7_count 128 = .ok (.getfield 13, 3) := by decide +kernel
theorem dX7_count_131 : decode cX7_count 131 = .ok (.ireturn, 1) := by decide +kernel
theorem dX7_count_132 : decode cX7_count 132 = .ok (.aload_n 0, 1) := by decide +kernel
theorem dX7_count_133 : decode cX7_count 133 = .ok (.getfield 83, 3) := by decide +kernel
theorem dX7_count_136 : decode cX7_count 136 = .ok (.ireturn, 1) := by decide +kernel
theorem dX7_count_137 : decode cX7_count 137 = .ok (.bipush (-2), 2) := by decide +kernel
theorem dX7_count_139 : decode cX7_count 139 = .ok (.ireturn, 1) := by decide +kernel
set_option maxRecDepth 20000 in
theorem ggX7_act_X7_in : GoodIn wsX7_act wsX7_in := goodIn_r _ [6] (by decide +kernel) (by decide +kernel)
set_option maxRecDepth 20000 in
theorem gX7_act_X7_in : GoodIn wsX7_act (va_wsS RX7 93 yX7_in wsX7_in) := goodIn_app (goodIn_of _ (by decide +kernel)) ggX7_act_X7_in
theorem dX7_act_0 : decode cX7_act 0 = .ok (.iload_n 1, 1) := by decide +kernel
theorem dX7_act_1 : decode cX7_act 1 = .ok (.iconst 0, 1) := by decide +kernel
theorem dX7_act_2 : decode cX7_act 2 = .ok (.aload_n 0, 1) := by decide +kernel
theorem dX7_act_3 : decode cX7_act 3 = .ok (.getfield 86, 3) := by decide +kernel
theorem dX7_act_6 : decode cX7_act 6 = .ok (.iconst 1, 1) := by decide +kernel
theorem dX7_act_7 : decode cX7_act 7 = .ok (.isub, 1) := by decide +kernel
theorem dX7_act_8 : decode cX7_act 8 = .ok (.invokestatic 93, 3) := by decide +kernel
theorem dX7_act_11 : decode cX7_act 11 = .ok (.ifCond .eq 12, 3) := by decide +kernel
theorem dX7_act_14 : decode cX7_act 14 = .ok (.aload_n 0, 1) := by decide +kernel
theorem dX7_act_15 : decode cX7_act 15 = .ok (.getfield 20, 3) := by decide +kernel
theorem dX7_act_18 : decode cX7_act 18 = .ok (.iload_n 1, 1) := by decide +kernel
theorem dX7_act_19 : decode cX7_act 19 = .ok (.iaload, 1) := by decide +kernel
theorem dX7_act_20 : decode cX7_act 20 = .ok (.goto 4, 3) := by decide +kernel
theorem dX7_act_23 : decode cX7_act 23 = .ok (.iconst (-1), 1) := by decide +kernel
theorem dX7_act_24 : decode cX7_act 24 = .ok (.ireturn, 1) := by decide +kernel
set_option maxRecDepth 20000 in
theorem ggX7_digest_X7_count : GoodIn wsX7_digest wsX7_count := goodIn_r _ [9, 3, 10, 11, 12, 13, 14, 15, 16, 17, 18, 19, 8, 20, 21, 22, 23, 24, 4, 25, 26, 27, 28, 33, 34, 35, 36, 37, 38, 39, 40, 41, 42, 43, 44, 45, 46, 47, 48, 49, 50, 51, 52, 53, 54, 55, 56, 57, 58, 59, 60, 61] (by decide +kernel) (by decide +kernel)
set_option maxRecDepth 20000 in
theorem gX7_digest_X7_count : GoodIn wsX7_digest (wsV RX7 233 RX7 yX7_count wsX7_count) := goodIn_app (goodIn_of _ (by decide +kernel)) ggX7_digest_X7_count
set_option maxRecDepth 20000 in
theorem ggX7_digest_X7_size : GoodIn wsX7_digest wsX7_size := goodIn_r _ [28, 15, 16, 33, 34, 35, 36, 37, 38, 39, 40, 41, 42, 43, 44, 45, 46, 47, 48, 49, 50, 51, 52, 53, 54, 55, 56, 57, 58, 59, 60, 61] (by decide +kernel) (by decide +kernel)
set_option maxRecDepth 20000 in
theorem gX7_digest_X7_size : GoodIn wsX7_digest (wsV RX7 89 RX7 yX7_size wsX7_size) := goodIn_app (goodIn_of _ (by decide +kernel)) ggX7_digest_X7_size
set_option maxRecDepth 20000 in
theorem ggX7_digest_X7_atOf : GoodIn wsX7_digest wsX7_atOf := goodIn_r _ [32, 11, 3, 12, 33, 34, 35, 36, 37, 38, 39, 40, 41, 42, 43, 44, 45, 46, 47, 48, 49, 50, 51, 52, 53, 54, 55, 56, 57, 58, 59, 60, 61] (by decide +kernel) (by decide +kernel)
set_option maxRecDepth 20000 in
theorem gX7_digest_X7_atOf : GoodIn wsX7_digest (wsV RX7 159 RX7 yX7_atOf wsX7_atOf) := goodIn_app (goodIn_of _ (by decide +kernel)) ggX7_digest_X7_atOf
theorem dX7_digest_0 : decode cX7_digest 0 = .ok (.ldc2_w 229, 3) := by decide +kernel
theorem dX7_digest_3 : decode cX7_digest 3 = .ok (.lstore_n 1, 1) := by decide +kernel
theorem dX7_digest_4 : decode cX7_digest 4 = .ok (.iconst 0, 1) := by decide +kernel
theorem dX7_digest_5 : decode cX7_digest 5 = .ok (.istore_n 3, 1) := by decide +kernel
theorem dX7_digest_6 : decode cX7_digest 6 = .ok (.iload_n 3, 1) := by decide +kernel
theorem dX7_digest_7 : decode cX7_digest 7 = .ok (.bipush 10, 2) := by decide +kernel
theorem dX7_digest_9 : decode cX7_digest 9 = .ok (.if_icmp .ge 22, 3) := by decide +kernel
theorem dX7_digest_12 : decode cX7_digest 12 = .ok (.ldc2_w 231, 3) := by decide +kernel
theorem dX7_digest_15 : decode cX7_digest 15 = .ok (.lload_n 1, 1) := by decide +kernel
theorem dX7_digest_16 : decode cX7_digest 16 = .ok (.lmul, 1) := by decide +kernel
theorem dX7_digest_17 : decode cX7_digest 17 = .ok (.aload_n 0, 1) := by decide +kernel
theorem dX7_digest_18 : decode cX7_digest 18 = .ok (.iload_n 3, 1) := by decide +kernel
theorem dX7_digest_19 : decode cX7_digest 19 = .ok (.invokevirtual 233, 3) := by decide +kernel
theorem dX7_digest_22 : decode cX7_digest 22 = .ok (.i2l, 1) := by decide +kernel
theorem dX7_digest_23 : decode cX7_digest 23 = .ok (.ladd, 1) := by decide +kernel
theorem dX7_digest_24 : decode cX7_digest 24 = .ok (.lstore_n 1, 1) := by decide +kernel
theorem dX7_digest_25 : decode cX7_digest 25 = .ok (.iinc 3 1, 3) := by decide +kernel
theorem dX7_digest_28 : decode cX7_digest 28 = .ok (.goto (-22), 3) := by decide +kernel
theorem dX7_digest_31 : decode cX7_digest 31 = .ok (.iconst 0, 1) := by decide +kernel
theorem dX7_digest_32 : decode cX7_digest 32 = .ok (.istore_n 3, 1) := by decide +kernel
theorem dX7_digest_33 : decode cX7_digest 33 = .ok (.iload_n 3, 1) := by decide +kernel
theorem dX7_digest_34 : decode cX7_digest 34 = .ok (.aload_n 0, 1) := by decide +kernel
theorem dX7_digest_35 : decode cX7_digest 35 = .ok (.invokevirtual 89, 3) := by decide +kernel
theorem dX7_digest_38 : decode cX7_digest 38 = .ok (.if_icmp .ge 22, 3) := by decide +kernel
theorem dX7_digest_41 : decode cX7_digest 41 = .ok (.ldc2_w 231, 3) := by decide +kernel
theorem dX7_digest_44 : decode cX7_digest 44 = .ok (.lload_n 1, 1) := by decide +kernel
theorem dX7_digest_45 : decode cX7_digest 45 = .ok (.lmul, 1) := by decide +kernel
theorem dX7_digest_46 : decode cX7_digest 46 = .ok (.aload_n 0, 1) := by decide +kernel
theorem dX7_digest_47 : decode cX7_digest 47 = .ok (.iload_n 3, 1) := by decide +kernel
theorem dX7_digest_48 : decode cX7_digest 48 = .ok (.invokevirtual 159, 3) := by decide +kernel
theorem dX7_digest_51 : decode cX7_digest 51 = .ok (.i2l, 1) := by decide +kernel
theorem dX7_digest_52 : decode cX7_digest 52 = .ok (.ladd, 1) := by decide +kernel
theorem dX7_digest_53 : decode cX7_digest 53 = .ok (.lstore_n 1, 1) := by decide +kernel
theorem dX7_digest_54 : decode cX7_digest 54 = .ok (.iinc 3 1, 3) := by decide +kernel
theorem dX7_digest_57 : decode cX7_digest 57 = .ok (.goto (-24), 3) := by decide +kernel
theorem dX7_digest_60 : decode cX7_digest 60 = .ok (.iconst 0, 1) := by decide +kernel
theorem dX7_digest_61 : decode cX7_digest 61 = .ok (.istore_n 3, 1) := by decide +kernel
theorem dX7_digest_62 : decode cX7_digest 62 = .ok (.iload_n 3, 1) := by decide +kernel
theorem dX7_digest_63 : decode cX7_digest 63 = .ok (.aload_n 0, 1) := by decide +kernel
theorem dX7_digest_64 : decode cX7_digest 64 = .ok (.getfield 86, 3) := by decide +kernel
theorem dX7_digest_67 : decode cX7_digest 67 = .ok (.if_icmp .ge 23, 3) := by decide +kernel
theorem dX7_digest_70 : decode cX7_digest 70 = .ok (.ldc2_w 231, 3) := by decide +kernel
theorem dX7_digest_73 : decode cX7_digest 73 = .ok (.lload_n 1, 1) := by decide +kernel
theorem dX7_digest_74 : decode cX7_digest 74 = .ok (.lmul, 1) := by decide +kernel
theorem dX7_digest_75 : decode cX7_digest 75 = .ok (.aload_n 0, 1) := by decide +kernel
theorem dX7_digest_76 : decode cX7_digest 76 = .ok (.getfield 20, 3) := by decide +kernel
theorem dX7_digest_79 : decode cX7_digest 79 = .ok (.iload_n 3, 1) := by decide +kernel
theorem dX7_digest_80 : decode cX7_digest 80 = .ok (.iaload, 1) := by decide +kernel
theorem dX7_digest_81 : decode cX7_digest 81 = .ok (.i2l, 1) := by decide +kernel
theorem dX7_digest_82 : decode cX7_digest 82 = .ok (.ladd, 1) := by decide +kernel
theorem dX7_digest_83 : decode cX7_digest 83 = .ok (.lstore_n 1, 1) := by decide +kernel
theorem dX7_digest_84 : decode cX7_digest 84 = .ok (.iinc 3 1, 3) := by decide +kernel
theorem dX7_digest_87 : decode cX7_digest 87 = .ok (.goto (-25), 3) := by decide +kernel
theorem dX7_digest_90 : decode cX7_digest 90 = .ok (.lload_n 1, 1) := by decide +kernel
theorem dX7_digest_91 : decode cX7_digest 91 = .ok (.lreturn, 1) := by decide +kernel
theorem dJ13_bitCount_95d88_0 : decode cJ13_bitCount_95d88 0 = .ok (.lload_n 0, 1) := by decide +kernel
theorem dJ13_bitCount_95d88_1 : decode cJ13_bitCount_95d88 1 = .ok (.lload_n 0, 1) := by decide +kernel
theorem dJ13_bitCount_95d88_2 : decode cJ13_bitCount_95d88 2 = .ok (.iconst 1, 1) := by decide +kernel
theorem dJ13_bitCount_95d88_3 : decode cJ13_bitCount_95d88 3 = .ok (.lushr, 1) := by decide +kernel
theorem dJ13_bitCount_95d88_4 : decode cJ13_bitCount_95d88 4 = .ok (.ldc2_w 314, 3) := by decide +kernel
theorem dJ13_bitCount_95d88_7 : decode cJ13_bitCount_95d88 7 = .ok (.land, 1) := by decide +kernel
theorem dJ13_bitCount_95d88_8 : decode cJ13_bitCount_95d88 8 = .ok (.lsub, 1) := by decide +kernel
theorem dJ13_bitCount_95d88_9 : decode cJ13_bitCount_95d88 9 = .ok (.lstore_n 0, 1) := by decide +kernel
theorem dJ13_bitCount_95d88_10 : decode cJ13_bitCount_95d88 10 = .ok (.lload_n 0, 1) := by decide +kernel
theorem dJ13_bitCount_95d88_11 : decode cJ13_bitCount_95d88 11 = .ok (.ldc2_w 316, 3) := by decide +kernel
theorem dJ13_bitCount_95d88_14 : decode cJ13_bitCount_95d88 14 = .ok (.land, 1) := by decide +kernel
theorem dJ13_bitCount_95d88_15 : decode cJ13_bitCount_95d88 15 = .ok (.lload_n 0, 1) := by decide +kernel
theorem dJ13_bitCount_95d88_16 : decode cJ13_bitCount_95d88 16 = .ok (.iconst 2, 1) := by decide +kernel
theorem dJ13_bitCount_95d88_17 : decode cJ13_bitCount_95d88 17 = .ok (.lushr, 1) := by decide +kernel
theorem dJ13_bitCount_95d88_18 : decode cJ13_bitCount_95d88 18 = .ok (.ldc2_w 316, 3) := by decide +kernel
theorem dJ13_bitCount_95d88_21 : decode cJ13_bitCount_95d88 21 = .ok (.land, 1) := by decide +kernel
theorem dJ13_bitCount_95d88_22 : decode cJ13_bitCount_95d88 22 = .ok (.ladd, 1) := by decide +kernel
theorem dJ13_bitCount_95d88_23 : decode cJ13_bitCount_95d88 23 = .ok (.lstore_n 0, 1) := by decide +kernel
theorem dJ13_bitCount_95d88_24 : decode cJ13_bitCount_95d88 24 = .ok (.lload_n 0, 1) := by decide +kernel
theorem dJ13_bitCount_95d88_25 : decode cJ13_bitCount_95d88 25 = .ok (.lload_n 0, 1) := by decide +kernel
theorem dJ13_bitCount_95d88_26 : decode cJ13_bitCount_95d88 26 = .ok (.iconst 4, 1) := by decide +kernel
theorem dJ13_bitCount_95d88_27 : decode cJ13_bitCount_95d88 27 = .ok (.lushr, 1) := by decide +kernel
theorem dJ13_bitCount_95d88_28 : decode cJ13_bitCount_95d88 28 = .ok (.ladd, 1) := by decide +kernel
theorem dJ13_bitCount_95d88_29 : decode cJ13_bitCount_95d88 29 = .ok (.ldc2_w 318, 3) := by decide +kernel
theorem dJ13_bitCount_95d88_32 : decode cJ13_bitCount_95d88 32 = .ok (.land, 1) := by decide +kernel
theorem dJ13_bitCount_95d88_33 : decode cJ13_bitCount_95d88 33 = .ok (.lstore_n 0, 1) := by decide +kernel
theorem dJ13_bitCount_95d88_34 : decode cJ13_bitCount_95d88 34 = .ok (.lload_n 0, 1) := by decide +kernel
theorem dJ13_bitCount_95d88_35 : decode cJ13_bitCount_95d88 35 = .ok (.lload_n 0, 1) := by decide +kernel
theorem dJ13_bitCount_95d88_36 : decode cJ13_bitCount_95d88 36 = .ok (.bipush 8, 2) := by decide +kernel
theorem dJ13_bitCount_95d88_38 : decode cJ13_bitCount_95d88 38 = .ok (.lushr, 1) := by decide +kernel
theorem dJ13_bitCount_95d88_39 : decode cJ13_bitCount_95d88 39 = .ok (.ladd, 1) := by decide +kernel
theorem dJ13_bitCount_95d88_40 : decode cJ13_bitCount_95d88 40 = .ok (.lstore_n 0, 1) := by decide +kernel
theorem dJ13_bitCount_95d88_41 : decode cJ13_bitCount_95d88 41 = .ok (.lload_n 0, 1) := by decide +kernel
theorem dJ13_bitCount_95d88_42 : decode cJ13_bitCount_95d88 42 = .ok (.lload_n 0, 1) := by decide +kernel
theorem dJ13_bitCount_95d88_43 : decode cJ13_bitCount_95d88 43 = .ok (.bipush 16, 2) := by decide +kernel
theorem dJ13_bitCount_95d88_45 : decode cJ13_bitCount_95d88 45 = .ok (.lushr, 1) := by decide +kernel
theorem dJ13_bitCount_95d88_46 : decode cJ13_bitCount_95d88 46 = .ok (.ladd, 1) := by decide +kernel
theorem dJ13_bitCount_95d88_47 : decode cJ13_bitCount_95d88 47 = .ok (.lstore_n 0, 1) := by decide +kernel
theorem dJ13_bitCount_95d88_48 : decode cJ13_bitCount_95d88 48 = .ok (.lload_n 0, 1) := by decide +kernel
theorem dJ13_bitCount_95d88_49 : decode cJ13_bitCount_95d88 49 = .ok (.lload_n 0, 1) := by decide +kernel
theorem dJ13_bitCount_95d88_50 : decode cJ13_bitCount_95d88 50 = .ok (.bipush 32, 2) := by decide +kernel
theorem dJ13_bitCount_95d88_52 : decode cJ13_bitCount_95d88 52 = .ok (.lushr, 1) := by decide +kernel
theorem dJ13_bitCount_95d88_53 : decode cJ13_bitCount_95d88 53 = .ok (.ladd, 1) := by decide +kernel
theorem dJ13_bitCount_95d88_54 : decode cJ13_bitCount_95d88 54 = .ok (.lstore_n 0, 1) := by decide +kernel
theorem dJ13_bitCount_95d88_55 : decode cJ13_bitCount_95d88 55 = .ok (.lload_n 0, 1) := by decide +kernel
theorem dJ13_bitCount_95d88_56 : decode cJ13_bitCount_95d88 56 = .ok (.l2i, 1) := by decide +kernel
theorem dJ13_bitCount_95d88_57 : decode cJ13_bitCount_95d88 57 = .ok (.bipush 127, 2) := by decide +kernel
theorem dJ13_bitCount_95d88_59 : decode cJ13_bitCount_95d88 59 = .ok (.iand, 1) := by decide +kernel
theorem dJ13_bitCount_95d88_60 : decode cJ13_bitCount_95d88 60 = .ok (.ireturn, 1) := by decide +kernel
theorem dJ9_max_7cf53_0 : decode cJ9_max_7cf53 0 = .ok (.iload_n 0, 1) := by decide +kernel
theorem dJ9_max_7cf53_1 : decode cJ9_max_7cf53 1 = .ok (.iload_n 1, 1) := by decide +kernel
theorem dJ9_max_7cf53_2 : decode cJ9_max_7cf53 2 = .ok (.if_icmp .lt 7, 3) := by decide +kernel
theorem dJ9_max_7cf53_5 : decode cJ9_max_7cf53 5 = .ok (.iload_n 0, 1) := by decide +kernel
theorem dJ9_max_7cf53_6 : decode cJ9_max_7cf53 6 = .ok (.goto 4, 3) := by decide +kernel
theorem dJ9_max_7cf53_9 : decode cJ9_max_7cf53 9 = .ok (.iload_n 1, 1) := by decide +kernel
theorem dJ9_max_7cf53_10 : decode cJ9_max_7cf53 10 = .ok (.ireturn, 1) := by decide +kernel
abbrev vwCl : List vw_C := [(RX0, TX0, 5), (RX1, TX1, 6), (RX2, TX2, 6), (RX3, TX3, 1), (RX4, TX4, 9), (RX5, TX5, 1), (RX6, TX6, 7), (RX7, TX7, 29)]
end
section
/-! What the printed walks use: mirrors of the methods are functions into Option; a row takes a mirror's equation one step on. -/
def nm {α β : Type} (e : α) (f : α → Option β) : Option β := f e
theorem nm_use {α β : Type} {e x : α} {f : α → Option β} {r : β} (h : nm e f = some r) (hx : x = e) : f x = some r := by subst hx; exact h
theorem nm_ex {α β : Type} {e : α} {f : α → Option β} {r : β} (h : nm e f = some r) : ∃ K, K = e ∧ f K = some r := ⟨e, rfl, h⟩
theorem ite_p {β : Type} {c : Prop} {_ : Decidable c} {a b : Option β} {r : β} (h : (if c then a else b) = some r) (hc : c) : a = some r := by rw [if_pos hc] at h; exact h
theorem ite_n {β : Type} {c : Prop} {_ : Decidable c} {a b : Option β} {r : β} (h : (if c then a else b) = some r) (hc : ¬ c) : b = some r := by rw [if_neg hc] at h; exact h
theorem ite_g {β : Type} {c : Prop} {_ : Decidable c} {b : Option β} {r : β} (h : (if c then none else b) = some r) : (¬ c) ∧ b = some r := by
  by_cases hc : c
  · rw [if_pos hc] at h; cases h
  · rw [if_neg hc] at h; exact ⟨hc, h⟩
theorem bd_use {α β : Type} {x : Option α} {k : α → Option β} {r : β} (h : x.bind k = some r) : ∃ q, x = some q ∧ k q = some r := by
  cases x with
  | none => cases h
  | some q => exact ⟨q, rfl, h⟩
abbrev jshl (x : Int64) (y : Int32) : Int64 := x <<< (y.toInt64 &&& 63)
abbrev jshr (x : Int64) (y : Int32) : Int64 := x >>> (y.toInt64 &&& 63)
abbrev jushr (x : Int64) (y : Int32) : Int64 := (x.toUInt64 >>> (y.toInt64.toUInt64 &&& Int64.toUInt64 63)).toInt64
abbrev jmax (x y : Int32) : Int32 := if x < y then y else x
abbrev jrem (x y : Int32) : Int32 := x - x / y * y
theorem cmp_t {x y : Int64} (h : lg_cmp x y = 0) : x = y := (lg_cmp_eq x y).mp h
theorem cmp_f {x y : Int64} (h : ¬ lg_cmp x y = 0) : ¬ x = y := fun e => h ((lg_cmp_eq x y).mpr e)
theorem nar_z {x : Int32} (h : ¬ ¬ (x = 0 ∨ x = 1)) : narrow .boolean (.int x) = .int x := by
  rcases Decidable.not_not.mp h with rfl | rfl <;> rfl
theorem tb_ne {x k : Int32} (h : ¬ x = k) : ¬ x.toInt = k.toInt := fun e => h (Int32.toInt_inj.mp e)
/-- the links to a nest mate's private members -/
def NN (U : State) : Prop := va_Nw (.methodLinkNest RX4 78 yX6_other "EyeBoard") U ∧ va_Nw (.methodLinkNest RX0 45 yX6_other "EyeBoard") U ∧ va_Nw (.methodLinkNest RX6 11 yX2_init "EyeBoard") U ∧ va_Nw (.methodLinkNest RX6 44 yX5_init "EyeBoard") U
theorem NN.warm {s U : State} (hW : s.WarmedH U.vm) (h : NN s) : NN U := ⟨va_Nw.warmM hW h.1, va_Nw.warmM hW h.2.1, va_Nw.warmM hW h.2.2.1, va_Nw.warmM hW h.2.2.2⟩
theorem NN.same {u U : State} (h : u.vm = U.vm) (hN : NN u) : NN U := ⟨va_Nw.same rfl h hN.1, va_Nw.same rfl h hN.2.1, va_Nw.same rfl h hN.2.2.1, va_Nw.same rfl h hN.2.2.2⟩
/-- what a read-only method wants of its start -/
def PrP (D : va_G) (ws : va_W) (tys : List (ClassId × FieldType)) (av : List Value) : Array Value → State → Prop := va_Pc av (fun U => NN U ∧ va_P D vwCl ws U.heap ∧ va_K D vwCl tys U)
theorem PrP.blind {D : va_G} {ws : va_W} {tys : List (ClassId × FieldType)} {av : List Value} : FrameBlind (PrP D ws tys av) := fun a U g mk q => by
  obtain ⟨h0, hN, hP, hK⟩ := q
  exact ⟨h0, NN.same (u := U) (U := U.calling g mk a) rfl hN, hP, va_K.moved (u := U) (U := U.calling g mk a) (Vm.Alike.refl U.vm) hK⟩
/-- what a method that writes wants of its start, and what it leaves -/
def PrI (D : va_G) (ws : va_W) (tys : List (ClassId × FieldType)) (sz : Nat) (av : List Value) : Array Value → State → Prop := va_Pc av (fun U => NN U ∧ U.heap.size = sz ∧ va_P D vwCl ws U.heap ∧ va_K D vwCl tys U ∧ va_D (fun _ => True) ws)
theorem PrI.blind {D : va_G} {ws : va_W} {tys : List (ClassId × FieldType)} {sz : Nat} {av : List Value} : FrameBlind (PrI D ws tys sz av) := fun a U g mk q => by
  obtain ⟨h0, hN, hz, hP, hK, hD⟩ := q
  exact ⟨h0, NN.same (u := U) (U := U.calling g mk a) rfl hN, hz, hP, va_K.moved (u := U) (U := U.calling g mk a) (Vm.Alike.refl U.vm) hK, hD⟩
def QIi (D : va_G) (ws : va_W) (tys : List (ClassId × FieldType)) (sz : Nat) (r : Int32) (w1 : va_W) : Array Value → State → Outcome → State → Prop := va_Qi (fun x (_ : Unit) => x = r) (fun _ t => va_P D vwCl w1 t.heap ∧ va_K D vwCl tys t ∧ va_D (va_A ws sz) w1) (va_A ws sz)
def QIv (D : va_G) (ws : va_W) (tys : List (ClassId × FieldType)) (sz : Nat) (w1 : va_W) : Array Value → State → Outcome → State → Prop := va_Qv (fun (_ : Unit) => True) (fun _ t => va_P D vwCl w1 t.heap ∧ va_K D vwCl tys t ∧ va_D (va_A ws sz) w1) (va_A ws sz)
section BS
variable {p : Program} {l : Launch} {e : Env} {R : Room} {s : State} {m : MethodId} {args : Array Value} {below : List Frame} {meth : Method} {c : Code} {H H0 : Heap} {locs : List Loc} {cells slots : Nat} {Q : State → Prop}
variable {D : va_G} {ws wc w1 : va_W} {tys tc : List (ClassId × FieldType)} {A : Nat → Prop} {cc bytes : ByteArray} {nL maxL index n pc : Nat} {own C : String} {y : MethodName} {ret : Option FieldType} {rm : Room} {wsy Ts : List Cond} {b : Addr} {As rest st0 : List Value} {ls : Array Slot}
theorem pcV_i {q : Int32} (S : CallFix p m c cc nL s args Ts own) (hM : Met l y wsy rm (PrP D wc tc (.ref b :: As)) (vp_Si (fun x => x = q)) 0 0 (fun _ => False)) (cw : CallW R s args own C index y bytes maxL ret wsy rm 0 0 n)
    (hN : NN s) (hP : va_P D vwCl ws H) (hK : va_K D vwCl tys s) (hcs : cells ≤ R.cells ∧ slots ≤ R.slots) (iw : List Nat) (hiw : iw.filterMap (fun i => ws[i]?) = wc) (it : List Nat) (hit : it.filterMap (fun i => tys[i]?) = tc)
    (q0 ci : Nat) {T : u_T} {N : Nat} {fs : List Value} (hc : vwCl[ci]? = some (C, T, N)) (he : ws[q0]? = some (b, .inr (ci, fs))) (hn : As.length = n) (hls : ls.size = nL) (hst : st0 = As.reverse ++ .ref b :: rest) (hsum : (rest.map fun v => v.category).sum ≤ 8) (hdg : decode cc pc = .ok (.invokevirtual index, 3))
    (kk : W p l e R s m args below meth c H locs cells slots Q (F0 m (pc + 3) ls (.int q :: rest))) : W p l e R s m args below meth c H locs cells slots Q (F0 m pc ls st0) := by
  refine vp_callSi (W.runV (As := As) (rest := rest) S hM cw ⟨PrP.blind, va_recv hK hP hc he, fun U hU hW => ⟨rfl, NN.warm hW hN, by rw [hU]; exact hP.sub iw hiw, va_K.moved hW.alike (hK.sub it hit)⟩⟩ rfl hn hls hst (lv_room hsum) hdg hcs) (fun r er => ?_)
  subst er; exact kk
theorem pcV_l {q : Int64} (S : CallFix p m c cc nL s args Ts own) (hM : Met l y wsy rm (PrP D wc tc (.ref b :: As)) (vp_Sl (fun x => x = q)) 0 0 (fun _ => False)) (cw : CallW R s args own C index y bytes maxL ret wsy rm 0 0 n)
    (hN : NN s) (hP : va_P D vwCl ws H) (hK : va_K D vwCl tys s) (hcs : cells ≤ R.cells ∧ slots ≤ R.slots) (iw : List Nat) (hiw : iw.filterMap (fun i => ws[i]?) = wc) (it : List Nat) (hit : it.filterMap (fun i => tys[i]?) = tc)
    (q0 ci : Nat) {T : u_T} {N : Nat} {fs : List Value} (hc : vwCl[ci]? = some (C, T, N)) (he : ws[q0]? = some (b, .inr (ci, fs))) (hn : As.length = n) (hls : ls.size = nL) (hst : st0 = As.reverse ++ .ref b :: rest) (hsum : (rest.map fun v => v.category).sum ≤ 8) (hdg : decode cc pc = .ok (.invokevirtual index, 3))
    (kk : W p l e R s m args below meth c H locs cells slots Q (F0 m (pc + 3) ls (.long q :: rest))) : W p l e R s m args below meth c H locs cells slots Q (F0 m pc ls st0) := by
  refine vp_callSl (W.runV (As := As) (rest := rest) S hM cw ⟨PrP.blind, va_recv hK hP hc he, fun U hU hW => ⟨rfl, NN.warm hW hN, by rw [hU]; exact hP.sub iw hiw, va_K.moved hW.alike (hK.sub it hit)⟩⟩ rfl hn hls hst (lv_room hsum) hdg hcs) (fun r er => ?_)
  subst er; exact kk
theorem pcS_i {q : Int32} (S : CallFix p m c cc nL s args Ts own) (hM : Met l y wsy rm (PrP D [] [] As) (vp_Si (fun x => x = q)) 0 0 (fun _ => False)) (cw : CallB R s args own index y bytes maxL ret wsy rm 0 0 n ∧ (Cond.static y).before args s = true)
    (hN : NN s) (hP : va_P D vwCl ws H) (hK : va_K D vwCl tys s) (hcs : cells ≤ R.cells ∧ slots ≤ R.slots) (hn : As.length = n) (hls : ls.size = nL) (hst : st0 = As.reverse ++ rest) (hsum : (rest.map fun v => v.category).sum ≤ 8) (hdg : decode cc pc = .ok (.invokestatic index, 3))
    (kk : W p l e R s m args below meth c H locs cells slots Q (F0 m (pc + 3) ls (.int q :: rest))) : W p l e R s m args below meth c H locs cells slots Q (F0 m pc ls st0) := by
  refine vp_callSi (W.runS (As := As) (rest := rest) S hM cw ⟨PrP.blind, fun U hU hW => ⟨rfl, NN.warm hW hN, by rw [hU]; exact hP.sub [] rfl, va_K.moved hW.alike (hK.sub [] rfl)⟩⟩ rfl hn hls hst (lv_room hsum) hdg hcs) (fun r er => ?_)
  subst er; exact kk
theorem pcS_l {q : Int64} (S : CallFix p m c cc nL s args Ts own) (hM : Met l y wsy rm (PrP D [] [] As) (vp_Sl (fun x => x = q)) 0 0 (fun _ => False)) (cw : CallB R s args own index y bytes maxL ret wsy rm 0 0 n ∧ (Cond.static y).before args s = true)
    (hN : NN s) (hP : va_P D vwCl ws H) (hK : va_K D vwCl tys s) (hcs : cells ≤ R.cells ∧ slots ≤ R.slots) (hn : As.length = n) (hls : ls.size = nL) (hst : st0 = As.reverse ++ rest) (hsum : (rest.map fun v => v.category).sum ≤ 8) (hdg : decode cc pc = .ok (.invokestatic index, 3))
    (kk : W p l e R s m args below meth c H locs cells slots Q (F0 m (pc + 3) ls (.long q :: rest))) : W p l e R s m args below meth c H locs cells slots Q (F0 m pc ls st0) := by
  refine vp_callSl (W.runS (As := As) (rest := rest) S hM cw ⟨PrP.blind, fun U hU hW => ⟨rfl, NN.warm hW hN, by rw [hU]; exact hP.sub [] rfl, va_K.moved hW.alike (hK.sub [] rfl)⟩⟩ rfl hn hls hst (lv_room hsum) hdg hcs) (fun r er => ?_)
  subst er; exact kk
theorem pcN_i {q : Int32} {host : String} (S : CallFix p m c cc nL s args Ts own) (hM : Met l y wsy rm (PrP D [] [] As) (vp_Si (fun x => x = q)) 0 0 (fun _ => False)) (cw : va_CN R s args own index y host bytes maxL ret wsy rm 0 0 n ∧ (Cond.static y).before args s = true ∧ True)
    (hN : NN s) (hP : va_P D vwCl ws H) (hK : va_K D vwCl tys s) (hcs : cells ≤ R.cells ∧ slots ≤ R.slots) (hn : As.length = n) (hls : ls.size = nL) (hst : st0 = As.reverse ++ rest) (hsum : (rest.map fun v => v.category).sum ≤ 8) (hdg : decode cc pc = .ok (.invokestatic index, 3))
    (kk : W p l e R s m args below meth c H locs cells slots Q (F0 m (pc + 3) ls (.int q :: rest))) : W p l e R s m args below meth c H locs cells slots Q (F0 m pc ls st0) := by
  refine vp_callSi (va_Run.run (va_runSN (As := As) (rest := rest) S hM cw ⟨PrP.blind, fun U hU hW => ⟨rfl, NN.warm hW hN, by rw [hU]; exact hP.sub [] rfl, va_K.moved hW.alike (hK.sub [] rfl)⟩⟩ rfl hn hls hst (lv_room hsum) hdg hcs)) (fun r er => ?_)
  subst er; exact kk
/-- a call that writes: its cells, and the caller's rest, in the order 'perm' -/
theorem icV_i {r : Int32} {ws2 : va_W} (S : CallFix p m c cc nL s args Ts own) (hM : Met l y wsy rm (PrI D wc tc H.size (.ref b :: As)) (QIi D wc tc H.size r w1) 0 0 (va_A wc H.size)) (cw : CallW R s args own C index y bytes maxL ret wsy rm 0 0 n)
    (hN : NN s) (hP : va_P D vwCl ws H) (hK : va_K D vwCl tys s) (hD : va_D A ws) (hS : va_S A H0 H locs) (hA : ∀ q, H0.size ≤ q → A q) (hcs : cells ≤ R.cells ∧ slots ≤ R.slots) (iw ir perm : List Nat) (hiw : iw.filterMap (fun i => ws[i]?) = wc) (hiw2 : iw.map (fun i => ws[i]?) = wc.map some) (hnd : va_nd iw = true)
    (hir : ir.map (fun i => ws[i]?) = (ir.filterMap (fun i => ws[i]?)).map some) (hnr : va_nd ir = true) (hdis : ∀ i ∈ ir, i ∉ iw) (hpm : perm.filterMap (fun i => (ir.filterMap (fun i => ws[i]?) ++ w1)[i]?) = ws2) (hpm2 : perm.map (fun i => (ir.filterMap (fun i => ws[i]?) ++ w1)[i]?) = ws2.map some) (hnp : va_nd perm = true)
    (it : List Nat) (hit : it.filterMap (fun i => tys[i]?) = tc)
    (q0 ci : Nat) {T : u_T} {N : Nat} {fs : List Value} (hc : vwCl[ci]? = some (C, T, N)) (he : ws[q0]? = some (b, .inr (ci, fs))) (hn : As.length = n) (hls : ls.size = nL) (hst : st0 = As.reverse ++ .ref b :: rest) (hsum : (rest.map fun v => v.category).sum ≤ 8) (hdg : decode cc pc = .ok (.invokevirtual index, 3))
    (kk : ∀ (H1 : Heap) (locs1 : List Loc), va_P D vwCl ws2 H1 → va_D A ws2 → va_S A H0 H1 locs1 → W p l e R s m args below meth c H1 locs1 cells slots Q (F0 m (pc + 3) ls (.int r :: rest))) : W p l e R s m args below meth c H locs cells slots Q (F0 m pc ls st0) := by
  have hFc := va_free (wc := wc) hD hS hA iw hiw2
  refine va_calli (va_runV (As := As) (rest := rest) S hM cw ⟨PrI.blind, va_recv hK hP hc he, fun U hU hW => ⟨rfl, NN.warm hW hN, by rw [hU], by rw [hU]; exact hP.sub iw hiw, va_K.moved hW.alike (hK.sub it hit), (hD.sub iw hnd hiw2).weaken (fun _ _ _ _ => trivial)⟩⟩ rfl hn hls hst (lv_room hsum) hdg hcs) hS (fun q _ h => hFc q h) hFc (fun r' u t H1 locs1 ht hvm hw hB hz1 hk1 hS => ?_)
  obtain ⟨hP1, hK1, hD1⟩ := hB
  rw [ht] at hP1
  obtain ⟨hP, hD⟩ := va_join (wc := wc) hP hD iw ir hiw2 hir hnr hdis hk1 hFc hP1 hD1
  subst hw
  exact kk H1 locs1 (hP.sub perm hpm) (hD.sub perm hnp hpm2) hS
theorem icV_v {ws2 : va_W} (S : CallFix p m c cc nL s args Ts own) (hM : Met l y wsy rm (PrI D wc tc H.size (.ref b :: As)) (QIv D wc tc H.size w1) 0 0 (va_A wc H.size)) (cw : CallW R s args own C index y bytes maxL ret wsy rm 0 0 n)
    (hN : NN s) (hP : va_P D vwCl ws H) (hK : va_K D vwCl tys s) (hD : va_D A ws) (hS : va_S A H0 H locs) (hA : ∀ q, H0.size ≤ q → A q) (hcs : cells ≤ R.cells ∧ slots ≤ R.slots) (iw ir perm : List Nat) (hiw : iw.filterMap (fun i => ws[i]?) = wc) (hiw2 : iw.map (fun i => ws[i]?) = wc.map some) (hnd : va_nd iw = true)
    (hir : ir.map (fun i => ws[i]?) = (ir.filterMap (fun i => ws[i]?)).map some) (hnr : va_nd ir = true) (hdis : ∀ i ∈ ir, i ∉ iw) (hpm : perm.filterMap (fun i => (ir.filterMap (fun i => ws[i]?) ++ w1)[i]?) = ws2) (hpm2 : perm.map (fun i => (ir.filterMap (fun i => ws[i]?) ++ w1)[i]?) = ws2.map some) (hnp : va_nd perm = true)
    (it : List Nat) (hit : it.filterMap (fun i => tys[i]?) = tc)
    (q0 ci : Nat) {T : u_T} {N : Nat} {fs : List Value} (hc : vwCl[ci]? = some (C, T, N)) (he : ws[q0]? = some (b, .inr (ci, fs))) (hn : As.length = n) (hls : ls.size = nL) (hst : st0 = As.reverse ++ .ref b :: rest) (hsum : (rest.map fun v => v.category).sum ≤ 8) (hdg : decode cc pc = .ok (.invokevirtual index, 3))
    (kk : ∀ (H1 : Heap) (locs1 : List Loc), va_P D vwCl ws2 H1 → va_D A ws2 → va_S A H0 H1 locs1 → W p l e R s m args below meth c H1 locs1 cells slots Q (F0 m (pc + 3) ls rest)) : W p l e R s m args below meth c H locs cells slots Q (F0 m pc ls st0) := by
  have hFc := va_free (wc := wc) hD hS hA iw hiw2
  refine va_callv (va_runV (As := As) (rest := rest) S hM cw ⟨PrI.blind, va_recv hK hP hc he, fun U hU hW => ⟨rfl, NN.warm hW hN, by rw [hU], by rw [hU]; exact hP.sub iw hiw, va_K.moved hW.alike (hK.sub it hit), (hD.sub iw hnd hiw2).weaken (fun _ _ _ _ => trivial)⟩⟩ rfl hn hls hst (lv_room hsum) hdg hcs) hS (fun q _ h => hFc q h) hFc (fun u t H1 locs1 ht hvm hw hB hz1 hk1 hS => ?_)
  obtain ⟨hP1, hK1, hD1⟩ := hB
  rw [ht] at hP1
  obtain ⟨hP, hD⟩ := va_join (wc := wc) hP hD iw ir hiw2 hir hnr hdis hk1 hFc hP1 hD1
  exact kk H1 locs1 (hP.sub perm hpm) (hD.sub perm hnp hpm2) hS
end BS
section MK
variable {l : Launch} {y : MethodName} {wsy ws' : List Cond} {rm : Room} {D : va_G} {wc w1 : va_W} {tc : List (ClassId × FieldType)} {av : List Value} {cc : ByteArray} {nL sz : Nat}
/-- a read-only method's contract out of its body -/
theorem mkP_i {q : Int32} (hy : plainName y.cls = true) (hw : wsy = Cond.code y cc nL (some .int) :: ws') (hent : (lg_sl av).length ≤ nL)
    (body : ∀ (p : Program) (e : Env) (R : Room) (s : State) (m : MethodId) (args : Array Value) (below : List Frame) (meth : Method) (c : Code) (H : Heap) (Q : State → Prop) (ls : Array Slot), rm.frames ≤ R.frames → rm.locals ≤ R.locals → CallFix p m c cc nL s args wsy y.cls → NN s → va_P D vwCl wc H → va_K D vwCl tc s → lv_has ls nL (lv_args 0 av) →
      (∀ (pc : Nat) (ls : Array Slot), decode cc pc = .ok (.ireturn, 1) → W p l e R s m args below meth c H [] 0 0 Q (F0 m pc ls [.int q])) → W p l e R s m args below meth c H [] 0 0 Q (F0 m 0 ls [])) :
    Met l y wsy rm (PrP D wc tc av) (vp_Si (fun x => x = q)) 0 0 (fun _ => False) := by
  refine Met.ofW (cc := cc) (maxL := nL) (ret := some .int) hy hw ?_
  intro p e s m args below meth c s₁ B hml hv
  obtain ⟨rfl, hN, hP, hK⟩ := hv
  have hx := B.exec
  have hb := B.bytes
  have hret := B.returns
  have hts := atoms_spec (ws := wsy) B.pre
  have hown : s.vm.findClass y.cls = some m.cls := findClass_of_methodNamed B.named
  have hlocks := B.notSynchronized
  have hl := lv_entry av (n := nL) hent
  rw [lg_entry_eq]
  exact body p e _ s m _ below meth c s.heap _ _ (Nat.le_refl _) (Nat.le_refl _) ⟨hx, hb, hml, hown, hts⟩ hN hP hK hl (fun pc ls hd => W.iret hx hb hret (fun t ht hW => ⟨_, rfl, rfl, ht⟩) (fun q h => by cases h) hd)
theorem mkP_z {q : Int32} (hy : plainName y.cls = true) (hw : wsy = Cond.code y cc nL (some .boolean) :: ws') (hent : (lg_sl av).length ≤ nL)
    (body : ∀ (p : Program) (e : Env) (R : Room) (s : State) (m : MethodId) (args : Array Value) (below : List Frame) (meth : Method) (c : Code) (H : Heap) (Q : State → Prop) (ls : Array Slot), rm.frames ≤ R.frames → rm.locals ≤ R.locals → CallFix p m c cc nL s args wsy y.cls → NN s → va_P D vwCl wc H → va_K D vwCl tc s → lv_has ls nL (lv_args 0 av) →
      (∀ (pc : Nat) (ls : Array Slot), decode cc pc = .ok (.ireturn, 1) → narrow .boolean (.int q) = .int q → W p l e R s m args below meth c H [] 0 0 Q (F0 m pc ls [.int q])) → W p l e R s m args below meth c H [] 0 0 Q (F0 m 0 ls [])) :
    Met l y wsy rm (PrP D wc tc av) (vp_Si (fun x => x = q)) 0 0 (fun _ => False) := by
  refine Met.ofW (cc := cc) (maxL := nL) (ret := some .boolean) hy hw ?_
  intro p e s m args below meth c s₁ B hml hv
  obtain ⟨rfl, hN, hP, hK⟩ := hv
  have hx := B.exec
  have hb := B.bytes
  have hret := B.returns
  have hts := atoms_spec (ws := wsy) B.pre
  have hown : s.vm.findClass y.cls = some m.cls := findClass_of_methodNamed B.named
  have hlocks := B.notSynchronized
  have hl := lv_entry av (n := nL) hent
  rw [lg_entry_eq]
  exact body p e _ s m _ below meth c s.heap _ _ (Nat.le_refl _) (Nat.le_refl _) ⟨hx, hb, hml, hown, hts⟩ hN hP hK hl (fun pc ls hd hz => W.zret hx hb hret hz (fun t ht hW => ⟨_, rfl, rfl, ht⟩) (fun q h => by cases h) hd)
theorem mkP_l {q : Int64} (hy : plainName y.cls = true) (hw : wsy = Cond.code y cc nL (some .long) :: ws') (hent : (lg_sl av).length ≤ nL)
    (body : ∀ (p : Program) (e : Env) (R : Room) (s : State) (m : MethodId) (args : Array Value) (below : List Frame) (meth : Method) (c : Code) (H : Heap) (Q : State → Prop) (ls : Array Slot), rm.frames ≤ R.frames → rm.locals ≤ R.locals → CallFix p m c cc nL s args wsy y.cls → NN s → va_P D vwCl wc H → va_K D vwCl tc s → lv_has ls nL (lv_args 0 av) →
      (∀ (pc : Nat) (ls : Array Slot), decode cc pc = .ok (.lreturn, 1) → W p l e R s m args below meth c H [] 0 0 Q (F0 m pc ls [.long q])) → W p l e R s m args below meth c H [] 0 0 Q (F0 m 0 ls [])) :
    Met l y wsy rm (PrP D wc tc av) (vp_Sl (fun x => x = q)) 0 0 (fun _ => False) := by
  refine Met.ofW (cc := cc) (maxL := nL) (ret := some .long) hy hw ?_
  intro p e s m args below meth c s₁ B hml hv
  obtain ⟨rfl, hN, hP, hK⟩ := hv
  have hx := B.exec
  have hb := B.bytes
  have hret := B.returns
  have hts := atoms_spec (ws := wsy) B.pre
  have hown : s.vm.findClass y.cls = some m.cls := findClass_of_methodNamed B.named
  have hlocks := B.notSynchronized
  have hl := lv_entry av (n := nL) hent
  rw [lg_entry_eq]
  exact body p e _ s m _ below meth c s.heap _ _ (Nat.le_refl _) (Nat.le_refl _) ⟨hx, hb, hml, hown, hts⟩ hN hP hK hl (fun pc ls hd => W.lret hx hb hret (fun t ht hW => ⟨_, rfl, rfl, ht⟩) (fun q h => by cases h) hd)
/-- a writing method's contract out of its body -/
theorem mkI_i {r : Int32} (hy : plainName y.cls = true) (hw : wsy = Cond.code y cc nL (some .int) :: ws') (hent : (lg_sl av).length ≤ nL)
    (body : ∀ (p : Program) (e : Env) (R : Room) (s : State) (m : MethodId) (args : Array Value) (below : List Frame) (meth : Method) (c : Code) (H0 H : Heap) (locs : List Loc) (A : Nat → Prop) (Q : State → Prop) (ls : Array Slot), rm.frames ≤ R.frames → rm.locals ≤ R.locals → CallFix p m c cc nL s args wsy y.cls → NN s → va_P D vwCl wc H → va_K D vwCl tc s → va_D A wc → (∀ q, H0.size ≤ q → A q) → va_S A H0 H locs → lv_has ls nL (lv_args 0 av) →
      (∀ (H : Heap) (locs : List Loc) (pc : Nat) (ls : Array Slot), decode cc pc = .ok (.ireturn, 1) → va_P D vwCl w1 H → va_D A w1 → va_S A H0 H locs → W p l e R s m args below meth c H locs 0 0 Q (F0 m pc ls [.int r])) → W p l e R s m args below meth c H locs 0 0 Q (F0 m 0 ls [])) :
    Met l y wsy rm (PrI D wc tc sz av) (QIi D wc tc sz r w1) 0 0 (va_A wc sz) := by
  refine Met.ofW (cc := cc) (maxL := nL) (ret := some .int) hy hw ?_
  intro p e s m args below meth c s₁ B hml hv
  obtain ⟨rfl, hN, hsz, hP, hK, hD0⟩ := hv
  have hx := B.exec
  have hb := B.bytes
  have hret := B.returns
  have hts := atoms_spec (ws := wsy) B.pre
  have hown : s.vm.findClass y.cls = some m.cls := findClass_of_methodNamed B.named
  have hlocks := B.notSynchronized
  subst hsz
  have hD := hD0.self (sz := s.heap.size)
  have hl := lv_entry av (n := nL) hent
  rw [lg_entry_eq]
  exact body p e _ s m _ below meth c s.heap s.heap [] (va_A wc s.heap.size) _ _ (Nat.le_refl _) (Nat.le_refl _) ⟨hx, hb, hml, hown, hts⟩ hN hP hK hD (fun q h => Or.inr h) va_S.rf hl (fun H locs pc ls hd hP9 hD9 hS => W.iret hx hb hret (fun t ht hW => ⟨⟨_, (), rfl, rfl, by rw [ht]; exact hP9, va_K.moved hW.alike hK, hD9⟩, hS.F ht⟩) hS.2.2 hd)
theorem mkI_z {r : Int32} (hy : plainName y.cls = true) (hw : wsy = Cond.code y cc nL (some .boolean) :: ws') (hent : (lg_sl av).length ≤ nL)
    (body : ∀ (p : Program) (e : Env) (R : Room) (s : State) (m : MethodId) (args : Array Value) (below : List Frame) (meth : Method) (c : Code) (H0 H : Heap) (locs : List Loc) (A : Nat → Prop) (Q : State → Prop) (ls : Array Slot), rm.frames ≤ R.frames → rm.locals ≤ R.locals → CallFix p m c cc nL s args wsy y.cls → NN s → va_P D vwCl wc H → va_K D vwCl tc s → va_D A wc → (∀ q, H0.size ≤ q → A q) → va_S A H0 H locs → lv_has ls nL (lv_args 0 av) →
      (∀ (H : Heap) (locs : List Loc) (pc : Nat) (ls : Array Slot), decode cc pc = .ok (.ireturn, 1) → va_P D vwCl w1 H → va_D A w1 → va_S A H0 H locs → narrow .boolean (.int r) = .int r → W p l e R s m args below meth c H locs 0 0 Q (F0 m pc ls [.int r])) → W p l e R s m args below meth c H locs 0 0 Q (F0 m 0 ls [])) :
    Met l y wsy rm (PrI D wc tc sz av) (QIi D wc tc sz r w1) 0 0 (va_A wc sz) := by
  refine Met.ofW (cc := cc) (maxL := nL) (ret := some .boolean) hy hw ?_
  intro p e s m args below meth c s₁ B hml hv
  obtain ⟨rfl, hN, hsz, hP, hK, hD0⟩ := hv
  have hx := B.exec
  have hb := B.bytes
  have hret := B.returns
  have hts := atoms_spec (ws := wsy) B.pre
  have hown : s.vm.findClass y.cls = some m.cls := findClass_of_methodNamed B.named
  have hlocks := B.notSynchronized
  subst hsz
  have hD := hD0.self (sz := s.heap.size)
  have hl := lv_entry av (n := nL) hent
  rw [lg_entry_eq]
  exact body p e _ s m _ below meth c s.heap s.heap [] (va_A wc s.heap.size) _ _ (Nat.le_refl _) (Nat.le_refl _) ⟨hx, hb, hml, hown, hts⟩ hN hP hK hD (fun q h => Or.inr h) va_S.rf hl (fun H locs pc ls hd hP9 hD9 hS hz => W.zret hx hb hret hz (fun t ht hW => ⟨⟨_, (), rfl, rfl, by rw [ht]; exact hP9, va_K.moved hW.alike hK, hD9⟩, hS.F ht⟩) hS.2.2 hd)
theorem mkI_v (hy : plainName y.cls = true) (hw : wsy = Cond.code y cc nL none :: ws') (hent : (lg_sl av).length ≤ nL)
    (body : ∀ (p : Program) (e : Env) (R : Room) (s : State) (m : MethodId) (args : Array Value) (below : List Frame) (meth : Method) (c : Code) (H0 H : Heap) (locs : List Loc) (A : Nat → Prop) (Q : State → Prop) (ls : Array Slot), rm.frames ≤ R.frames → rm.locals ≤ R.locals → CallFix p m c cc nL s args wsy y.cls → NN s → va_P D vwCl wc H → va_K D vwCl tc s → va_D A wc → (∀ q, H0.size ≤ q → A q) → va_S A H0 H locs → lv_has ls nL (lv_args 0 av) →
      (∀ (H : Heap) (locs : List Loc) (pc : Nat) (ls : Array Slot), decode cc pc = .ok (.return_, 1) → va_P D vwCl w1 H → va_D A w1 → va_S A H0 H locs → W p l e R s m args below meth c H locs 0 0 Q (F0 m pc ls [])) → W p l e R s m args below meth c H locs 0 0 Q (F0 m 0 ls [])) :
    Met l y wsy rm (PrI D wc tc sz av) (QIv D wc tc sz w1) 0 0 (va_A wc sz) := by
  refine Met.ofW (cc := cc) (maxL := nL) (ret := none) hy hw ?_
  intro p e s m args below meth c s₁ B hml hv
  obtain ⟨rfl, hN, hsz, hP, hK, hD0⟩ := hv
  have hx := B.exec
  have hb := B.bytes
  have hret := B.returns
  have hts := atoms_spec (ws := wsy) B.pre
  have hown : s.vm.findClass y.cls = some m.cls := findClass_of_methodNamed B.named
  have hlocks := B.notSynchronized
  subst hsz
  have hD := hD0.self (sz := s.heap.size)
  have hl := lv_entry av (n := nL) hent
  rw [lg_entry_eq]
  exact body p e _ s m _ below meth c s.heap s.heap [] (va_A wc s.heap.size) _ _ (Nat.le_refl _) (Nat.le_refl _) ⟨hx, hb, hml, hown, hts⟩ hN hP hK hD (fun q h => Or.inr h) va_S.rf hl (fun H locs pc ls hd hP9 hD9 hS => W.vret hx hb hret (fun t ht hW => ⟨⟨(), rfl, trivial, by rw [ht]; exact hP9, va_K.moved hW.alike hK, hD9⟩, hS.F ht⟩) hS.2.2 hd)
end MK
end
section
abbrev wd_X2 (h_g : Nat) (g_width g_height g_size : Int32) (g_all g_notFirstColumn g_notLastColumn : Int64) : va_W := [(h_g, .inr (2, [.int g_width, .int g_height, .int g_size, .long g_all, .long g_notFirstColumn, .long g_notLastColumn]))]
abbrev td_X2  : List (ClassId × FieldType) := []
abbrev wd_X3 (h_life h_g : Nat) (g_width g_height g_size : Int32) (g_all g_notFirstColumn g_notLastColumn : Int64) : va_W := [(h_life, .inr (3, [.ref h_g])), (h_g, .inr (2, [.int g_width, .int g_height, .int g_size, .long g_all, .long g_notFirstColumn, .long g_notLastColumn]))]
abbrev td_X3  : List (ClassId × FieldType) := []
abbrev wd_X4 (h_row h_g h_bl h_wh h_ac : Nat) (c_bl c_wh c_ac : ClassId) (n_row : Nat) (row_law row_latest row_opener : Int32) (row_blackThen row_whiteThen : Int64) (g_width g_height g_size : Int32) (g_all g_notFirstColumn g_notLastColumn : Int64) (bl wh : Nat → Int64) (ac : Nat → Int32) : va_W := [(h_row, .inr (4, [.ref h_g, .ref h_bl, .ref h_wh, .ref h_ac, .int row_law, .int row_latest, .int row_opener, .long row_blackThen, .long row_whiteThen])), (h_g, .inr (2, [.int g_width, .int g_height, .int g_size, .long g_all, .long g_notFirstColumn, .long g_notLastColumn])), (h_bl, .inl (c_bl, n_row, .inr (.inl bl))), (h_wh, .inl (c_wh, n_row, .inr (.inl wh))), (h_ac, .inl (c_ac, n_row, .inl ac))]
abbrev td_X4 (c_bl c_wh c_ac : ClassId) : List (ClassId × FieldType) := [(c_bl, .long), (c_wh, .long), (c_ac, .int)]
abbrev wd_X5 (h_t : Nat) (t_made : Int32) : va_W := [(h_t, .inr (5, [.int t_made]))]
abbrev td_X5  : List (ClassId × FieldType) := []
abbrev wd_X0 (h_ch h_g h_row h_bl h_wh h_ac h_t : Nat) (c_bl c_wh c_ac : ClassId) (n_row : Nat) (ch_target ch_chased g_width g_height g_size : Int32) (g_all g_notFirstColumn g_notLastColumn : Int64) (row_law row_latest row_opener : Int32) (row_blackThen row_whiteThen : Int64) (bl wh : Nat → Int64) (ac : Nat → Int32) (t_made : Int32) : va_W := [(h_ch, .inr (0, [.ref h_g, .ref h_row, .ref h_t, .int ch_target, .int ch_chased])), (h_g, .inr (2, [.int g_width, .int g_height, .int g_size, .long g_all, .long g_notFirstColumn, .long g_notLastColumn])), (h_row, .inr (4, [.ref h_g, .ref h_bl, .ref h_wh, .ref h_ac, .int row_law, .int row_latest, .int row_opener, .long row_blackThen, .long row_whiteThen])), (h_bl, .inl (c_bl, n_row, .inr (.inl bl))), (h_wh, .inl (c_wh, n_row, .inr (.inl wh))), (h_ac, .inl (c_ac, n_row, .inl ac)), (h_t, .inr (5, [.int t_made]))]
abbrev td_X0 (c_bl c_wh c_ac : ClassId) : List (ClassId × FieldType) := [(c_bl, .long), (c_wh, .long), (c_ac, .int)]
abbrev wd_X0r (h_ch h_g h_row h_bl h_wh h_ac h_t h_grow h_gbl h_gwh h_gac : Nat) (c_bl c_wh c_ac c_gbl c_gwh c_gac : ClassId) (n_row n_grow : Nat) (ch_target ch_chased g_width g_height g_size : Int32) (g_all g_notFirstColumn g_notLastColumn : Int64) (row_law row_latest row_opener : Int32) (row_blackThen row_whiteThen : Int64) (bl wh : Nat → Int64) (ac : Nat → Int32) (t_made grow_law grow_latest grow_opener : Int32) (grow_blackThen grow_whiteThen : Int64) (gbl gwh : Nat → Int64) (gac : Nat → Int32) : va_W := [(h_ch, .inr (0, [.ref h_g, .ref h_row, .ref h_t, .int ch_target, .int ch_chased])), (h_g, .inr (2, [.int g_width, .int g_height, .int g_size, .long g_all, .long g_notFirstColumn, .long g_notLastColumn])), (h_row, .inr (4, [.ref h_g, .ref h_bl, .ref h_wh, .ref h_ac, .int row_law, .int row_latest, .int row_opener, .long row_blackThen, .long row_whiteThen])), (h_bl, .inl (c_bl, n_row, .inr (.inl bl))), (h_wh, .inl (c_wh, n_row, .inr (.inl wh))), (h_ac, .inl (c_ac, n_row, .inl ac)), (h_t, .inr (5, [.int t_made])), (h_grow, .inr (4, [.ref h_g, .ref h_gbl, .ref h_gwh, .ref h_gac, .int grow_law, .int grow_latest, .int grow_opener, .long grow_blackThen, .long grow_whiteThen])), (h_gbl, .inl (c_gbl, n_grow, .inr (.inl gbl))), (h_gwh, .inl (c_gwh, n_grow, .inr (.inl gwh))), (h_gac, .inl (c_gac, n_grow, .inl gac))]
abbrev td_X0r (c_bl c_wh c_ac c_gbl c_gwh c_gac : ClassId) : List (ClassId × FieldType) := [(c_bl, .long), (c_wh, .long), (c_ac, .int), (c_gbl, .long), (c_gwh, .long), (c_gac, .int)]
abbrev wd_X1 (h_fi h_g h_row h_bl h_wh h_ac h_t : Nat) (c_bl c_wh c_ac : ClassId) (n_row : Nat) (fi_target fi_attacked fi_decidingAct g_width g_height g_size : Int32) (g_all g_notFirstColumn g_notLastColumn : Int64) (row_law row_latest row_opener : Int32) (row_blackThen row_whiteThen : Int64) (bl wh : Nat → Int64) (ac : Nat → Int32) (t_made : Int32) : va_W := [(h_fi, .inr (1, [.ref h_g, .ref h_row, .ref h_t, .int fi_target, .int fi_attacked, .int fi_decidingAct])), (h_g, .inr (2, [.int g_width, .int g_height, .int g_size, .long g_all, .long g_notFirstColumn, .long g_notLastColumn])), (h_row, .inr (4, [.ref h_g, .ref h_bl, .ref h_wh, .ref h_ac, .int row_law, .int row_latest, .int row_opener, .long row_blackThen, .long row_whiteThen])), (h_bl, .inl (c_bl, n_row, .inr (.inl bl))), (h_wh, .inl (c_wh, n_row, .inr (.inl wh))), (h_ac, .inl (c_ac, n_row, .inl ac)), (h_t, .inr (5, [.int t_made]))]
abbrev td_X1 (c_bl c_wh c_ac : ClassId) : List (ClassId × FieldType) := [(c_bl, .long), (c_wh, .long), (c_ac, .int)]
abbrev wd_X6 (h_eb h_g h_row h_bl h_wh h_ac h_life h_t h_ch h_hrow h_hbl h_hwh h_hac h_fi : Nat) (c_bl c_wh c_ac c_hbl c_hwh c_hac : ClassId) (n_row n_hrow : Nat) (eb_winningAct g_width g_height g_size : Int32) (g_all g_notFirstColumn g_notLastColumn : Int64) (row_law row_latest row_opener : Int32) (row_blackThen row_whiteThen : Int64) (bl wh : Nat → Int64) (ac : Nat → Int32) (t_made ch_target ch_chased hrow_law hrow_latest hrow_opener : Int32) (hrow_blackThen hrow_whiteThen : Int64) (hbl hwh : Nat → Int64) (hac : Nat → Int32) (fi_target fi_attacked fi_decidingAct : Int32) : va_W := [(h_eb, .inr (6, [.ref h_g, .ref h_row, .ref h_life, .ref h_t, .ref h_ch, .ref h_fi, .int eb_winningAct])), (h_g, .inr (2, [.int g_width, .int g_height, .int g_size, .long g_all, .long g_notFirstColumn, .long g_notLastColumn])), (h_row, .inr (4, [.ref h_g, .ref h_bl, .ref h_wh, .ref h_ac, .int row_law, .int row_latest, .int row_opener, .long row_blackThen, .long row_whiteThen])), (h_bl, .inl (c_bl, n_row, .inr (.inl bl))), (h_wh, .inl (c_wh, n_row, .inr (.inl wh))), (h_ac, .inl (c_ac, n_row, .inl ac)), (h_life, .inr (3, [.ref h_g])), (h_t, .inr (5, [.int t_made])), (h_ch, .inr (0, [.ref h_g, .ref h_hrow, .ref h_t, .int ch_target, .int ch_chased])), (h_hrow, .inr (4, [.ref h_g, .ref h_hbl, .ref h_hwh, .ref h_hac, .int hrow_law, .int hrow_latest, .int hrow_opener, .long hrow_blackThen, .long hrow_whiteThen])), (h_hbl, .inl (c_hbl, n_hrow, .inr (.inl hbl))), (h_hwh, .inl (c_hwh, n_hrow, .inr (.inl hwh))), (h_hac, .inl (c_hac, n_hrow, .inl hac)), (h_fi, .inr (1, [.ref h_g, .ref h_row, .ref h_t, .int fi_target, .int fi_attacked, .int fi_decidingAct]))]
abbrev td_X6 (c_bl c_wh c_ac c_hbl c_hwh c_hac : ClassId) : List (ClassId × FieldType) := [(c_bl, .long), (c_wh, .long), (c_ac, .int), (c_hbl, .long), (c_hwh, .long), (c_hac, .int)]
abbrev wd_X7 (ad : Nat → Nat) (cA : Nat → ClassId) (mo_wide mo_high mo_law mo_acts : Int32) (mo_newBlack mo_newWhite : Int64) (mo_taken mo_triesMany mo_isSpent mo_found : Int32) (a_neighbours : Nat → Int64) (a_act : Nat → Int32) (a_blackAt a_whiteAt : Nat → Int64) (a_moveAt a_takenBlack a_takenWhite : Nat → Int32) (a_chaseBlack a_chaseWhite a_aheadBlack a_aheadWhite : Nat → Int64) (a_hasAhead : Nat → Int32) (a_breathsLeft a_laidBlack a_laidWhite a_answersLeft : Nat → Int64) (a_firstAnswer a_answering a_next : Nat → Int32) : va_W := [((ad 0), .inr (7, [.int mo_wide, .int mo_high, .int mo_law, .ref (ad 1), .int mo_acts, .ref (ad 2), .ref (ad 3), .ref (ad 4), .ref (ad 5), .ref (ad 6), .ref (ad 7), .long mo_newBlack, .long mo_newWhite, .int mo_taken, .int mo_triesMany, .int mo_isSpent, .ref (ad 8), .ref (ad 9), .ref (ad 10), .ref (ad 11), .ref (ad 12), .ref (ad 13), .ref (ad 14), .ref (ad 15), .ref (ad 16), .ref (ad 17), .ref (ad 18), .int mo_found, .ref (ad 19)])), ((ad 1), .inl ((cA 0), 49, .inr (.inl a_neighbours))), ((ad 2), .inl ((cA 1), 120, .inl a_act)), ((ad 3), .inl ((cA 2), 130, .inr (.inl a_blackAt))), ((ad 4), .inl ((cA 3), 130, .inr (.inl a_whiteAt))), ((ad 5), .inl ((cA 4), 130, .inl a_moveAt)), ((ad 6), .inl ((cA 5), 121, .inl a_takenBlack)), ((ad 7), .inl ((cA 6), 121, .inl a_takenWhite)), ((ad 8), .inl ((cA 7), 21, .inr (.inl a_chaseBlack))), ((ad 9), .inl ((cA 8), 21, .inr (.inl a_chaseWhite))), ((ad 10), .inl ((cA 9), 21, .inr (.inl a_aheadBlack))), ((ad 11), .inl ((cA 10), 21, .inr (.inl a_aheadWhite))), ((ad 12), .inl ((cA 11), 21, .inl a_hasAhead)), ((ad 13), .inl ((cA 12), 21, .inr (.inl a_breathsLeft))), ((ad 14), .inl ((cA 13), 21, .inr (.inl a_laidBlack))), ((ad 15), .inl ((cA 14), 21, .inr (.inl a_laidWhite))), ((ad 16), .inl ((cA 15), 21, .inr (.inl a_answersLeft))), ((ad 17), .inl ((cA 16), 21, .inl a_firstAnswer)), ((ad 18), .inl ((cA 17), 21, .inl a_answering)), ((ad 19), .inl ((cA 18), 7, .inl a_next))]
abbrev td_X7 (cA : Nat → ClassId) : List (ClassId × FieldType) := [((cA 0), .long), ((cA 1), .int), ((cA 2), .long), ((cA 3), .long), ((cA 4), .int), ((cA 5), .int), ((cA 6), .int), ((cA 7), .long), ((cA 8), .long), ((cA 9), .long), ((cA 10), .long), ((cA 11), .boolean), ((cA 12), .long), ((cA 13), .long), ((cA 14), .long), ((cA 15), .long), ((cA 16), .int), ((cA 17), .boolean), ((cA 18), .int)]
end
section
def f_X6_isSide  (a0 : Int32) : Option (Int32) :=
  if a0 < (2 : Int32) then (
    some ((0 : Int32))
  )
  else (
    if (7 : Int32) < a0 then (
      some ((0 : Int32))
    )
    else (
      some ((1 : Int32))
    )
  )

abbrev rm_X6_isSide : Room := { frames := 0, cells := 0, slots := 0, locals := 0 }
set_option maxHeartbeats 4000000 in
set_option maxRecDepth 100000 in
theorem c_X6_isSide (l : Launch) (dC : Nat → ClassId) (dI : Nat → Nat → Nat)  (a0 : Int32) (q : Int32) (hr : f_X6_isSide  a0 = some q) : Met l yX6_isSide wsX6_isSide rm_X6_isSide (PrP (dC, dI) [] [] [.int a0]) (vp_Si (fun x => x = q)) 0 0 (fun _ => False) := by
  refine mkP_z (cc := cX6_isSide) (nL := 1) (by decide) rfl (Nat.le_of_ble_eq_true rfl) ?_
  intro p e R s m args below meth c H Q ls hRf hRl S hN hP hK hl kret
  have hl : lv_has ls 1 [(0, .int a0)] := hl
  obtain ⟨hx, hb, hml, hown, hts⟩ := S
  have hown : s.vm.findClass RX6 = some m.cls := hown
  have S : CallFix p m c cX6_isSide 1 s args wsX6_isSide RX6 := ⟨hx, hb, hml, hown, hts⟩
  unfold f_X6_isSide at hr
  refine lv_iload_n hx hb dX6_isSide_0 rfl (lv_at hl 0 rfl) ?_
  refine lv_iconst (v := (2 : Int32)) hx hb dX6_isSide_1 (by decide) ?_
  refine lv_icmp_lt (tgt := 15) hx hb dX6_isSide_2 (by decide) (fun c1 => ?_) (fun c1 => ?_)
  · have hr := ite_p hr c1
    refine lv_iconst (v := (0 : Int32)) hx hb dX6_isSide_15 (by decide) ?_
    obtain rfl := Option.some.inj hr
    exact kret _ _ dX6_isSide_16 rfl
  · have hr := ite_n hr c1
    refine lv_iload_n hx hb dX6_isSide_5 rfl (lv_at hl 0 rfl) ?_
    refine lv_bipush (v := (7 : Int32)) hx hb dX6_isSide_6 (by decide) ?_
    refine lv_icmp_gt (tgt := 15) hx hb dX6_isSide_8 (by decide) (fun c2 => ?_) (fun c2 => ?_)
    · have hr := ite_p hr c2
      refine lv_iconst (v := (0 : Int32)) hx hb dX6_isSide_15 (by decide) ?_
      obtain rfl := Option.some.inj hr
      exact kret _ _ dX6_isSide_16 rfl
    · have hr := ite_n hr c2
      refine lv_iconst (v := (1 : Int32)) hx hb dX6_isSide_11 (by decide) ?_
      refine lv_goto (tgt := 16) hx hb dX6_isSide_12 (by decide) ?_
      obtain rfl := Option.some.inj hr
      exact kret _ _ dX6_isSide_16 rfl

def f_X6_isColour  (a0 : Int32) : Option (Int32) :=
  if a0 = (1 : Int32) then (
    some ((1 : Int32))
  )
  else (
    if a0 = (2 : Int32) then (
      some ((1 : Int32))
    )
    else (
      some ((0 : Int32))
    )
  )

abbrev rm_X6_isColour : Room := { frames := 0, cells := 0, slots := 0, locals := 0 }
set_option maxHeartbeats 4000000 in
set_option maxRecDepth 100000 in
theorem c_X6_isColour (l : Launch) (dC : Nat → ClassId) (dI : Nat → Nat → Nat)  (a0 : Int32) (q : Int32) (hr : f_X6_isColour  a0 = some q) : Met l yX6_isColour wsX6_isColour rm_X6_isColour (PrP (dC, dI) [] [] [.int a0]) (vp_Si (fun x => x = q)) 0 0 (fun _ => False) := by
  refine mkP_z (cc := cX6_isColour) (nL := 1) (by decide) rfl (Nat.le_of_ble_eq_true rfl) ?_
  intro p e R s m args below meth c H Q ls hRf hRl S hN hP hK hl kret
  have hl : lv_has ls 1 [(0, .int a0)] := hl
  obtain ⟨hx, hb, hml, hown, hts⟩ := S
  have hown : s.vm.findClass RX6 = some m.cls := hown
  have S : CallFix p m c cX6_isColour 1 s args wsX6_isColour RX6 := ⟨hx, hb, hml, hown, hts⟩
  unfold f_X6_isColour at hr
  refine lv_iload_n hx hb dX6_isColour_0 rfl (lv_at hl 0 rfl) ?_
  refine lv_iconst (v := (1 : Int32)) hx hb dX6_isColour_1 (by decide) ?_
  refine lv_icmp_eq (tgt := 10) hx hb dX6_isColour_2 (by decide) (fun c1 => ?_) (fun c1 => ?_)
  · have hr := ite_p hr c1
    refine lv_iconst (v := (1 : Int32)) hx hb dX6_isColour_10 (by decide) ?_
    refine lv_goto (tgt := 15) hx hb dX6_isColour_11 (by decide) ?_
    obtain rfl := Option.some.inj hr
    exact kret _ _ dX6_isColour_15 rfl
  · have hr := ite_n hr c1
    refine lv_iload_n hx hb dX6_isColour_5 rfl (lv_at hl 0 rfl) ?_
    refine lv_iconst (v := (2 : Int32)) hx hb dX6_isColour_6 (by decide) ?_
    refine lv_icmp_ne (tgt := 14) hx hb dX6_isColour_7 (by decide) (fun c2 => ?_) (fun c2 => ?_)
    · have hr := ite_n hr c2
      refine lv_iconst (v := (0 : Int32)) hx hb dX6_isColour_14 (by decide) ?_
      obtain rfl := Option.some.inj hr
      exact kret _ _ dX6_isColour_15 rfl
    · have hr := ite_p hr c2
      refine lv_iconst (v := (1 : Int32)) hx hb dX6_isColour_10 (by decide) ?_
      refine lv_goto (tgt := 15) hx hb dX6_isColour_11 (by decide) ?_
      obtain rfl := Option.some.inj hr
      exact kret _ _ dX6_isColour_15 rfl

def f_X6_other  (a0 : Int32) : Option (Int32) :=
  some ((3 : Int32) - a0)

abbrev rm_X6_other : Room := { frames := 0, cells := 0, slots := 0, locals := 0 }
set_option maxHeartbeats 4000000 in
set_option maxRecDepth 100000 in
theorem c_X6_other (l : Launch) (dC : Nat → ClassId) (dI : Nat → Nat → Nat)  (a0 : Int32) (q : Int32) (hr : f_X6_other  a0 = some q) : Met l yX6_other wsX6_other rm_X6_other (PrP (dC, dI) [] [] [.int a0]) (vp_Si (fun x => x = q)) 0 0 (fun _ => False) := by
  refine mkP_i (cc := cX6_other) (nL := 1) (by decide) rfl (Nat.le_of_ble_eq_true rfl) ?_
  intro p e R s m args below meth c H Q ls hRf hRl S hN hP hK hl kret
  have hl : lv_has ls 1 [(0, .int a0)] := hl
  obtain ⟨hx, hb, hml, hown, hts⟩ := S
  have hown : s.vm.findClass RX6 = some m.cls := hown
  have S : CallFix p m c cX6_other 1 s args wsX6_other RX6 := ⟨hx, hb, hml, hown, hts⟩
  unfold f_X6_other at hr
  refine lv_iconst (v := (3 : Int32)) hx hb dX6_other_0 (by decide) ?_
  refine lv_iload_n hx hb dX6_other_1 rfl (lv_at hl 0 rfl) ?_
  refine lv_isub hx hb dX6_other_2 ?_
  obtain rfl := Option.some.inj hr
  exact kret _ _ dX6_other_3

def f_J13_bitCount_95d88  (a0 : Int64) : Option (Int32) :=
  nm (a0 - ((jushr a0 (1 : Int32)) &&& (6148914691236517205 : Int64))) fun x1 =>
  nm ((x1 &&& (3689348814741910323 : Int64)) + ((jushr x1 (2 : Int32)) &&& (3689348814741910323 : Int64))) fun x2 =>
  nm ((x2 + (jushr x2 (4 : Int32))) &&& (1085102592571150095 : Int64)) fun x3 =>
  nm (x3 + (jushr x3 (8 : Int32))) fun x4 =>
  nm (x4 + (jushr x4 (16 : Int32))) fun x5 =>
  nm (x5 + (jushr x5 (32 : Int32))) fun x6 =>
  some (x6.toInt32 &&& (127 : Int32))

abbrev rm_J13_bitCount_95d88 : Room := { frames := 0, cells := 0, slots := 0, locals := 0 }
set_option maxHeartbeats 4000000 in
set_option maxRecDepth 100000 in
theorem c_J13_bitCount_95d88 (l : Launch) (dC : Nat → ClassId) (dI : Nat → Nat → Nat)  (a0 : Int64) (q : Int32) (hr : f_J13_bitCount_95d88  a0 = some q) : Met l yJ13_bitCount_95d88 wsJ13_bitCount_95d88 rm_J13_bitCount_95d88 (PrP (dC, dI) [] [] [.long a0]) (vp_Si (fun x => x = q)) 0 0 (fun _ => False) := by
  refine mkP_i (cc := cJ13_bitCount_95d88) (nL := 2) (by decide) rfl (Nat.le_of_ble_eq_true rfl) ?_
  intro p e R s m args below meth c H Q ls hRf hRl S hN hP hK hl kret
  have hl : lv_has ls 2 [(0, .long a0)] := hl
  obtain ⟨hx, hb, hml, hown, hts⟩ := S
  have hown : s.vm.findClass RJ13 = some m.cls := hown
  have S : CallFix p m c cJ13_bitCount_95d88 2 s args wsJ13_bitCount_95d88 RJ13 := ⟨hx, hb, hml, hown, hts⟩
  have hk314 := hts (.constantLong RJ13 314 (6148914691236517205 : Int64)) (by decide +kernel)
  have hk316 := hts (.constantLong RJ13 316 (3689348814741910323 : Int64)) (by decide +kernel)
  have hk318 := hts (.constantLong RJ13 318 (1085102592571150095 : Int64)) (by decide +kernel)
  unfold f_J13_bitCount_95d88 at hr
  refine lv_lload_n hx hb dJ13_bitCount_95d88_0 rfl (lv_at hl 0 rfl) ?_
  refine lv_lload_n hx hb dJ13_bitCount_95d88_1 rfl (lv_at hl 0 rfl) ?_
  refine lv_iconst (v := (1 : Int32)) hx hb dJ13_bitCount_95d88_2 (by decide) ?_
  refine lv_lushr (v := jushr a0 (1 : Int32)) hx hb dJ13_bitCount_95d88_3 rfl ?_
  refine W.ldc2 (v := (6148914691236517205 : Int64)) hx hb hown hk314 rfl dJ13_bitCount_95d88_4 ?_
  refine W.eq (g2 := F0 m 7 ls [.long (6148914691236517205 : Int64), .long (jushr a0 (1 : Int32)), .long a0]) rfl ?_
  refine lv_land hx hb dJ13_bitCount_95d88_7 ?_
  refine lv_lsub hx hb dJ13_bitCount_95d88_8 ?_
  refine lv_topl (fun x1 ex1 => ?_)
  have hr := nm_use hr ex1
  refine lv_lstore_n (lv' := [(0, .long x1)]) hx hb dJ13_bitCount_95d88_9 rfl hl (by decide) rfl (fun ls hl => ?_)
  refine lv_lload_n hx hb dJ13_bitCount_95d88_10 rfl (lv_at hl 0 rfl) ?_
  refine W.ldc2 (v := (3689348814741910323 : Int64)) hx hb hown hk316 rfl dJ13_bitCount_95d88_11 ?_
  refine W.eq (g2 := F0 m 14 ls [.long (3689348814741910323 : Int64), .long x1]) rfl ?_
  refine lv_land hx hb dJ13_bitCount_95d88_14 ?_
  refine lv_lload_n hx hb dJ13_bitCount_95d88_15 rfl (lv_at hl 0 rfl) ?_
  refine lv_iconst (v := (2 : Int32)) hx hb dJ13_bitCount_95d88_16 (by decide) ?_
  refine lv_lushr (v := jushr x1 (2 : Int32)) hx hb dJ13_bitCount_95d88_17 rfl ?_
  refine W.ldc2 (v := (3689348814741910323 : Int64)) hx hb hown hk316 rfl dJ13_bitCount_95d88_18 ?_
  refine W.eq (g2 := F0 m 21 ls [.long (3689348814741910323 : Int64), .long (jushr x1 (2 : Int32)), .long (x1 &&& (3689348814741910323 : Int64))]) rfl ?_
  refine lv_land hx hb dJ13_bitCount_95d88_21 ?_
  refine lv_ladd hx hb dJ13_bitCount_95d88_22 ?_
  refine lv_topl (fun x2 ex2 => ?_)
  have hr := nm_use hr ex2
  refine lv_lstore_n (lv' := [(0, .long x2)]) hx hb dJ13_bitCount_95d88_23 rfl hl (by decide) rfl (fun ls hl => ?_)
  refine lv_lload_n hx hb dJ13_bitCount_95d88_24 rfl (lv_at hl 0 rfl) ?_
  refine lv_lload_n hx hb dJ13_bitCount_95d88_25 rfl (lv_at hl 0 rfl) ?_
  refine lv_iconst (v := (4 : Int32)) hx hb dJ13_bitCount_95d88_26 (by decide) ?_
  refine lv_lushr (v := jushr x2 (4 : Int32)) hx hb dJ13_bitCount_95d88_27 rfl ?_
  refine lv_ladd hx hb dJ13_bitCount_95d88_28 ?_
  refine W.ldc2 (v := (1085102592571150095 : Int64)) hx hb hown hk318 rfl dJ13_bitCount_95d88_29 ?_
  refine W.eq (g2 := F0 m 32 ls [.long (1085102592571150095 : Int64), .long (x2 + (jushr x2 (4 : Int32)))]) rfl ?_
  refine lv_land hx hb dJ13_bitCount_95d88_32 ?_
  refine lv_topl (fun x3 ex3 => ?_)
  have hr := nm_use hr ex3
  refine lv_lstore_n (lv' := [(0, .long x3)]) hx hb dJ13_bitCount_95d88_33 rfl hl (by decide) rfl (fun ls hl => ?_)
  refine lv_lload_n hx hb dJ13_bitCount_95d88_34 rfl (lv_at hl 0 rfl) ?_
  refine lv_lload_n hx hb dJ13_bitCount_95d88_35 rfl (lv_at hl 0 rfl) ?_
  refine lv_bipush (v := (8 : Int32)) hx hb dJ13_bitCount_95d88_36 (by decide) ?_
  refine lv_lushr (v := jushr x3 (8 : Int32)) hx hb dJ13_bitCount_95d88_38 rfl ?_
  refine lv_ladd hx hb dJ13_bitCount_95d88_39 ?_
  refine lv_topl (fun x4 ex4 => ?_)
  have hr := nm_use hr ex4
  refine lv_lstore_n (lv' := [(0, .long x4)]) hx hb dJ13_bitCount_95d88_40 rfl hl (by decide) rfl (fun ls hl => ?_)
  refine lv_lload_n hx hb dJ13_bitCount_95d88_41 rfl (lv_at hl 0 rfl) ?_
  refine lv_lload_n hx hb dJ13_bitCount_95d88_42 rfl (lv_at hl 0 rfl) ?_
  refine lv_bipush (v := (16 : Int32)) hx hb dJ13_bitCount_95d88_43 (by decide) ?_
  refine lv_lushr (v := jushr x4 (16 : Int32)) hx hb dJ13_bitCount_95d88_45 rfl ?_
  refine lv_ladd hx hb dJ13_bitCount_95d88_46 ?_
  refine lv_topl (fun x5 ex5 => ?_)
  have hr := nm_use hr ex5
  refine lv_lstore_n (lv' := [(0, .long x5)]) hx hb dJ13_bitCount_95d88_47 rfl hl (by decide) rfl (fun ls hl => ?_)
  refine lv_lload_n hx hb dJ13_bitCount_95d88_48 rfl (lv_at hl 0 rfl) ?_
  refine lv_lload_n hx hb dJ13_bitCount_95d88_49 rfl (lv_at hl 0 rfl) ?_
  refine lv_bipush (v := (32 : Int32)) hx hb dJ13_bitCount_95d88_50 (by decide) ?_
  refine lv_lushr (v := jushr x5 (32 : Int32)) hx hb dJ13_bitCount_95d88_52 rfl ?_
  refine lv_ladd hx hb dJ13_bitCount_95d88_53 ?_
  refine lv_topl (fun x6 ex6 => ?_)
  have hr := nm_use hr ex6
  refine lv_lstore_n (lv' := [(0, .long x6)]) hx hb dJ13_bitCount_95d88_54 rfl hl (by decide) rfl (fun ls hl => ?_)
  refine lv_lload_n hx hb dJ13_bitCount_95d88_55 rfl (lv_at hl 0 rfl) ?_
  refine lv_l2i hx hb dJ13_bitCount_95d88_56 rfl ?_
  refine lv_bipush (v := (127 : Int32)) hx hb dJ13_bitCount_95d88_57 (by decide) ?_
  refine lv_iand hx hb dJ13_bitCount_95d88_59 ?_
  obtain rfl := Option.some.inj hr
  exact kret _ _ dJ13_bitCount_95d88_60

def lp_X2_measure_34 (a0 : Int32) (a1 : Int32) (K4 : Int64 → Option (Int32 × Int32 × Int32 × Int64 × Int64 × Int64)) : Nat → Int64 → Int32 → Option (Int32 × Int32 × Int32 × Int64 × Int64 × Int64)
  | 0, _, _ => none
  | nF + 1, v7, v8 =>
    if a1 ≤ v8 then (
      K4 v7
    )
    else (
      nm (v7 ||| (jshl (1 : Int64) (v8 * a0))) fun x10 =>
      nm (v8 + 1) fun x11 =>
      lp_X2_measure_34 a0 a1 K4 nF x10 x11
    )

def f_X2_measure (g_width : Int32) (g_height : Int32) (g_size : Int32) (g_all : Int64) (g_notFirstColumn : Int64) (g_notLastColumn : Int64) (a0 : Int32) (a1 : Int32) : Option (Int32 × Int32 × Int32 × Int64 × Int64 × Int64) :=
  nm (a0 * a1) fun x1 =>
  nm ((jshl (1 : Int64) x1) - (1 : Int64)) fun x2 =>
  nm (fun (v3 : Int64) =>
  nm (x2 &&& (v3 ^^^ (-1 : Int64))) fun x5 =>
  nm (x2 &&& ((jshl v3 (a0 - (1 : Int32))) ^^^ (-1 : Int64))) fun x6 =>
  some (a0, a1, x1, x2, x5, x6)
  ) fun K4 =>
  lp_X2_measure_34 a0 a1 K4 1000000 (0 : Int64) (0 : Int32)

abbrev rm_X2_measure : Room := { frames := 0, cells := 0, slots := 0, locals := 0 }
set_option maxHeartbeats 4000000 in
set_option maxRecDepth 100000 in
theorem c_X2_measure (l : Launch) (dC : Nat → ClassId) (dI : Nat → Nat → Nat) (h_g : Nat) (g_width g_height g_size : Int32) (g_all g_notFirstColumn g_notLastColumn : Int64) (sz : Nat) (a0 : Int32) (a1 : Int32) (q : Int32 × Int32 × Int32 × Int64 × Int64 × Int64) (hr : f_X2_measure g_width g_height g_size g_all g_notFirstColumn g_notLastColumn a0 a1 = some q) : Met l yX2_measure wsX2_measure rm_X2_measure (PrI (dC, dI) (wd_X2 h_g g_width g_height g_size g_all g_notFirstColumn g_notLastColumn) (td_X2) sz [.ref h_g, .int a0, .int a1]) (QIv (dC, dI) (wd_X2 h_g g_width g_height g_size g_all g_notFirstColumn g_notLastColumn) (td_X2) sz (wd_X2 h_g q.1 q.2.1 q.2.2.1 q.2.2.2.1 q.2.2.2.2.1 q.2.2.2.2.2)) 0 0 (va_A (wd_X2 h_g g_width g_height g_size g_all g_notFirstColumn g_notLastColumn) sz) := by
  refine mkI_v (cc := cX2_measure) (nL := 6) (by decide) rfl (Nat.le_of_ble_eq_true rfl) ?_
  intro p e R s m args below meth c H0 H locs A Q ls hRf hRl S hN hP hK hD hA hS hl kret
  have hl : lv_has ls 6 [(0, .ref h_g), (1, .int a0), (2, .int a1)] := hl
  obtain ⟨hx, hb, hml, hown, hts⟩ := S
  have hown : s.vm.findClass RX2 = some m.cls := hown
  have S : CallFix p m c cX2_measure 6 s args wsX2_measure RX2 := ⟨hx, hb, hml, hown, hts⟩
  have huX2 : ∀ w ∈ u_ws RX2 TX2 6, w ∈ wsX2_measure := by decide +kernel
  have hf9 := hts (.fieldLink RX2 9 "EyeBoard$Grid" "width" "I") (by decide +kernel)
  have hf15 := hts (.fieldLink RX2 15 "EyeBoard$Grid" "height" "I") (by decide +kernel)
  have hf18 := hts (.fieldLink RX2 18 "EyeBoard$Grid" "size" "I") (by decide +kernel)
  have hf21 := hts (.fieldLink RX2 21 "EyeBoard$Grid" "all" "J") (by decide +kernel)
  have hk25 := hts (.constantLong RX2 25 (-1 : Int64)) (by decide +kernel)
  have hf27 := hts (.fieldLink RX2 27 "EyeBoard$Grid" "notFirstColumn" "J") (by decide +kernel)
  have hf30 := hts (.fieldLink RX2 30 "EyeBoard$Grid" "notLastColumn" "J") (by decide +kernel)
  unfold f_X2_measure at hr
  refine lv_aload_n hx hb dX2_measure_0 rfl (lv_at hl 0 rfl) ?_
  refine lv_iload_n hx hb dX2_measure_1 rfl (lv_at hl 1 rfl) ?_
  refine va_put (D := (dC, dI)) (ci := 2) (v := .int a0) (ty := .int) (C := RX2) (T := TX2) (N := 6) hx hb hts huX2 tyX2 tyX2_ok nmX2 hown hK hP hD hS 0 rfl rfl 0 (by decide) hf9 (fun _ h9 => h9) rfl (by decide +kernel) rfl rfl (Nat.le_of_ble_eq_true rfl) dX2_measure_2 (fun H locs hP hD hS => ?_)
  have hP : va_P (dC, dI) vwCl (wd_X2 h_g a0 g_height g_size g_all g_notFirstColumn g_notLastColumn) H := hP
  have hD : va_D A (wd_X2 h_g a0 g_height g_size g_all g_notFirstColumn g_notLastColumn) := hD
  refine lv_aload_n hx hb dX2_measure_5 rfl (lv_at hl 0 rfl) ?_
  refine lv_iload_n hx hb dX2_measure_6 rfl (lv_at hl 2 rfl) ?_
  refine va_put (D := (dC, dI)) (ci := 2) (v := .int a1) (ty := .int) (C := RX2) (T := TX2) (N := 6) hx hb hts huX2 tyX2 tyX2_ok nmX2 hown hK hP hD hS 0 rfl rfl 1 (by decide) hf15 (fun _ h9 => h9) rfl (by decide +kernel) rfl rfl (Nat.le_of_ble_eq_true rfl) dX2_measure_7 (fun H locs hP hD hS => ?_)
  have hP : va_P (dC, dI) vwCl (wd_X2 h_g a0 a1 g_size g_all g_notFirstColumn g_notLastColumn) H := hP
  have hD : va_D A (wd_X2 h_g a0 a1 g_size g_all g_notFirstColumn g_notLastColumn) := hD
  refine lv_aload_n hx hb dX2_measure_10 rfl (lv_at hl 0 rfl) ?_
  refine lv_iload_n hx hb dX2_measure_11 rfl (lv_at hl 1 rfl) ?_
  refine lv_iload_n hx hb dX2_measure_12 rfl (lv_at hl 2 rfl) ?_
  refine lv_imul hx hb dX2_measure_13 ?_
  refine lv_topi (fun x1 ex1 => ?_)
  have hr := nm_use hr ex1
  refine va_put (D := (dC, dI)) (ci := 2) (v := .int x1) (ty := .int) (C := RX2) (T := TX2) (N := 6) hx hb hts huX2 tyX2 tyX2_ok nmX2 hown hK hP hD hS 0 rfl rfl 2 (by decide) hf18 (fun _ h9 => h9) rfl (by decide +kernel) rfl rfl (Nat.le_of_ble_eq_true rfl) dX2_measure_14 (fun H locs hP hD hS => ?_)
  have hP : va_P (dC, dI) vwCl (wd_X2 h_g a0 a1 x1 g_all g_notFirstColumn g_notLastColumn) H := hP
  have hD : va_D A (wd_X2 h_g a0 a1 x1 g_all g_notFirstColumn g_notLastColumn) := hD
  refine lv_aload_n hx hb dX2_measure_17 rfl (lv_at hl 0 rfl) ?_
  refine lv_lconst (v := (1 : Int64)) hx hb dX2_measure_18 (by decide) ?_
  refine lv_aload_n hx hb dX2_measure_19 rfl (lv_at hl 0 rfl) ?_
  refine va_get (D := (dC, dI)) (ci := 2) (v := .int x1) (C := RX2) (T := TX2) (N := 6) hx hb hts huX2 hown hK hP 0 rfl rfl 2 (by decide) hf18 (fun _ h9 => h9) rfl dX2_measure_20 ?_
  refine lv_lshl (v := jshl (1 : Int64) x1) hx hb dX2_measure_23 rfl ?_
  refine lv_lconst (v := (1 : Int64)) hx hb dX2_measure_24 (by decide) ?_
  refine lv_lsub hx hb dX2_measure_25 ?_
  refine lv_topl (fun x2 ex2 => ?_)
  have hr := nm_use hr ex2
  refine va_put (D := (dC, dI)) (ci := 2) (v := .long x2) (ty := .long) (C := RX2) (T := TX2) (N := 6) hx hb hts huX2 tyX2 tyX2_ok nmX2 hown hK hP hD hS 0 rfl rfl 3 (by decide) hf21 (fun _ h9 => h9) rfl (by decide +kernel) rfl rfl (Nat.le_of_ble_eq_true rfl) dX2_measure_26 (fun H locs hP hD hS => ?_)
  have hP : va_P (dC, dI) vwCl (wd_X2 h_g a0 a1 x1 x2 g_notFirstColumn g_notLastColumn) H := hP
  have hD : va_D A (wd_X2 h_g a0 a1 x1 x2 g_notFirstColumn g_notLastColumn) := hD
  refine lv_lconst (v := (0 : Int64)) hx hb dX2_measure_29 (by decide) ?_
  refine lv_lstore_n (lv' := [(3, .long (0 : Int64)), (0, .ref h_g), (1, .int a0), (2, .int a1)]) hx hb dX2_measure_30 rfl hl (by decide) rfl (fun ls hl => ?_)
  refine lv_iconst (v := (0 : Int32)) hx hb dX2_measure_31 (by decide) ?_
  refine lv_istore (lv' := [(5, .int (0 : Int32)), (3, .long (0 : Int64)), (0, .ref h_g), (1, .int a0), (2, .int a1)]) hx hb dX2_measure_32 hl (by decide) rfl (fun ls hl => ?_)
  obtain ⟨K4, eK4, hr⟩ := nm_ex hr
  have kK4 : ∀ (v3 : Int64) (H : Heap) (locs : List Loc) , K4 v3 = some q → va_P (dC, dI) vwCl (wd_X2 h_g a0 a1 x1 x2 g_notFirstColumn g_notLastColumn) H → va_D A (wd_X2 h_g a0 a1 x1 x2 g_notFirstColumn g_notLastColumn) → va_S A H0 H locs → ∀ (ls : Array Slot), lv_has ls 6 [(0, .ref h_g), (1, .int a0), (3, .long v3)] → W p l e R s m args below meth c H locs 0 0 Q (F0 m 55 ls []) := by
    intro v3 H locs hr hP hD hS ls hl
    rw [eK4] at hr
    refine lv_aload_n hx hb dX2_measure_55 rfl (lv_at hl 0 rfl) ?_
    refine lv_aload_n hx hb dX2_measure_56 rfl (lv_at hl 0 rfl) ?_
    refine va_get (D := (dC, dI)) (ci := 2) (v := .long x2) (C := RX2) (T := TX2) (N := 6) hx hb hts huX2 hown hK hP 0 rfl rfl 3 (by decide) hf21 (fun _ h9 => h9) rfl dX2_measure_57 ?_
    refine lv_lload_n hx hb dX2_measure_60 rfl (lv_at hl 2 rfl) ?_
    refine W.ldc2 (v := (-1 : Int64)) hx hb hown hk25 rfl dX2_measure_61 ?_
    refine W.eq (g2 := F0 m 64 ls [.long (-1 : Int64), .long v3, .long x2, .ref h_g]) rfl ?_
    refine lv_lxor hx hb dX2_measure_64 ?_
    refine lv_land hx hb dX2_measure_65 ?_
    refine lv_topl (fun x5 ex5 => ?_)
    have hr := nm_use hr ex5
    refine va_put (D := (dC, dI)) (ci := 2) (v := .long x5) (ty := .long) (C := RX2) (T := TX2) (N := 6) hx hb hts huX2 tyX2 tyX2_ok nmX2 hown hK hP hD hS 0 rfl rfl 4 (by decide) hf27 (fun _ h9 => h9) rfl (by decide +kernel) rfl rfl (Nat.le_of_ble_eq_true rfl) dX2_measure_66 (fun H locs hP hD hS => ?_)
    have hP : va_P (dC, dI) vwCl (wd_X2 h_g a0 a1 x1 x2 x5 g_notLastColumn) H := hP
    have hD : va_D A (wd_X2 h_g a0 a1 x1 x2 x5 g_notLastColumn) := hD
    refine lv_aload_n hx hb dX2_measure_69 rfl (lv_at hl 0 rfl) ?_
    refine lv_aload_n hx hb dX2_measure_70 rfl (lv_at hl 0 rfl) ?_
    refine va_get (D := (dC, dI)) (ci := 2) (v := .long x2) (C := RX2) (T := TX2) (N := 6) hx hb hts huX2 hown hK hP 0 rfl rfl 3 (by decide) hf21 (fun _ h9 => h9) rfl dX2_measure_71 ?_
    refine lv_lload_n hx hb dX2_measure_74 rfl (lv_at hl 2 rfl) ?_
    refine lv_iload_n hx hb dX2_measure_75 rfl (lv_at hl 1 rfl) ?_
    refine lv_iconst (v := (1 : Int32)) hx hb dX2_measure_76 (by decide) ?_
    refine lv_isub hx hb dX2_measure_77 ?_
    refine lv_lshl (v := jshl v3 (a0 - (1 : Int32))) hx hb dX2_measure_78 rfl ?_
    refine W.ldc2 (v := (-1 : Int64)) hx hb hown hk25 rfl dX2_measure_79 ?_
    refine W.eq (g2 := F0 m 82 ls [.long (-1 : Int64), .long (jshl v3 (a0 - (1 : Int32))), .long x2, .ref h_g]) rfl ?_
    refine lv_lxor hx hb dX2_measure_82 ?_
    refine lv_land hx hb dX2_measure_83 ?_
    refine lv_topl (fun x6 ex6 => ?_)
    have hr := nm_use hr ex6
    refine va_put (D := (dC, dI)) (ci := 2) (v := .long x6) (ty := .long) (C := RX2) (T := TX2) (N := 6) hx hb hts huX2 tyX2 tyX2_ok nmX2 hown hK hP hD hS 0 rfl rfl 5 (by decide) hf30 (fun _ h9 => h9) rfl (by decide +kernel) rfl rfl (Nat.le_of_ble_eq_true rfl) dX2_measure_84 (fun H locs hP hD hS => ?_)
    have hP : va_P (dC, dI) vwCl (wd_X2 h_g a0 a1 x1 x2 x5 x6) H := hP
    have hD : va_D A (wd_X2 h_g a0 a1 x1 x2 x5 x6) := hD
    obtain rfl := Option.some.inj hr
    exact kret _ _ _ _ dX2_measure_87 hP hD hS
  have llp_X2_measure_34 : ∀ (nF : Nat) (v7 : Int64) (v8 : Int32) (H : Heap) (locs : List Loc), lp_X2_measure_34 a0 a1 K4 nF v7 v8 = some q → va_P (dC, dI) vwCl (wd_X2 h_g a0 a1 x1 x2 g_notFirstColumn g_notLastColumn) H → va_D A (wd_X2 h_g a0 a1 x1 x2 g_notFirstColumn g_notLastColumn) → va_S A H0 H locs → ∀ (ls : Array Slot), lv_has ls 6 [(0, .ref h_g), (1, .int a0), (2, .int a1), (3, .long v7), (5, .int v8)] → W p l e R s m args below meth c H locs 0 0 Q (F0 m 34 ls []) := by
    intro nF
    induction nF with
    | zero => intro v7 v8 H locs hr; exact absurd hr (by simp [lp_X2_measure_34])
    | succ nF ih =>
      intro v7 v8 H locs hr hP hD hS ls hl
      rw [lp_X2_measure_34] at hr
      refine lv_iload hx hb dX2_measure_34 (lv_at hl 4 rfl) ?_
      refine lv_iload_n hx hb dX2_measure_36 rfl (lv_at hl 2 rfl) ?_
      refine lv_icmp_ge (tgt := 55) hx hb dX2_measure_37 (by decide) (fun c9 => ?_) (fun c9 => ?_)
      · have hr := ite_p hr c9
        exact kK4 v7 _ _ hr hP hD hS ls (lv_sub hl [0, 1, 3] rfl)
      · have hr := ite_n hr c9
        refine lv_lload_n hx hb dX2_measure_40 rfl (lv_at hl 3 rfl) ?_
        refine lv_lconst (v := (1 : Int64)) hx hb dX2_measure_41 (by decide) ?_
        refine lv_iload hx hb dX2_measure_42 (lv_at hl 4 rfl) ?_
        refine lv_iload_n hx hb dX2_measure_44 rfl (lv_at hl 1 rfl) ?_
        refine lv_imul hx hb dX2_measure_45 ?_
        refine lv_lshl (v := jshl (1 : Int64) (v8 * a0)) hx hb dX2_measure_46 rfl ?_
        refine lv_lor hx hb dX2_measure_47 ?_
        refine lv_topl (fun x10 ex10 => ?_)
        have hr := nm_use hr ex10
        refine lv_lstore_n (lv' := [(3, .long x10), (0, .ref h_g), (1, .int a0), (2, .int a1), (5, .int v8)]) hx hb dX2_measure_48 rfl hl (by decide) rfl (fun ls hl => ?_)
        obtain ⟨x11, ex11, hr⟩ := nm_ex hr
        refine lv_iinc (v := x11) (lv' := [(5, .int x11), (3, .long x10), (0, .ref h_g), (1, .int a0), (2, .int a1)]) hx hb dX2_measure_49 hl (k := 4) rfl (by rw [ex11]; rfl) (by decide) rfl (fun ls hl => ?_)
        refine lv_goto (tgt := 34) hx hb dX2_measure_52 (by decide) ?_
        exact ih x10 x11 _ _ hr hP hD hS ls (lv_sub hl [2, 3, 4, 1, 0] rfl)
  exact llp_X2_measure_34 1000000 (0 : Int64) (0 : Int32) _ _ hr hP hD hS ls (lv_sub hl [2, 3, 4, 1, 0] rfl)

def f_X2_has (g_size : Int32) (a0 : Int32) : Option (Int32) :=
  if a0 < 0 then (
    some ((0 : Int32))
  )
  else (
    if g_size ≤ a0 then (
      some ((0 : Int32))
    )
    else (
      some ((1 : Int32))
    )
  )

abbrev rm_X2_has : Room := { frames := 0, cells := 0, slots := 0, locals := 0 }
set_option maxHeartbeats 4000000 in
set_option maxRecDepth 100000 in
theorem c_X2_has (l : Launch) (dC : Nat → ClassId) (dI : Nat → Nat → Nat) (h_g : Nat) (g_width g_height g_size : Int32) (g_all g_notFirstColumn g_notLastColumn : Int64) (a0 : Int32) (q : Int32) (hr : f_X2_has g_size a0 = some q) : Met l yX2_has wsX2_has rm_X2_has (PrP (dC, dI) (wd_X2 h_g g_width g_height g_size g_all g_notFirstColumn g_notLastColumn) (td_X2) [.ref h_g, .int a0]) (vp_Si (fun x => x = q)) 0 0 (fun _ => False) := by
  refine mkP_z (cc := cX2_has) (nL := 2) (by decide) rfl (Nat.le_of_ble_eq_true rfl) ?_
  intro p e R s m args below meth c H Q ls hRf hRl S hN hP hK hl kret
  have hl : lv_has ls 2 [(0, .ref h_g), (1, .int a0)] := hl
  obtain ⟨hx, hb, hml, hown, hts⟩ := S
  have hown : s.vm.findClass RX2 = some m.cls := hown
  have S : CallFix p m c cX2_has 2 s args wsX2_has RX2 := ⟨hx, hb, hml, hown, hts⟩
  have huX2 : ∀ w ∈ u_ws RX2 TX2 6, w ∈ wsX2_has := by decide +kernel
  have hf18 := hts (.fieldLink RX2 18 "EyeBoard$Grid" "size" "I") (by decide +kernel)
  unfold f_X2_has at hr
  refine lv_iload_n hx hb dX2_has_0 rfl (lv_at hl 1 rfl) ?_
  refine lv_if_lt (tgt := 16) hx hb dX2_has_1 (by decide) (fun c1 => ?_) (fun c1 => ?_)
  · have hr := ite_p hr c1
    refine lv_iconst (v := (0 : Int32)) hx hb dX2_has_16 (by decide) ?_
    obtain rfl := Option.some.inj hr
    exact kret _ _ dX2_has_17 rfl
  · have hr := ite_n hr c1
    refine lv_iload_n hx hb dX2_has_4 rfl (lv_at hl 1 rfl) ?_
    refine lv_aload_n hx hb dX2_has_5 rfl (lv_at hl 0 rfl) ?_
    refine va_get (D := (dC, dI)) (ci := 2) (v := .int g_size) (C := RX2) (T := TX2) (N := 6) hx hb hts huX2 hown hK hP 0 rfl rfl 2 (by decide) hf18 (fun _ h9 => h9) rfl dX2_has_6 ?_
    refine lv_icmp_ge (tgt := 16) hx hb dX2_has_9 (by decide) (fun c2 => ?_) (fun c2 => ?_)
    · have hr := ite_p hr c2
      refine lv_iconst (v := (0 : Int32)) hx hb dX2_has_16 (by decide) ?_
      obtain rfl := Option.some.inj hr
      exact kret _ _ dX2_has_17 rfl
    · have hr := ite_n hr c2
      refine lv_iconst (v := (1 : Int32)) hx hb dX2_has_12 (by decide) ?_
      refine lv_goto (tgt := 17) hx hb dX2_has_13 (by decide) ?_
      obtain rfl := Option.some.inj hr
      exact kret _ _ dX2_has_17 rfl

def f_X2_holds  (a0 : Int64) (a1 : Int32) : Option (Int32) :=
  if (jushr a0 a1) &&& (1 : Int64) = (0 : Int64) then (
    some ((0 : Int32))
  )
  else (
    some ((1 : Int32))
  )

abbrev rm_X2_holds : Room := { frames := 0, cells := 0, slots := 0, locals := 0 }
set_option maxHeartbeats 4000000 in
set_option maxRecDepth 100000 in
theorem c_X2_holds (l : Launch) (dC : Nat → ClassId) (dI : Nat → Nat → Nat)  (a0 : Int64) (a1 : Int32) (q : Int32) (hr : f_X2_holds  a0 a1 = some q) : Met l yX2_holds wsX2_holds rm_X2_holds (PrP (dC, dI) [] [] [.long a0, .int a1]) (vp_Si (fun x => x = q)) 0 0 (fun _ => False) := by
  refine mkP_z (cc := cX2_holds) (nL := 3) (by decide) rfl (Nat.le_of_ble_eq_true rfl) ?_
  intro p e R s m args below meth c H Q ls hRf hRl S hN hP hK hl kret
  have hl : lv_has ls 3 [(0, .long a0), (2, .int a1)] := hl
  obtain ⟨hx, hb, hml, hown, hts⟩ := S
  have hown : s.vm.findClass RX2 = some m.cls := hown
  have S : CallFix p m c cX2_holds 3 s args wsX2_holds RX2 := ⟨hx, hb, hml, hown, hts⟩
  unfold f_X2_holds at hr
  refine lv_lload_n hx hb dX2_holds_0 rfl (lv_at hl 0 rfl) ?_
  refine lv_iload_n hx hb dX2_holds_1 rfl (lv_at hl 1 rfl) ?_
  refine lv_lushr (v := jushr a0 a1) hx hb dX2_holds_2 rfl ?_
  refine lv_lconst (v := (1 : Int64)) hx hb dX2_holds_3 (by decide) ?_
  refine lv_land hx hb dX2_holds_4 ?_
  refine lv_lconst (v := (0 : Int64)) hx hb dX2_holds_5 (by decide) ?_
  refine W.lcmp hx hb dX2_holds_6 ?_
  refine lv_if_eq (tgt := 14) hx hb dX2_holds_7 (by decide) (fun c1 => ?_) (fun c1 => ?_)
  · have c1 := cmp_t c1
    have hr := ite_p hr c1
    refine lv_iconst (v := (0 : Int32)) hx hb dX2_holds_14 (by decide) ?_
    obtain rfl := Option.some.inj hr
    exact kret _ _ dX2_holds_15 rfl
  · have c1 := cmp_f c1
    have hr := ite_n hr c1
    refine lv_iconst (v := (1 : Int32)) hx hb dX2_holds_10 (by decide) ?_
    refine lv_goto (tgt := 15) hx hb dX2_holds_11 (by decide) ?_
    obtain rfl := Option.some.inj hr
    exact kret _ _ dX2_holds_15 rfl

def f_X2_beside (g_width : Int32) (g_all : Int64) (g_notFirstColumn : Int64) (g_notLastColumn : Int64) (a0 : Int64) : Option (Int64) :=
  nm ((jshl (a0 &&& g_notLastColumn) (1 : Int32)) ||| (jushr (a0 &&& g_notFirstColumn) (1 : Int32))) fun x1 =>
  some (((x1 ||| (jshl a0 g_width)) ||| (jushr a0 g_width)) &&& g_all)

abbrev rm_X2_beside : Room := { frames := 0, cells := 0, slots := 0, locals := 0 }
set_option maxHeartbeats 4000000 in
set_option maxRecDepth 100000 in
theorem c_X2_beside (l : Launch) (dC : Nat → ClassId) (dI : Nat → Nat → Nat) (h_g : Nat) (g_width g_height g_size : Int32) (g_all g_notFirstColumn g_notLastColumn : Int64) (a0 : Int64) (q : Int64) (hr : f_X2_beside g_width g_all g_notFirstColumn g_notLastColumn a0 = some q) : Met l yX2_beside wsX2_beside rm_X2_beside (PrP (dC, dI) (wd_X2 h_g g_width g_height g_size g_all g_notFirstColumn g_notLastColumn) (td_X2) [.ref h_g, .long a0]) (vp_Sl (fun x => x = q)) 0 0 (fun _ => False) := by
  refine mkP_l (cc := cX2_beside) (nL := 5) (by decide) rfl (Nat.le_of_ble_eq_true rfl) ?_
  intro p e R s m args below meth c H Q ls hRf hRl S hN hP hK hl kret
  have hl : lv_has ls 5 [(0, .ref h_g), (1, .long a0)] := hl
  obtain ⟨hx, hb, hml, hown, hts⟩ := S
  have hown : s.vm.findClass RX2 = some m.cls := hown
  have S : CallFix p m c cX2_beside 5 s args wsX2_beside RX2 := ⟨hx, hb, hml, hown, hts⟩
  have huX2 : ∀ w ∈ u_ws RX2 TX2 6, w ∈ wsX2_beside := by decide +kernel
  have hf30 := hts (.fieldLink RX2 30 "EyeBoard$Grid" "notLastColumn" "J") (by decide +kernel)
  have hf27 := hts (.fieldLink RX2 27 "EyeBoard$Grid" "notFirstColumn" "J") (by decide +kernel)
  have hf9 := hts (.fieldLink RX2 9 "EyeBoard$Grid" "width" "I") (by decide +kernel)
  have hf21 := hts (.fieldLink RX2 21 "EyeBoard$Grid" "all" "J") (by decide +kernel)
  unfold f_X2_beside at hr
  refine lv_lload_n hx hb dX2_beside_0 rfl (lv_at hl 1 rfl) ?_
  refine lv_aload_n hx hb dX2_beside_1 rfl (lv_at hl 0 rfl) ?_
  refine va_get (D := (dC, dI)) (ci := 2) (v := .long g_notLastColumn) (C := RX2) (T := TX2) (N := 6) hx hb hts huX2 hown hK hP 0 rfl rfl 5 (by decide) hf30 (fun _ h9 => h9) rfl dX2_beside_2 ?_
  refine lv_land hx hb dX2_beside_5 ?_
  refine lv_iconst (v := (1 : Int32)) hx hb dX2_beside_6 (by decide) ?_
  refine lv_lshl (v := jshl (a0 &&& g_notLastColumn) (1 : Int32)) hx hb dX2_beside_7 rfl ?_
  refine lv_lload_n hx hb dX2_beside_8 rfl (lv_at hl 1 rfl) ?_
  refine lv_aload_n hx hb dX2_beside_9 rfl (lv_at hl 0 rfl) ?_
  refine va_get (D := (dC, dI)) (ci := 2) (v := .long g_notFirstColumn) (C := RX2) (T := TX2) (N := 6) hx hb hts huX2 hown hK hP 0 rfl rfl 4 (by decide) hf27 (fun _ h9 => h9) rfl dX2_beside_10 ?_
  refine lv_land hx hb dX2_beside_13 ?_
  refine lv_iconst (v := (1 : Int32)) hx hb dX2_beside_14 (by decide) ?_
  refine lv_lushr (v := jushr (a0 &&& g_notFirstColumn) (1 : Int32)) hx hb dX2_beside_15 rfl ?_
  refine lv_lor hx hb dX2_beside_16 ?_
  refine lv_topl (fun x1 ex1 => ?_)
  have hr := nm_use hr ex1
  refine lv_lstore_n (lv' := [(3, .long x1), (0, .ref h_g), (1, .long a0)]) hx hb dX2_beside_17 rfl hl (by decide) rfl (fun ls hl => ?_)
  refine lv_lload_n hx hb dX2_beside_18 rfl (lv_at hl 0 rfl) ?_
  refine lv_lload_n hx hb dX2_beside_19 rfl (lv_at hl 2 rfl) ?_
  refine lv_aload_n hx hb dX2_beside_20 rfl (lv_at hl 1 rfl) ?_
  refine va_get (D := (dC, dI)) (ci := 2) (v := .int g_width) (C := RX2) (T := TX2) (N := 6) hx hb hts huX2 hown hK hP 0 rfl rfl 0 (by decide) hf9 (fun _ h9 => h9) rfl dX2_beside_21 ?_
  refine lv_lshl (v := jshl a0 g_width) hx hb dX2_beside_24 rfl ?_
  refine lv_lor hx hb dX2_beside_25 ?_
  refine lv_lload_n hx hb dX2_beside_26 rfl (lv_at hl 2 rfl) ?_
  refine lv_aload_n hx hb dX2_beside_27 rfl (lv_at hl 1 rfl) ?_
  refine va_get (D := (dC, dI)) (ci := 2) (v := .int g_width) (C := RX2) (T := TX2) (N := 6) hx hb hts huX2 hown hK hP 0 rfl rfl 0 (by decide) hf9 (fun _ h9 => h9) rfl dX2_beside_28 ?_
  refine lv_lushr (v := jushr a0 g_width) hx hb dX2_beside_31 rfl ?_
  refine lv_lor hx hb dX2_beside_32 ?_
  refine lv_aload_n hx hb dX2_beside_33 rfl (lv_at hl 1 rfl) ?_
  refine va_get (D := (dC, dI)) (ci := 2) (v := .long g_all) (C := RX2) (T := TX2) (N := 6) hx hb hts huX2 hown hK hP 0 rfl rfl 3 (by decide) hf21 (fun _ h9 => h9) rfl dX2_beside_34 ?_
  refine lv_land hx hb dX2_beside_37 ?_
  obtain rfl := Option.some.inj hr
  exact kret _ _ dX2_beside_38

def lp_X2_spread_8 (g_width : Int32) (g_all : Int64) (g_notFirstColumn : Int64) (g_notLastColumn : Int64) (a1 : Int64) : Nat → Int64 → Int32 → Option (Int64)
  | 0, _, _ => none
  | nF + 1, v2, v3 =>
    if (49 : Int32) ≤ v3 then (
      some (v2)
    )
    else (
      (f_X2_beside g_width g_all g_notFirstColumn g_notLastColumn v2).bind fun q5 =>
      nm ((v2 ||| q5) &&& a1) fun x6 =>
      if x6 = v2 then (
        some (v2)
      )
      else (
        nm (v3 + 1) fun x8 =>
        lp_X2_spread_8 g_width g_all g_notFirstColumn g_notLastColumn a1 nF x6 x8
      )
    )

def f_X2_spread (g_width : Int32) (g_all : Int64) (g_notFirstColumn : Int64) (g_notLastColumn : Int64) (a0 : Int64) (a1 : Int64) : Option (Int64) :=
  nm (a0 &&& a1) fun x1 =>
  lp_X2_spread_8 g_width g_all g_notFirstColumn g_notLastColumn a1 1000000 x1 (0 : Int32)

abbrev rm_X2_spread : Room := { frames := 1, cells := 0, slots := 0, locals := 24 }
set_option maxHeartbeats 4000000 in
set_option maxRecDepth 100000 in
theorem c_X2_spread (l : Launch) (dC : Nat → ClassId) (dI : Nat → Nat → Nat) (h_g : Nat) (g_width g_height g_size : Int32) (g_all g_notFirstColumn g_notLastColumn : Int64) (a0 : Int64) (a1 : Int64) (q : Int64) (hr : f_X2_spread g_width g_all g_notFirstColumn g_notLastColumn a0 a1 = some q) : Met l yX2_spread wsX2_spread rm_X2_spread (PrP (dC, dI) (wd_X2 h_g g_width g_height g_size g_all g_notFirstColumn g_notLastColumn) (td_X2) [.ref h_g, .long a0, .long a1]) (vp_Sl (fun x => x = q)) 0 0 (fun _ => False) := by
  refine mkP_l (cc := cX2_spread) (nL := 10) (by decide) rfl (Nat.le_of_ble_eq_true rfl) ?_
  intro p e R s m args below meth c H Q ls hRf hRl S hN hP hK hl kret
  have hl : lv_has ls 10 [(0, .ref h_g), (1, .long a0), (3, .long a1)] := hl
  obtain ⟨hx, hb, hml, hown, hts⟩ := S
  have hown : s.vm.findClass RX2 = some m.cls := hown
  have S : CallFix p m c cX2_spread 10 s args wsX2_spread RX2 := ⟨hx, hb, hml, hown, hts⟩
  unfold f_X2_spread at hr
  refine lv_lload_n hx hb dX2_spread_0 rfl (lv_at hl 1 rfl) ?_
  refine lv_lload_n hx hb dX2_spread_1 rfl (lv_at hl 2 rfl) ?_
  refine lv_land hx hb dX2_spread_2 ?_
  refine lv_topl (fun x1 ex1 => ?_)
  have hr := nm_use hr ex1
  refine lv_lstore (lv' := [(5, .long x1), (0, .ref h_g), (1, .long a0), (3, .long a1)]) hx hb dX2_spread_3 hl (by decide) rfl (fun ls hl => ?_)
  refine lv_iconst (v := (0 : Int32)) hx hb dX2_spread_5 (by decide) ?_
  refine lv_istore (lv' := [(7, .int (0 : Int32)), (5, .long x1), (0, .ref h_g), (1, .long a0), (3, .long a1)]) hx hb dX2_spread_6 hl (by decide) rfl (fun ls hl => ?_)
  have llp_X2_spread_8 : ∀ (nF : Nat) (v2 : Int64) (v3 : Int32) , lp_X2_spread_8 g_width g_all g_notFirstColumn g_notLastColumn a1 nF v2 v3 = some q → ∀ (ls : Array Slot), lv_has ls 10 [(0, .ref h_g), (3, .long a1), (5, .long v2), (7, .int v3)] → W p l e R s m args below meth c H [] 0 0 Q (F0 m 8 ls []) := by
    intro nF
    induction nF with
    | zero => intro v2 v3 hr; exact absurd hr (by simp [lp_X2_spread_8])
    | succ nF ih =>
      intro v2 v3 hr ls hl
      rw [lp_X2_spread_8] at hr
      refine lv_iload hx hb dX2_spread_8 (lv_at hl 3 rfl) ?_
      refine lv_bipush (v := (49 : Int32)) hx hb dX2_spread_10 (by decide) ?_
      refine lv_icmp_ge (tgt := 49) hx hb dX2_spread_12 (by decide) (fun c4 => ?_) (fun c4 => ?_)
      · have hr := ite_p hr c4
        refine lv_lload hx hb dX2_spread_49 (lv_at hl 2 rfl) ?_
        obtain rfl := Option.some.inj hr
        exact kret _ _ dX2_spread_51
      · have hr := ite_n hr c4
        refine lv_lload hx hb dX2_spread_15 (lv_at hl 2 rfl) ?_
        refine lv_aload_n hx hb dX2_spread_17 rfl (lv_at hl 0 rfl) ?_
        refine lv_lload hx hb dX2_spread_18 (lv_at hl 2 rfl) ?_
        obtain ⟨q5, hq5, hr⟩ := bd_use hr
        refine pcV_l (As := [.long v2]) (rest := [.long v2]) S (c_X2_beside l dC dI h_g g_width g_height g_size g_all g_notFirstColumn g_notLastColumn v2 q5 hq5) (cwV 1 hts gX2_spread_X2_beside rfl rfl rfl (by decide +kernel) ⟨Nat.le_trans (m := rm_X2_spread.frames) (by decide) hRf, Nat.le_trans (m := rm_X2_spread.locals) (by decide) hRl⟩) hN hP hK ⟨Nat.zero_le _, Nat.zero_le _⟩ [0] rfl [] rfl 0 2 rfl rfl rfl hl.1 rfl (Nat.le_of_ble_eq_true rfl) dX2_spread_20 ?_
        refine lv_lor hx hb dX2_spread_23 ?_
        refine lv_lload_n hx hb dX2_spread_24 rfl (lv_at hl 1 rfl) ?_
        refine lv_land hx hb dX2_spread_25 ?_
        refine lv_topl (fun x6 ex6 => ?_)
        have hr := nm_use hr ex6
        refine lv_lstore (lv' := [(8, .long x6), (0, .ref h_g), (3, .long a1), (5, .long v2), (7, .int v3)]) hx hb dX2_spread_26 hl (by decide) rfl (fun ls hl => ?_)
        refine lv_lload hx hb dX2_spread_28 (lv_at hl 0 rfl) ?_
        refine lv_lload hx hb dX2_spread_30 (lv_at hl 3 rfl) ?_
        refine W.lcmp hx hb dX2_spread_32 ?_
        refine lv_if_ne (tgt := 39) hx hb dX2_spread_33 (by decide) (fun c7 => ?_) (fun c7 => ?_)
        · have c7 := cmp_f c7
          have hr := ite_n hr c7
          refine lv_lload hx hb dX2_spread_39 (lv_at hl 0 rfl) ?_
          refine lv_lstore (lv' := [(5, .long x6), (8, .long x6), (0, .ref h_g), (3, .long a1), (7, .int v3)]) hx hb dX2_spread_41 hl (by decide) rfl (fun ls hl => ?_)
          obtain ⟨x8, ex8, hr⟩ := nm_ex hr
          refine lv_iinc (v := x8) (lv' := [(7, .int x8), (5, .long x6), (8, .long x6), (0, .ref h_g), (3, .long a1)]) hx hb dX2_spread_43 hl (k := 4) rfl (by rw [ex8]; rfl) (by decide) rfl (fun ls hl => ?_)
          refine lv_goto (tgt := 8) hx hb dX2_spread_46 (by decide) ?_
          exact ih x6 x8 hr ls (lv_sub hl [3, 4, 1, 0] rfl)
        · have c7 := cmp_t c7
          have hr := ite_p hr c7
          refine lv_goto (tgt := 49) hx hb dX2_spread_36 (by decide) ?_
          refine lv_lload hx hb dX2_spread_49 (lv_at hl 3 rfl) ?_
          obtain rfl := Option.some.inj hr
          exact kret _ _ dX2_spread_51
  exact llp_X2_spread_8 1000000 x1 (0 : Int32) hr ls (lv_sub hl [2, 4, 1, 0] rfl)

def f_X2_partFrom (g_width : Int32) (g_all : Int64) (g_notFirstColumn : Int64) (g_notLastColumn : Int64) (a0 : Int64) (a1 : Int32) : Option (Int64) :=
  nm ((jshl (1 : Int64) a1) &&& a0) fun x1 =>
  nm ((jshl (1 : Int64) a1) - (1 : Int64)) fun x2 =>
  if x1 = (0 : Int64) then (
    some ((0 : Int64))
  )
  else (
    (f_X2_beside g_width g_all g_notFirstColumn g_notLastColumn x1).bind fun q4 =>
    if (q4 &&& a0) &&& x2 = (0 : Int64) then (
      (f_X2_spread g_width g_all g_notFirstColumn g_notLastColumn x1 a0).bind fun q6 =>
      if q6 &&& x2 = (0 : Int64) then (
        some (q6)
      )
      else (
        some ((0 : Int64))
      )
    )
    else (
      some ((0 : Int64))
    )
  )

abbrev rm_X2_partFrom : Room := { frames := 2, cells := 0, slots := 0, locals := 53 }
set_option maxHeartbeats 4000000 in
set_option maxRecDepth 100000 in
theorem c_X2_partFrom (l : Launch) (dC : Nat → ClassId) (dI : Nat → Nat → Nat) (h_g : Nat) (g_width g_height g_size : Int32) (g_all g_notFirstColumn g_notLastColumn : Int64) (a0 : Int64) (a1 : Int32) (q : Int64) (hr : f_X2_partFrom g_width g_all g_notFirstColumn g_notLastColumn a0 a1 = some q) : Met l yX2_partFrom wsX2_partFrom rm_X2_partFrom (PrP (dC, dI) (wd_X2 h_g g_width g_height g_size g_all g_notFirstColumn g_notLastColumn) (td_X2) [.ref h_g, .long a0, .int a1]) (vp_Sl (fun x => x = q)) 0 0 (fun _ => False) := by
  refine mkP_l (cc := cX2_partFrom) (nL := 10) (by decide) rfl (Nat.le_of_ble_eq_true rfl) ?_
  intro p e R s m args below meth c H Q ls hRf hRl S hN hP hK hl kret
  have hl : lv_has ls 10 [(0, .ref h_g), (1, .long a0), (3, .int a1)] := hl
  obtain ⟨hx, hb, hml, hown, hts⟩ := S
  have hown : s.vm.findClass RX2 = some m.cls := hown
  have S : CallFix p m c cX2_partFrom 10 s args wsX2_partFrom RX2 := ⟨hx, hb, hml, hown, hts⟩
  unfold f_X2_partFrom at hr
  refine lv_lconst (v := (1 : Int64)) hx hb dX2_partFrom_0 (by decide) ?_
  refine lv_iload_n hx hb dX2_partFrom_1 rfl (lv_at hl 2 rfl) ?_
  refine lv_lshl (v := jshl (1 : Int64) a1) hx hb dX2_partFrom_2 rfl ?_
  refine lv_lload_n hx hb dX2_partFrom_3 rfl (lv_at hl 1 rfl) ?_
  refine lv_land hx hb dX2_partFrom_4 ?_
  refine lv_topl (fun x1 ex1 => ?_)
  have hr := nm_use hr ex1
  refine lv_lstore (lv' := [(4, .long x1), (0, .ref h_g), (1, .long a0), (3, .int a1)]) hx hb dX2_partFrom_5 hl (by decide) rfl (fun ls hl => ?_)
  refine lv_lconst (v := (1 : Int64)) hx hb dX2_partFrom_7 (by decide) ?_
  refine lv_iload_n hx hb dX2_partFrom_8 rfl (lv_at hl 3 rfl) ?_
  refine lv_lshl (v := jshl (1 : Int64) a1) hx hb dX2_partFrom_9 rfl ?_
  refine lv_lconst (v := (1 : Int64)) hx hb dX2_partFrom_10 (by decide) ?_
  refine lv_lsub hx hb dX2_partFrom_11 ?_
  refine lv_topl (fun x2 ex2 => ?_)
  have hr := nm_use hr ex2
  refine lv_lstore (lv' := [(6, .long x2), (4, .long x1), (0, .ref h_g), (1, .long a0), (3, .int a1)]) hx hb dX2_partFrom_12 hl (by decide) rfl (fun ls hl => ?_)
  refine lv_lload hx hb dX2_partFrom_14 (lv_at hl 1 rfl) ?_
  refine lv_lconst (v := (0 : Int64)) hx hb dX2_partFrom_16 (by decide) ?_
  refine W.lcmp hx hb dX2_partFrom_17 ?_
  refine lv_if_eq (tgt := 37) hx hb dX2_partFrom_18 (by decide) (fun c3 => ?_) (fun c3 => ?_)
  · have c3 := cmp_t c3
    have hr := ite_p hr c3
    refine lv_lconst (v := (0 : Int64)) hx hb dX2_partFrom_37 (by decide) ?_
    obtain rfl := Option.some.inj hr
    exact kret _ _ dX2_partFrom_38
  · have c3 := cmp_f c3
    have hr := ite_n hr c3
    refine lv_aload_n hx hb dX2_partFrom_21 rfl (lv_at hl 2 rfl) ?_
    refine lv_lload hx hb dX2_partFrom_22 (lv_at hl 1 rfl) ?_
    obtain ⟨q4, hq4, hr⟩ := bd_use hr
    refine pcV_l (As := [.long x1]) (rest := []) S (c_X2_beside l dC dI h_g g_width g_height g_size g_all g_notFirstColumn g_notLastColumn x1 q4 hq4) (cwV 1 hts gX2_partFrom_X2_beside rfl rfl rfl (by decide +kernel) ⟨Nat.le_trans (m := rm_X2_partFrom.frames) (by decide) hRf, Nat.le_trans (m := rm_X2_partFrom.locals) (by decide) hRl⟩) hN hP hK ⟨Nat.zero_le _, Nat.zero_le _⟩ [0] rfl [] rfl 0 2 rfl rfl rfl hl.1 rfl (Nat.le_of_ble_eq_true rfl) dX2_partFrom_24 ?_
    refine lv_lload_n hx hb dX2_partFrom_27 rfl (lv_at hl 3 rfl) ?_
    refine lv_land hx hb dX2_partFrom_28 ?_
    refine lv_lload hx hb dX2_partFrom_29 (lv_at hl 0 rfl) ?_
    refine lv_land hx hb dX2_partFrom_31 ?_
    refine lv_lconst (v := (0 : Int64)) hx hb dX2_partFrom_32 (by decide) ?_
    refine W.lcmp hx hb dX2_partFrom_33 ?_
    refine lv_if_eq (tgt := 39) hx hb dX2_partFrom_34 (by decide) (fun c5 => ?_) (fun c5 => ?_)
    · have c5 := cmp_t c5
      have hr := ite_p hr c5
      refine lv_aload_n hx hb dX2_partFrom_39 rfl (lv_at hl 2 rfl) ?_
      refine lv_lload hx hb dX2_partFrom_40 (lv_at hl 1 rfl) ?_
      refine lv_lload_n hx hb dX2_partFrom_42 rfl (lv_at hl 3 rfl) ?_
      obtain ⟨q6, hq6, hr⟩ := bd_use hr
      refine pcV_l (As := [.long x1, .long a0]) (rest := []) S (c_X2_spread l dC dI h_g g_width g_height g_size g_all g_notFirstColumn g_notLastColumn x1 a0 q6 hq6) (cwV 2 hts gX2_partFrom_X2_spread rfl rfl rfl (by decide +kernel) ⟨Nat.le_trans (m := rm_X2_partFrom.frames) (by decide) hRf, Nat.le_trans (m := rm_X2_partFrom.locals) (by decide) hRl⟩) hN hP hK ⟨Nat.zero_le _, Nat.zero_le _⟩ [0] rfl [] rfl 0 2 rfl rfl rfl hl.1 rfl (Nat.le_of_ble_eq_true rfl) dX2_partFrom_43 ?_
      refine lv_lstore (lv' := [(8, .long q6), (6, .long x2), (4, .long x1), (0, .ref h_g), (1, .long a0), (3, .int a1)]) hx hb dX2_partFrom_46 hl (by decide) rfl (fun ls hl => ?_)
      refine lv_lload hx hb dX2_partFrom_48 (lv_at hl 0 rfl) ?_
      refine lv_lload hx hb dX2_partFrom_50 (lv_at hl 1 rfl) ?_
      refine lv_land hx hb dX2_partFrom_52 ?_
      refine lv_lconst (v := (0 : Int64)) hx hb dX2_partFrom_53 (by decide) ?_
      refine W.lcmp hx hb dX2_partFrom_54 ?_
      refine lv_if_ne (tgt := 63) hx hb dX2_partFrom_55 (by decide) (fun c7 => ?_) (fun c7 => ?_)
      · have c7 := cmp_f c7
        have hr := ite_n hr c7
        refine lv_lconst (v := (0 : Int64)) hx hb dX2_partFrom_63 (by decide) ?_
        obtain rfl := Option.some.inj hr
        exact kret _ _ dX2_partFrom_64
      · have c7 := cmp_t c7
        have hr := ite_p hr c7
        refine lv_lload hx hb dX2_partFrom_58 (lv_at hl 0 rfl) ?_
        refine lv_goto (tgt := 64) hx hb dX2_partFrom_60 (by decide) ?_
        obtain rfl := Option.some.inj hr
        exact kret _ _ dX2_partFrom_64
    · have c5 := cmp_f c5
      have hr := ite_n hr c5
      refine lv_lconst (v := (0 : Int64)) hx hb dX2_partFrom_37 (by decide) ?_
      obtain rfl := Option.some.inj hr
      exact kret _ _ dX2_partFrom_38

def f_X2_allBreathe (g_width : Int32) (g_all : Int64) (g_notFirstColumn : Int64) (g_notLastColumn : Int64) (a0 : Int64) (a1 : Int64) : Option (Int32) :=
  (f_X2_beside g_width g_all g_notFirstColumn g_notLastColumn a1).bind fun q1 =>
  (f_X2_spread g_width g_all g_notFirstColumn g_notLastColumn q1 a0).bind fun q2 =>
  if q2 = a0 then (
    some ((1 : Int32))
  )
  else (
    some ((0 : Int32))
  )

abbrev rm_X2_allBreathe : Room := { frames := 2, cells := 0, slots := 0, locals := 53 }
set_option maxHeartbeats 4000000 in
set_option maxRecDepth 100000 in
theorem c_X2_allBreathe (l : Launch) (dC : Nat → ClassId) (dI : Nat → Nat → Nat) (h_g : Nat) (g_width g_height g_size : Int32) (g_all g_notFirstColumn g_notLastColumn : Int64) (a0 : Int64) (a1 : Int64) (q : Int32) (hr : f_X2_allBreathe g_width g_all g_notFirstColumn g_notLastColumn a0 a1 = some q) : Met l yX2_allBreathe wsX2_allBreathe rm_X2_allBreathe (PrP (dC, dI) (wd_X2 h_g g_width g_height g_size g_all g_notFirstColumn g_notLastColumn) (td_X2) [.ref h_g, .long a0, .long a1]) (vp_Si (fun x => x = q)) 0 0 (fun _ => False) := by
  refine mkP_z (cc := cX2_allBreathe) (nL := 5) (by decide) rfl (Nat.le_of_ble_eq_true rfl) ?_
  intro p e R s m args below meth c H Q ls hRf hRl S hN hP hK hl kret
  have hl : lv_has ls 5 [(0, .ref h_g), (1, .long a0), (3, .long a1)] := hl
  obtain ⟨hx, hb, hml, hown, hts⟩ := S
  have hown : s.vm.findClass RX2 = some m.cls := hown
  have S : CallFix p m c cX2_allBreathe 5 s args wsX2_allBreathe RX2 := ⟨hx, hb, hml, hown, hts⟩
  unfold f_X2_allBreathe at hr
  refine lv_aload_n hx hb dX2_allBreathe_0 rfl (lv_at hl 0 rfl) ?_
  refine lv_aload_n hx hb dX2_allBreathe_1 rfl (lv_at hl 0 rfl) ?_
  refine lv_lload_n hx hb dX2_allBreathe_2 rfl (lv_at hl 2 rfl) ?_
  obtain ⟨q1, hq1, hr⟩ := bd_use hr
  refine pcV_l (As := [.long a1]) (rest := [.ref h_g]) S (c_X2_beside l dC dI h_g g_width g_height g_size g_all g_notFirstColumn g_notLastColumn a1 q1 hq1) (cwV 1 hts gX2_allBreathe_X2_beside rfl rfl rfl (by decide +kernel) ⟨Nat.le_trans (m := rm_X2_allBreathe.frames) (by decide) hRf, Nat.le_trans (m := rm_X2_allBreathe.locals) (by decide) hRl⟩) hN hP hK ⟨Nat.zero_le _, Nat.zero_le _⟩ [0] rfl [] rfl 0 2 rfl rfl rfl hl.1 rfl (Nat.le_of_ble_eq_true rfl) dX2_allBreathe_3 ?_
  refine lv_lload_n hx hb dX2_allBreathe_6 rfl (lv_at hl 1 rfl) ?_
  obtain ⟨q2, hq2, hr⟩ := bd_use hr
  refine pcV_l (As := [.long q1, .long a0]) (rest := []) S (c_X2_spread l dC dI h_g g_width g_height g_size g_all g_notFirstColumn g_notLastColumn q1 a0 q2 hq2) (cwV 2 hts gX2_allBreathe_X2_spread rfl rfl rfl (by decide +kernel) ⟨Nat.le_trans (m := rm_X2_allBreathe.frames) (by decide) hRf, Nat.le_trans (m := rm_X2_allBreathe.locals) (by decide) hRl⟩) hN hP hK ⟨Nat.zero_le _, Nat.zero_le _⟩ [0] rfl [] rfl 0 2 rfl rfl rfl hl.1 rfl (Nat.le_of_ble_eq_true rfl) dX2_allBreathe_7 ?_
  refine lv_lload_n hx hb dX2_allBreathe_10 rfl (lv_at hl 1 rfl) ?_
  refine W.lcmp hx hb dX2_allBreathe_11 ?_
  refine lv_if_ne (tgt := 19) hx hb dX2_allBreathe_12 (by decide) (fun c3 => ?_) (fun c3 => ?_)
  · have c3 := cmp_f c3
    have hr := ite_n hr c3
    refine lv_iconst (v := (0 : Int32)) hx hb dX2_allBreathe_19 (by decide) ?_
    obtain rfl := Option.some.inj hr
    exact kret _ _ dX2_allBreathe_20 rfl
  · have c3 := cmp_t c3
    have hr := ite_p hr c3
    refine lv_iconst (v := (1 : Int32)) hx hb dX2_allBreathe_15 (by decide) ?_
    refine lv_goto (tgt := 20) hx hb dX2_allBreathe_16 (by decide) ?_
    obtain rfl := Option.some.inj hr
    exact kret _ _ dX2_allBreathe_20 rfl

def lp_X2_nth_6 (g_size : Int32) (a0 : Int64) (a1 : Int32) : Nat → Int32 → Int32 → Option (Int32)
  | 0, _, _ => none
  | nF + 1, v1, v2 =>
    if g_size ≤ v2 then (
      some ((-1 : Int32))
    )
    else (
      (f_X2_holds a0 v2).bind fun q4 =>
      if q4 = 0 then (
        nm (v2 + 1) fun x6 =>
        lp_X2_nth_6 g_size a0 a1 nF v1 x6
      )
      else (
        if v1 = a1 then (
          some (v2)
        )
        else (
          nm (v1 + 1) fun x8 =>
          nm (v2 + 1) fun x9 =>
          lp_X2_nth_6 g_size a0 a1 nF x8 x9
        )
      )
    )

def f_X2_nth (g_size : Int32) (a0 : Int64) (a1 : Int32) : Option (Int32) :=
  lp_X2_nth_6 g_size a0 a1 1000000 (0 : Int32) (0 : Int32)

abbrev rm_X2_nth : Room := { frames := 1, cells := 0, slots := 0, locals := 22 }
set_option maxHeartbeats 4000000 in
set_option maxRecDepth 100000 in
theorem c_X2_nth (l : Launch) (dC : Nat → ClassId) (dI : Nat → Nat → Nat) (h_g : Nat) (g_width g_height g_size : Int32) (g_all g_notFirstColumn g_notLastColumn : Int64) (a0 : Int64) (a1 : Int32) (q : Int32) (hr : f_X2_nth g_size a0 a1 = some q) : Met l yX2_nth wsX2_nth rm_X2_nth (PrP (dC, dI) (wd_X2 h_g g_width g_height g_size g_all g_notFirstColumn g_notLastColumn) (td_X2) [.ref h_g, .long a0, .int a1]) (vp_Si (fun x => x = q)) 0 0 (fun _ => False) := by
  refine mkP_i (cc := cX2_nth) (nL := 6) (by decide) rfl (Nat.le_of_ble_eq_true rfl) ?_
  intro p e R s m args below meth c H Q ls hRf hRl S hN hP hK hl kret
  have hl : lv_has ls 6 [(0, .ref h_g), (1, .long a0), (3, .int a1)] := hl
  obtain ⟨hx, hb, hml, hown, hts⟩ := S
  have hown : s.vm.findClass RX2 = some m.cls := hown
  have S : CallFix p m c cX2_nth 6 s args wsX2_nth RX2 := ⟨hx, hb, hml, hown, hts⟩
  have huX2 : ∀ w ∈ u_ws RX2 TX2 6, w ∈ wsX2_nth := by decide +kernel
  have hf18 := hts (.fieldLink RX2 18 "EyeBoard$Grid" "size" "I") (by decide +kernel)
  unfold f_X2_nth at hr
  refine lv_iconst (v := (0 : Int32)) hx hb dX2_nth_0 (by decide) ?_
  refine lv_istore (lv' := [(4, .int (0 : Int32)), (0, .ref h_g), (1, .long a0), (3, .int a1)]) hx hb dX2_nth_1 hl (by decide) rfl (fun ls hl => ?_)
  refine lv_iconst (v := (0 : Int32)) hx hb dX2_nth_3 (by decide) ?_
  refine lv_istore (lv' := [(5, .int (0 : Int32)), (4, .int (0 : Int32)), (0, .ref h_g), (1, .long a0), (3, .int a1)]) hx hb dX2_nth_4 hl (by decide) rfl (fun ls hl => ?_)
  have llp_X2_nth_6 : ∀ (nF : Nat) (v1 : Int32) (v2 : Int32) , lp_X2_nth_6 g_size a0 a1 nF v1 v2 = some q → ∀ (ls : Array Slot), lv_has ls 6 [(0, .ref h_g), (1, .long a0), (3, .int a1), (4, .int v1), (5, .int v2)] → W p l e R s m args below meth c H [] 0 0 Q (F0 m 6 ls []) := by
    intro nF
    induction nF with
    | zero => intro v1 v2 hr; exact absurd hr (by simp [lp_X2_nth_6])
    | succ nF ih =>
      intro v1 v2 hr ls hl
      rw [lp_X2_nth_6] at hr
      refine lv_iload hx hb dX2_nth_6 (lv_at hl 4 rfl) ?_
      refine lv_aload_n hx hb dX2_nth_8 rfl (lv_at hl 0 rfl) ?_
      refine va_get (D := (dC, dI)) (ci := 2) (v := .int g_size) (C := RX2) (T := TX2) (N := 6) hx hb hts huX2 hown hK hP 0 rfl rfl 2 (by decide) hf18 (fun _ h9 => h9) rfl dX2_nth_9 ?_
      refine lv_icmp_ge (tgt := 42) hx hb dX2_nth_12 (by decide) (fun c3 => ?_) (fun c3 => ?_)
      · have hr := ite_p hr c3
        refine lv_iconst (v := (-1 : Int32)) hx hb dX2_nth_42 (by decide) ?_
        obtain rfl := Option.some.inj hr
        exact kret _ _ dX2_nth_43
      · have hr := ite_n hr c3
        refine lv_lload_n hx hb dX2_nth_15 rfl (lv_at hl 1 rfl) ?_
        refine lv_iload hx hb dX2_nth_16 (lv_at hl 4 rfl) ?_
        obtain ⟨q4, hq4, hr⟩ := bd_use hr
        refine pcS_i (As := [.long a0, .int v2]) (rest := []) S (c_X2_holds l dC dI a0 v2 q4 hq4) (va_cwS 2 hts gX2_nth_X2_holds rfl rfl rfl (by decide +kernel) ⟨Nat.le_trans (m := rm_X2_nth.frames) (by decide) hRf, Nat.le_trans (m := rm_X2_nth.locals) (by decide) hRl⟩) hN hP hK ⟨Nat.zero_le _, Nat.zero_le _⟩ rfl hl.1 rfl (Nat.le_of_ble_eq_true rfl) dX2_nth_18 ?_
        refine lv_if_eq (tgt := 36) hx hb dX2_nth_21 (by decide) (fun c5 => ?_) (fun c5 => ?_)
        · have hr := ite_p hr c5
          obtain ⟨x6, ex6, hr⟩ := nm_ex hr
          refine lv_iinc (v := x6) (lv' := [(5, .int x6), (0, .ref h_g), (1, .long a0), (3, .int a1), (4, .int v1)]) hx hb dX2_nth_36 hl (k := 4) rfl (by rw [ex6]; rfl) (by decide) rfl (fun ls hl => ?_)
          refine lv_goto (tgt := 6) hx hb dX2_nth_39 (by decide) ?_
          exact ih v1 x6 hr ls (lv_sub hl [1, 2, 3, 4, 0] rfl)
        · have hr := ite_n hr c5
          refine lv_iload hx hb dX2_nth_24 (lv_at hl 3 rfl) ?_
          refine lv_iload_n hx hb dX2_nth_26 rfl (lv_at hl 2 rfl) ?_
          refine lv_icmp_ne (tgt := 33) hx hb dX2_nth_27 (by decide) (fun c7 => ?_) (fun c7 => ?_)
          · have hr := ite_n hr c7
            obtain ⟨x8, ex8, hr⟩ := nm_ex hr
            refine lv_iinc (v := x8) (lv' := [(4, .int x8), (0, .ref h_g), (1, .long a0), (3, .int a1), (5, .int v2)]) hx hb dX2_nth_33 hl (k := 3) rfl (by rw [ex8]; rfl) (by decide) rfl (fun ls hl => ?_)
            obtain ⟨x9, ex9, hr⟩ := nm_ex hr
            refine lv_iinc (v := x9) (lv' := [(5, .int x9), (4, .int x8), (0, .ref h_g), (1, .long a0), (3, .int a1)]) hx hb dX2_nth_36 hl (k := 4) rfl (by rw [ex9]; rfl) (by decide) rfl (fun ls hl => ?_)
            refine lv_goto (tgt := 6) hx hb dX2_nth_39 (by decide) ?_
            exact ih x8 x9 hr ls (lv_sub hl [2, 3, 4, 1, 0] rfl)
          · have hr := ite_p hr c7
            refine lv_iload hx hb dX2_nth_30 (lv_at hl 4 rfl) ?_
            obtain rfl := Option.some.inj hr
            exact kret _ _ dX2_nth_32
  exact llp_X2_nth_6 1000000 (0 : Int32) (0 : Int32) hr ls (lv_sub hl [2, 3, 4, 1, 0] rfl)

def lp_X2_freeOf_20 (g_width : Int32) (g_size : Int32) (g_all : Int64) (g_notFirstColumn : Int64) (g_notLastColumn : Int64) (a0 : Int64) (a1 : Int64) (x1 : Int64) : Nat → Int64 → Int32 → Option (Int64)
  | 0, _, _ => none
  | nF + 1, v2, v3 =>
    if g_size ≤ v3 then (
      some (v2)
    )
    else (
      (f_X2_partFrom g_width g_all g_notFirstColumn g_notLastColumn x1 v3).bind fun q5 =>
      (f_X2_beside g_width g_all g_notFirstColumn g_notLastColumn q5).bind fun q6 =>
      if q6 &&& a0 = (0 : Int64) then (
        nm (v3 + 1) fun x8 =>
        lp_X2_freeOf_20 g_width g_size g_all g_notFirstColumn g_notLastColumn a0 a1 x1 nF v2 x8
      )
      else (
        if q6 &&& a1 = (0 : Int64) then (
          nm (v2 ||| q5) fun x11 =>
          nm (v3 + 1) fun x12 =>
          lp_X2_freeOf_20 g_width g_size g_all g_notFirstColumn g_notLastColumn a0 a1 x1 nF x11 x12
        )
        else (
          nm (v3 + 1) fun x10 =>
          lp_X2_freeOf_20 g_width g_size g_all g_notFirstColumn g_notLastColumn a0 a1 x1 nF v2 x10
        )
      )
    )

def f_X2_freeOf (g_width : Int32) (g_size : Int32) (g_all : Int64) (g_notFirstColumn : Int64) (g_notLastColumn : Int64) (a0 : Int64) (a1 : Int64) : Option (Int64) :=
  nm (g_all &&& ((a0 ||| a1) ^^^ (-1 : Int64))) fun x1 =>
  lp_X2_freeOf_20 g_width g_size g_all g_notFirstColumn g_notLastColumn a0 a1 x1 1000000 (0 : Int64) (0 : Int32)

abbrev rm_X2_freeOf : Room := { frames := 3, cells := 0, slots := 0, locals := 82 }
set_option maxHeartbeats 4000000 in
set_option maxRecDepth 100000 in
theorem c_X2_freeOf (l : Launch) (dC : Nat → ClassId) (dI : Nat → Nat → Nat) (h_g : Nat) (g_width g_height g_size : Int32) (g_all g_notFirstColumn g_notLastColumn : Int64) (a0 : Int64) (a1 : Int64) (q : Int64) (hr : f_X2_freeOf g_width g_size g_all g_notFirstColumn g_notLastColumn a0 a1 = some q) : Met l yX2_freeOf wsX2_freeOf rm_X2_freeOf (PrP (dC, dI) (wd_X2 h_g g_width g_height g_size g_all g_notFirstColumn g_notLastColumn) (td_X2) [.ref h_g, .long a0, .long a1]) (vp_Sl (fun x => x = q)) 0 0 (fun _ => False) := by
  refine mkP_l (cc := cX2_freeOf) (nL := 14) (by decide) rfl (Nat.le_of_ble_eq_true rfl) ?_
  intro p e R s m args below meth c H Q ls hRf hRl S hN hP hK hl kret
  have hl : lv_has ls 14 [(0, .ref h_g), (1, .long a0), (3, .long a1)] := hl
  obtain ⟨hx, hb, hml, hown, hts⟩ := S
  have hown : s.vm.findClass RX2 = some m.cls := hown
  have S : CallFix p m c cX2_freeOf 14 s args wsX2_freeOf RX2 := ⟨hx, hb, hml, hown, hts⟩
  have huX2 : ∀ w ∈ u_ws RX2 TX2 6, w ∈ wsX2_freeOf := by decide +kernel
  have hf21 := hts (.fieldLink RX2 21 "EyeBoard$Grid" "all" "J") (by decide +kernel)
  have hk25 := hts (.constantLong RX2 25 (-1 : Int64)) (by decide +kernel)
  have hf18 := hts (.fieldLink RX2 18 "EyeBoard$Grid" "size" "I") (by decide +kernel)
  unfold f_X2_freeOf at hr
  refine lv_aload_n hx hb dX2_freeOf_0 rfl (lv_at hl 0 rfl) ?_
  refine va_get (D := (dC, dI)) (ci := 2) (v := .long g_all) (C := RX2) (T := TX2) (N := 6) hx hb hts huX2 hown hK hP 0 rfl rfl 3 (by decide) hf21 (fun _ h9 => h9) rfl dX2_freeOf_1 ?_
  refine lv_lload_n hx hb dX2_freeOf_4 rfl (lv_at hl 1 rfl) ?_
  refine lv_lload_n hx hb dX2_freeOf_5 rfl (lv_at hl 2 rfl) ?_
  refine lv_lor hx hb dX2_freeOf_6 ?_
  refine W.ldc2 (v := (-1 : Int64)) hx hb hown hk25 rfl dX2_freeOf_7 ?_
  refine W.eq (g2 := F0 m 10 ls [.long (-1 : Int64), .long (a0 ||| a1), .long g_all]) rfl ?_
  refine lv_lxor hx hb dX2_freeOf_10 ?_
  refine lv_land hx hb dX2_freeOf_11 ?_
  refine lv_topl (fun x1 ex1 => ?_)
  have hr := nm_use hr ex1
  refine lv_lstore (lv' := [(5, .long x1), (0, .ref h_g), (1, .long a0), (3, .long a1)]) hx hb dX2_freeOf_12 hl (by decide) rfl (fun ls hl => ?_)
  refine lv_lconst (v := (0 : Int64)) hx hb dX2_freeOf_14 (by decide) ?_
  refine lv_lstore (lv' := [(7, .long (0 : Int64)), (5, .long x1), (0, .ref h_g), (1, .long a0), (3, .long a1)]) hx hb dX2_freeOf_15 hl (by decide) rfl (fun ls hl => ?_)
  refine lv_iconst (v := (0 : Int32)) hx hb dX2_freeOf_17 (by decide) ?_
  refine lv_istore (lv' := [(9, .int (0 : Int32)), (7, .long (0 : Int64)), (5, .long x1), (0, .ref h_g), (1, .long a0), (3, .long a1)]) hx hb dX2_freeOf_18 hl (by decide) rfl (fun ls hl => ?_)
  have llp_X2_freeOf_20 : ∀ (nF : Nat) (v2 : Int64) (v3 : Int32) , lp_X2_freeOf_20 g_width g_size g_all g_notFirstColumn g_notLastColumn a0 a1 x1 nF v2 v3 = some q → ∀ (ls : Array Slot), lv_has ls 14 [(0, .ref h_g), (1, .long a0), (3, .long a1), (5, .long x1), (7, .long v2), (9, .int v3)] → W p l e R s m args below meth c H [] 0 0 Q (F0 m 20 ls []) := by
    intro nF
    induction nF with
    | zero => intro v2 v3 hr; exact absurd hr (by simp [lp_X2_freeOf_20])
    | succ nF ih =>
      intro v2 v3 hr ls hl
      rw [lp_X2_freeOf_20] at hr
      refine lv_iload hx hb dX2_freeOf_20 (lv_at hl 5 rfl) ?_
      refine lv_aload_n hx hb dX2_freeOf_22 rfl (lv_at hl 0 rfl) ?_
      refine va_get (D := (dC, dI)) (ci := 2) (v := .int g_size) (C := RX2) (T := TX2) (N := 6) hx hb hts huX2 hown hK hP 0 rfl rfl 2 (by decide) hf18 (fun _ h9 => h9) rfl dX2_freeOf_23 ?_
      refine lv_icmp_ge (tgt := 78) hx hb dX2_freeOf_26 (by decide) (fun c4 => ?_) (fun c4 => ?_)
      · have hr := ite_p hr c4
        refine lv_lload hx hb dX2_freeOf_78 (lv_at hl 4 rfl) ?_
        obtain rfl := Option.some.inj hr
        exact kret _ _ dX2_freeOf_80
      · have hr := ite_n hr c4
        refine lv_aload_n hx hb dX2_freeOf_29 rfl (lv_at hl 0 rfl) ?_
        refine lv_lload hx hb dX2_freeOf_30 (lv_at hl 3 rfl) ?_
        refine lv_iload hx hb dX2_freeOf_32 (lv_at hl 5 rfl) ?_
        obtain ⟨q5, hq5, hr⟩ := bd_use hr
        refine pcV_l (As := [.long x1, .int v3]) (rest := []) S (c_X2_partFrom l dC dI h_g g_width g_height g_size g_all g_notFirstColumn g_notLastColumn x1 v3 q5 hq5) (cwV 2 hts gX2_freeOf_X2_partFrom rfl rfl rfl (by decide +kernel) ⟨Nat.le_trans (m := rm_X2_freeOf.frames) (by decide) hRf, Nat.le_trans (m := rm_X2_freeOf.locals) (by decide) hRl⟩) hN hP hK ⟨Nat.zero_le _, Nat.zero_le _⟩ [0] rfl [] rfl 0 2 rfl rfl rfl hl.1 rfl (Nat.le_of_ble_eq_true rfl) dX2_freeOf_34 ?_
        refine lv_lstore (lv' := [(10, .long q5), (0, .ref h_g), (1, .long a0), (3, .long a1), (5, .long x1), (7, .long v2), (9, .int v3)]) hx hb dX2_freeOf_37 hl (by decide) rfl (fun ls hl => ?_)
        refine lv_aload_n hx hb dX2_freeOf_39 rfl (lv_at hl 1 rfl) ?_
        refine lv_lload hx hb dX2_freeOf_40 (lv_at hl 0 rfl) ?_
        obtain ⟨q6, hq6, hr⟩ := bd_use hr
        refine pcV_l (As := [.long q5]) (rest := []) S (c_X2_beside l dC dI h_g g_width g_height g_size g_all g_notFirstColumn g_notLastColumn q5 q6 hq6) (cwV 1 hts gX2_freeOf_X2_beside rfl rfl rfl (by decide +kernel) ⟨Nat.le_trans (m := rm_X2_freeOf.frames) (by decide) hRf, Nat.le_trans (m := rm_X2_freeOf.locals) (by decide) hRl⟩) hN hP hK ⟨Nat.zero_le _, Nat.zero_le _⟩ [0] rfl [] rfl 0 2 rfl rfl rfl hl.1 rfl (Nat.le_of_ble_eq_true rfl) dX2_freeOf_42 ?_
        refine lv_lstore (lv' := [(12, .long q6), (10, .long q5), (0, .ref h_g), (1, .long a0), (3, .long a1), (5, .long x1), (7, .long v2), (9, .int v3)]) hx hb dX2_freeOf_45 hl (by decide) rfl (fun ls hl => ?_)
        refine lv_lload hx hb dX2_freeOf_47 (lv_at hl 0 rfl) ?_
        refine lv_lload_n hx hb dX2_freeOf_49 rfl (lv_at hl 3 rfl) ?_
        refine lv_land hx hb dX2_freeOf_50 ?_
        refine lv_lconst (v := (0 : Int64)) hx hb dX2_freeOf_51 (by decide) ?_
        refine W.lcmp hx hb dX2_freeOf_52 ?_
        refine lv_if_eq (tgt := 72) hx hb dX2_freeOf_53 (by decide) (fun c7 => ?_) (fun c7 => ?_)
        · have c7 := cmp_t c7
          have hr := ite_p hr c7
          obtain ⟨x8, ex8, hr⟩ := nm_ex hr
          refine lv_iinc (v := x8) (lv' := [(9, .int x8), (12, .long q6), (10, .long q5), (0, .ref h_g), (1, .long a0), (3, .long a1), (5, .long x1), (7, .long v2)]) hx hb dX2_freeOf_72 hl (k := 7) rfl (by rw [ex8]; rfl) (by decide) rfl (fun ls hl => ?_)
          refine lv_goto (tgt := 20) hx hb dX2_freeOf_75 (by decide) ?_
          exact ih v2 x8 hr ls (lv_sub hl [3, 4, 5, 6, 7, 0] rfl)
        · have c7 := cmp_f c7
          have hr := ite_n hr c7
          refine lv_lload hx hb dX2_freeOf_56 (lv_at hl 0 rfl) ?_
          refine lv_lload_n hx hb dX2_freeOf_58 rfl (lv_at hl 4 rfl) ?_
          refine lv_land hx hb dX2_freeOf_59 ?_
          refine lv_lconst (v := (0 : Int64)) hx hb dX2_freeOf_60 (by decide) ?_
          refine W.lcmp hx hb dX2_freeOf_61 ?_
          refine lv_if_ne (tgt := 72) hx hb dX2_freeOf_62 (by decide) (fun c9 => ?_) (fun c9 => ?_)
          · have c9 := cmp_f c9
            have hr := ite_n hr c9
            obtain ⟨x10, ex10, hr⟩ := nm_ex hr
            refine lv_iinc (v := x10) (lv' := [(9, .int x10), (12, .long q6), (10, .long q5), (0, .ref h_g), (1, .long a0), (3, .long a1), (5, .long x1), (7, .long v2)]) hx hb dX2_freeOf_72 hl (k := 7) rfl (by rw [ex10]; rfl) (by decide) rfl (fun ls hl => ?_)
            refine lv_goto (tgt := 20) hx hb dX2_freeOf_75 (by decide) ?_
            exact ih v2 x10 hr ls (lv_sub hl [3, 4, 5, 6, 7, 0] rfl)
          · have c9 := cmp_t c9
            have hr := ite_p hr c9
            refine lv_lload hx hb dX2_freeOf_65 (lv_at hl 6 rfl) ?_
            refine lv_lload hx hb dX2_freeOf_67 (lv_at hl 1 rfl) ?_
            refine lv_lor hx hb dX2_freeOf_69 ?_
            refine lv_topl (fun x11 ex11 => ?_)
            have hr := nm_use hr ex11
            refine lv_lstore (lv' := [(7, .long x11), (12, .long q6), (10, .long q5), (0, .ref h_g), (1, .long a0), (3, .long a1), (5, .long x1), (9, .int v3)]) hx hb dX2_freeOf_70 hl (by decide) rfl (fun ls hl => ?_)
            obtain ⟨x12, ex12, hr⟩ := nm_ex hr
            refine lv_iinc (v := x12) (lv' := [(9, .int x12), (7, .long x11), (12, .long q6), (10, .long q5), (0, .ref h_g), (1, .long a0), (3, .long a1), (5, .long x1)]) hx hb dX2_freeOf_72 hl (k := 7) rfl (by rw [ex12]; rfl) (by decide) rfl (fun ls hl => ?_)
            refine lv_goto (tgt := 20) hx hb dX2_freeOf_75 (by decide) ?_
            exact ih x11 x12 hr ls (lv_sub hl [4, 5, 6, 7, 1, 0] rfl)
  exact llp_X2_freeOf_20 1000000 (0 : Int64) (0 : Int32) hr ls (lv_sub hl [3, 4, 5, 2, 1, 0] rfl)
end
