section
-- ===== PART A: goes FIRST, ahead of the names: the tables' words, and 'selects' of the private methods out of them =====
/-- a private method of a class that the tables say can be made, by its rows of tables_1 -/
def lw_okq (q : MethodName × Nat) : Prop := (q.1.cls ≠ "java/lang/invoke/MethodHandle" ∧ q.1.cls ≠ "java/lang/invoke/VarHandle") ∧ Cond.instantiable q.1.cls q.2 ∈ tables_1 ∧ Cond.privateMethod q.1 ∈ tables_1 ∧ Cond.instanceMethod q.1 ∈ tables_1
theorem lw_p0 : lw_okq (⟨"MoodPlayer$Table", "improve", "(LMoodPlayer$Score;II)Z"⟩, 2) := ⟨⟨by decide +kernel, by decide +kernel⟩, List.mem_of_getElem? (i := 182) (by decide +kernel), List.mem_of_getElem? (i := 276) (by decide +kernel), List.mem_of_getElem? (i := 277) (by decide +kernel)⟩
theorem lw_p1 : lw_okq (⟨"MoodPlayer$Guide", "firstStep", "()I"⟩, 7) := ⟨⟨by decide +kernel, by decide +kernel⟩, List.mem_of_getElem? (i := 198) (by decide +kernel), List.mem_of_getElem? (i := 287) (by decide +kernel), List.mem_of_getElem? (i := 288) (by decide +kernel)⟩
theorem lw_p2 : lw_okq (⟨"MoodPlayer$Guide", "isOpen", "(I)Z"⟩, 7) := ⟨⟨by decide +kernel, by decide +kernel⟩, List.mem_of_getElem? (i := 198) (by decide +kernel), List.mem_of_getElem? (i := 292) (by decide +kernel), List.mem_of_getElem? (i := 293) (by decide +kernel)⟩
theorem lw_p3 : lw_okq (⟨"MoodPlayer$Guide", "costBy", "(I)J"⟩, 7) := ⟨⟨by decide +kernel, by decide +kernel⟩, List.mem_of_getElem? (i := 198) (by decide +kernel), List.mem_of_getElem? (i := 296) (by decide +kernel), List.mem_of_getElem? (i := 297) (by decide +kernel)⟩
theorem lw_p4 : lw_okq (⟨"MoodPlayer$Guide", "pieceBehind", "(I)I"⟩, 7) := ⟨⟨by decide +kernel, by decide +kernel⟩, List.mem_of_getElem? (i := 198) (by decide +kernel), List.mem_of_getElem? (i := 300) (by decide +kernel), List.mem_of_getElem? (i := 301) (by decide +kernel)⟩
theorem lw_p5 : lw_okq (⟨"MoodPlayer$Guide", "addStep", "(I)V"⟩, 7) := ⟨⟨by decide +kernel, by decide +kernel⟩, List.mem_of_getElem? (i := 198) (by decide +kernel), List.mem_of_getElem? (i := 309) (by decide +kernel), List.mem_of_getElem? (i := 310) (by decide +kernel)⟩
theorem lw_p6 : lw_okq (⟨"MoodPlayer$Guide", "followTable", "(I)V"⟩, 7) := ⟨⟨by decide +kernel, by decide +kernel⟩, List.mem_of_getElem? (i := 198) (by decide +kernel), List.mem_of_getElem? (i := 313) (by decide +kernel), List.mem_of_getElem? (i := 314) (by decide +kernel)⟩
theorem lw_p7 : lw_okq (⟨"MoodPlayer$Guide", "firstOnTable", "(I)I"⟩, 7) := ⟨⟨by decide +kernel, by decide +kernel⟩, List.mem_of_getElem? (i := 198) (by decide +kernel), List.mem_of_getElem? (i := 317) (by decide +kernel), List.mem_of_getElem? (i := 318) (by decide +kernel)⟩
theorem lw_p8 : lw_okq (⟨"MoodPlayer", "checkPiece", "(I)V"⟩, 6) := ⟨⟨by decide +kernel, by decide +kernel⟩, List.mem_of_getElem? (i := 17) (by decide +kernel), List.mem_of_getElem? (i := 347) (by decide +kernel), List.mem_of_getElem? (i := 348) (by decide +kernel)⟩
theorem lw_p9 : lw_okq (⟨"java/lang/Throwable", "fillInStackTrace", "(I)Ljava/lang/Throwable;"⟩, 6) := ⟨⟨by decide +kernel, by decide +kernel⟩, List.mem_of_getElem? (i := 392) (by decide +kernel), List.mem_of_getElem? (i := 390) (by decide +kernel), List.mem_of_getElem? (i := 391) (by decide +kernel)⟩
theorem lw_p10 : lw_okq (⟨"MoodPlayer$Score", "isJoint", "(III)Z"⟩, 12) := ⟨⟨by decide +kernel, by decide +kernel⟩, List.mem_of_getElem? (i := 25) (by decide +kernel), List.mem_of_getElem? (i := 431) (by decide +kernel), List.mem_of_getElem? (i := 432) (by decide +kernel)⟩
theorem lw_p11 : lw_okq (⟨"MoodPlayer", "begin", "(II)V"⟩, 6) := ⟨⟨by decide +kernel, by decide +kernel⟩, List.mem_of_getElem? (i := 17) (by decide +kernel), List.mem_of_getElem? (i := 471) (by decide +kernel), List.mem_of_getElem? (i := 472) (by decide +kernel)⟩
theorem lw_p12 : lw_okq (⟨"MoodPlayer", "meetMood", "()Z"⟩, 6) := ⟨⟨by decide +kernel, by decide +kernel⟩, List.mem_of_getElem? (i := 17) (by decide +kernel), List.mem_of_getElem? (i := 475) (by decide +kernel), List.mem_of_getElem? (i := 476) (by decide +kernel)⟩
theorem lw_p13 : lw_okq (⟨"MoodPlayer", "checkMood", "(I)V"⟩, 6) := ⟨⟨by decide +kernel, by decide +kernel⟩, List.mem_of_getElem? (i := 17) (by decide +kernel), List.mem_of_getElem? (i := 488) (by decide +kernel), List.mem_of_getElem? (i := 489) (by decide +kernel)⟩
theorem lw_p14 : lw_okq (⟨"MoodPlayer", "stepsLeft", "()I"⟩, 6) := ⟨⟨by decide +kernel, by decide +kernel⟩, List.mem_of_getElem? (i := 17) (by decide +kernel), List.mem_of_getElem? (i := 493) (by decide +kernel), List.mem_of_getElem? (i := 494) (by decide +kernel)⟩
theorem lw_p15 : lw_okq (⟨"MoodPlayer", "checkPlayable", "(I)V"⟩, 6) := ⟨⟨by decide +kernel, by decide +kernel⟩, List.mem_of_getElem? (i := 17) (by decide +kernel), List.mem_of_getElem? (i := 517) (by decide +kernel), List.mem_of_getElem? (i := 518) (by decide +kernel)⟩
def lw_privs_1 : List (MethodName × Nat) := [(⟨"MoodPlayer$Table", "improve", "(LMoodPlayer$Score;II)Z"⟩, 2), (⟨"MoodPlayer$Guide", "firstStep", "()I"⟩, 7), (⟨"MoodPlayer$Guide", "isOpen", "(I)Z"⟩, 7), (⟨"MoodPlayer$Guide", "costBy", "(I)J"⟩, 7), (⟨"MoodPlayer$Guide", "pieceBehind", "(I)I"⟩, 7), (⟨"MoodPlayer$Guide", "addStep", "(I)V"⟩, 7), (⟨"MoodPlayer$Guide", "followTable", "(I)V"⟩, 7), (⟨"MoodPlayer$Guide", "firstOnTable", "(I)I"⟩, 7), (⟨"MoodPlayer", "checkPiece", "(I)V"⟩, 6), (⟨"java/lang/Throwable", "fillInStackTrace", "(I)Ljava/lang/Throwable;"⟩, 6), (⟨"MoodPlayer$Score", "isJoint", "(III)Z"⟩, 12), (⟨"MoodPlayer", "begin", "(II)V"⟩, 6), (⟨"MoodPlayer", "meetMood", "()Z"⟩, 6), (⟨"MoodPlayer", "checkMood", "(I)V"⟩, 6), (⟨"MoodPlayer", "stepsLeft", "()I"⟩, 6), (⟨"MoodPlayer", "checkPlayable", "(I)V"⟩, 6)]
theorem lw_r1 : ∀ q ∈ lw_privs_1, lw_okq q := List.forall_mem_cons.mpr ⟨lw_p0, List.forall_mem_cons.mpr ⟨lw_p1, List.forall_mem_cons.mpr ⟨lw_p2, List.forall_mem_cons.mpr ⟨lw_p3, List.forall_mem_cons.mpr ⟨lw_p4, List.forall_mem_cons.mpr ⟨lw_p5, List.forall_mem_cons.mpr ⟨lw_p6, List.forall_mem_cons.mpr ⟨lw_p7, List.forall_mem_cons.mpr ⟨lw_p8, List.forall_mem_cons.mpr ⟨lw_p9, List.forall_mem_cons.mpr ⟨lw_p10, List.forall_mem_cons.mpr ⟨lw_p11, List.forall_mem_cons.mpr ⟨lw_p12, List.forall_mem_cons.mpr ⟨lw_p13, List.forall_mem_cons.mpr ⟨lw_p14, List.forall_mem_cons.mpr ⟨lw_p15, fun _ h => absurd h List.not_mem_nil⟩⟩⟩⟩⟩⟩⟩⟩⟩⟩⟩⟩⟩⟩⟩⟩
theorem lw_p16 : lw_okq (⟨"MoodPlayer", "nextMoment", "()J"⟩, 6) := ⟨⟨by decide +kernel, by decide +kernel⟩, List.mem_of_getElem? (i := 17) (by decide +kernel), List.mem_of_getElem? (i := 562) (by decide +kernel), List.mem_of_getElem? (i := 563) (by decide +kernel)⟩
theorem lw_p17 : lw_okq (⟨"MoodPlayer", "beatEnd", "()J"⟩, 6) := ⟨⟨by decide +kernel, by decide +kernel⟩, List.mem_of_getElem? (i := 17) (by decide +kernel), List.mem_of_getElem? (i := 567) (by decide +kernel), List.mem_of_getElem? (i := 568) (by decide +kernel)⟩
theorem lw_p18 : lw_okq (⟨"MoodPlayer", "endSting", "()V"⟩, 6) := ⟨⟨by decide +kernel, by decide +kernel⟩, List.mem_of_getElem? (i := 17) (by decide +kernel), List.mem_of_getElem? (i := 574) (by decide +kernel), List.mem_of_getElem? (i := 575) (by decide +kernel)⟩
theorem lw_p19 : lw_okq (⟨"MoodPlayer", "endBeat", "()V"⟩, 6) := ⟨⟨by decide +kernel, by decide +kernel⟩, List.mem_of_getElem? (i := 17) (by decide +kernel), List.mem_of_getElem? (i := 578) (by decide +kernel), List.mem_of_getElem? (i := 579) (by decide +kernel)⟩
theorem lw_p20 : lw_okq (⟨"MoodPlayer", "isDue", "(IZ)Z"⟩, 6) := ⟨⟨by decide +kernel, by decide +kernel⟩, List.mem_of_getElem? (i := 17) (by decide +kernel), List.mem_of_getElem? (i := 582) (by decide +kernel), List.mem_of_getElem? (i := 583) (by decide +kernel)⟩
theorem lw_p21 : lw_okq (⟨"MoodPlayer", "takeStep", "(II)V"⟩, 6) := ⟨⟨by decide +kernel, by decide +kernel⟩, List.mem_of_getElem? (i := 17) (by decide +kernel), List.mem_of_getElem? (i := 590) (by decide +kernel), List.mem_of_getElem? (i := 591) (by decide +kernel)⟩
theorem lw_p22 : lw_okq (⟨"MoodPlayer", "endPiece", "()V"⟩, 6) := ⟨⟨by decide +kernel, by decide +kernel⟩, List.mem_of_getElem? (i := 17) (by decide +kernel), List.mem_of_getElem? (i := 594) (by decide +kernel), List.mem_of_getElem? (i := 595) (by decide +kernel)⟩
theorem lw_p23 : lw_okq (⟨"MoodPlayer", "stepAtEnd", "()I"⟩, 6) := ⟨⟨by decide +kernel, by decide +kernel⟩, List.mem_of_getElem? (i := 17) (by decide +kernel), List.mem_of_getElem? (i := 598) (by decide +kernel), List.mem_of_getElem? (i := 599) (by decide +kernel)⟩
theorem lw_p24 : lw_okq (⟨"MoodPlayer", "fallSilent", "()V"⟩, 6) := ⟨⟨by decide +kernel, by decide +kernel⟩, List.mem_of_getElem? (i := 17) (by decide +kernel), List.mem_of_getElem? (i := 606) (by decide +kernel), List.mem_of_getElem? (i := 607) (by decide +kernel)⟩
theorem lw_p25 : lw_okq (⟨"MoodPlayer", "moveLayers", "()V"⟩, 6) := ⟨⟨by decide +kernel, by decide +kernel⟩, List.mem_of_getElem? (i := 17) (by decide +kernel), List.mem_of_getElem? (i := 610) (by decide +kernel), List.mem_of_getElem? (i := 611) (by decide +kernel)⟩
theorem lw_p26 : lw_okq (⟨"MoodPlayer", "beginSting", "()V"⟩, 6) := ⟨⟨by decide +kernel, by decide +kernel⟩, List.mem_of_getElem? (i := 17) (by decide +kernel), List.mem_of_getElem? (i := 629) (by decide +kernel), List.mem_of_getElem? (i := 630) (by decide +kernel)⟩
theorem lw_p27 : lw_okq (⟨"MoodPlayer", "slotAt", "(I)LMoodPlayer$State;"⟩, 6) := ⟨⟨by decide +kernel, by decide +kernel⟩, List.mem_of_getElem? (i := 17) (by decide +kernel), List.mem_of_getElem? (i := 676) (by decide +kernel), List.mem_of_getElem? (i := 677) (by decide +kernel)⟩
theorem lw_p28 : lw_okq (⟨"MoodPlayerModel", "finds", "()V"⟩, 31) := ⟨⟨by decide +kernel, by decide +kernel⟩, List.mem_of_getElem? (i := 695) (by decide +kernel), List.mem_of_getElem? (i := 805) (by decide +kernel), List.mem_of_getElem? (i := 806) (by decide +kernel)⟩
theorem lw_p29 : lw_okq (⟨"MoodPlayerModel", "get", "(I)I"⟩, 31) := ⟨⟨by decide +kernel, by decide +kernel⟩, List.mem_of_getElem? (i := 695) (by decide +kernel), List.mem_of_getElem? (i := 809) (by decide +kernel), List.mem_of_getElem? (i := 810) (by decide +kernel)⟩
theorem lw_p30 : lw_okq (⟨"MoodPlayerModel", "reckons", "(IZ)V"⟩, 31) := ⟨⟨by decide +kernel, by decide +kernel⟩, List.mem_of_getElem? (i := 695) (by decide +kernel), List.mem_of_getElem? (i := 813) (by decide +kernel), List.mem_of_getElem? (i := 814) (by decide +kernel)⟩
theorem lw_p31 : lw_okq (⟨"MoodPlayerModel", "has", "(II)Z"⟩, 31) := ⟨⟨by decide +kernel, by decide +kernel⟩, List.mem_of_getElem? (i := 695) (by decide +kernel), List.mem_of_getElem? (i := 817) (by decide +kernel), List.mem_of_getElem? (i := 818) (by decide +kernel)⟩
def lw_privs_2 : List (MethodName × Nat) := [(⟨"MoodPlayer", "nextMoment", "()J"⟩, 6), (⟨"MoodPlayer", "beatEnd", "()J"⟩, 6), (⟨"MoodPlayer", "endSting", "()V"⟩, 6), (⟨"MoodPlayer", "endBeat", "()V"⟩, 6), (⟨"MoodPlayer", "isDue", "(IZ)Z"⟩, 6), (⟨"MoodPlayer", "takeStep", "(II)V"⟩, 6), (⟨"MoodPlayer", "endPiece", "()V"⟩, 6), (⟨"MoodPlayer", "stepAtEnd", "()I"⟩, 6), (⟨"MoodPlayer", "fallSilent", "()V"⟩, 6), (⟨"MoodPlayer", "moveLayers", "()V"⟩, 6), (⟨"MoodPlayer", "beginSting", "()V"⟩, 6), (⟨"MoodPlayer", "slotAt", "(I)LMoodPlayer$State;"⟩, 6), (⟨"MoodPlayerModel", "finds", "()V"⟩, 31), (⟨"MoodPlayerModel", "get", "(I)I"⟩, 31), (⟨"MoodPlayerModel", "reckons", "(IZ)V"⟩, 31), (⟨"MoodPlayerModel", "has", "(II)Z"⟩, 31)]
theorem lw_r2 : ∀ q ∈ lw_privs_2, lw_okq q := List.forall_mem_cons.mpr ⟨lw_p16, List.forall_mem_cons.mpr ⟨lw_p17, List.forall_mem_cons.mpr ⟨lw_p18, List.forall_mem_cons.mpr ⟨lw_p19, List.forall_mem_cons.mpr ⟨lw_p20, List.forall_mem_cons.mpr ⟨lw_p21, List.forall_mem_cons.mpr ⟨lw_p22, List.forall_mem_cons.mpr ⟨lw_p23, List.forall_mem_cons.mpr ⟨lw_p24, List.forall_mem_cons.mpr ⟨lw_p25, List.forall_mem_cons.mpr ⟨lw_p26, List.forall_mem_cons.mpr ⟨lw_p27, List.forall_mem_cons.mpr ⟨lw_p28, List.forall_mem_cons.mpr ⟨lw_p29, List.forall_mem_cons.mpr ⟨lw_p30, List.forall_mem_cons.mpr ⟨lw_p31, fun _ h => absurd h List.not_mem_nil⟩⟩⟩⟩⟩⟩⟩⟩⟩⟩⟩⟩⟩⟩⟩⟩
theorem lw_p32 : lw_okq (⟨"MoodPlayerModel", "isStep", "(III)Z"⟩, 31) := ⟨⟨by decide +kernel, by decide +kernel⟩, List.mem_of_getElem? (i := 695) (by decide +kernel), List.mem_of_getElem? (i := 823) (by decide +kernel), List.mem_of_getElem? (i := 824) (by decide +kernel)⟩
theorem lw_p33 : lw_okq (⟨"MoodPlayerModel", "leads", "(II)I"⟩, 31) := ⟨⟨by decide +kernel, by decide +kernel⟩, List.mem_of_getElem? (i := 695) (by decide +kernel), List.mem_of_getElem? (i := 827) (by decide +kernel), List.mem_of_getElem? (i := 828) (by decide +kernel)⟩
theorem lw_p34 : lw_okq (⟨"MoodPlayerModel", "stepCost", "(IIII)J"⟩, 31) := ⟨⟨by decide +kernel, by decide +kernel⟩, List.mem_of_getElem? (i := 695) (by decide +kernel), List.mem_of_getElem? (i := 831) (by decide +kernel), List.mem_of_getElem? (i := 832) (by decide +kernel)⟩
theorem lw_p35 : lw_okq (⟨"MoodPlayerModel", "until", "(IIII)J"⟩, 31) := ⟨⟨by decide +kernel, by decide +kernel⟩, List.mem_of_getElem? (i := 695) (by decide +kernel), List.mem_of_getElem? (i := 835) (by decide +kernel), List.mem_of_getElem? (i := 836) (by decide +kernel)⟩
theorem lw_p36 : lw_okq (⟨"MoodPlayerModel", "isPiece", "(I)Z"⟩, 31) := ⟨⟨by decide +kernel, by decide +kernel⟩, List.mem_of_getElem? (i := 695) (by decide +kernel), List.mem_of_getElem? (i := 843) (by decide +kernel), List.mem_of_getElem? (i := 844) (by decide +kernel)⟩
theorem lw_p37 : lw_okq (⟨"MoodPlayerModel", "right", "(ZI)Z"⟩, 31) := ⟨⟨by decide +kernel, by decide +kernel⟩, List.mem_of_getElem? (i := 695) (by decide +kernel), List.mem_of_getElem? (i := 847) (by decide +kernel), List.mem_of_getElem? (i := 848) (by decide +kernel)⟩
theorem lw_p38 : lw_okq (⟨"MoodPlayerModel", "isMain", "(I)Z"⟩, 31) := ⟨⟨by decide +kernel, by decide +kernel⟩, List.mem_of_getElem? (i := 695) (by decide +kernel), List.mem_of_getElem? (i := 851) (by decide +kernel), List.mem_of_getElem? (i := 852) (by decide +kernel)⟩
theorem lw_p39 : lw_okq (⟨"MoodPlayerModel", "met", "()V"⟩, 31) := ⟨⟨by decide +kernel, by decide +kernel⟩, List.mem_of_getElem? (i := 695) (by decide +kernel), List.mem_of_getElem? (i := 863) (by decide +kernel), List.mem_of_getElem? (i := 864) (by decide +kernel)⟩
theorem lw_p40 : lw_okq (⟨"MoodPlayerModel", "logs", "(II)V"⟩, 31) := ⟨⟨by decide +kernel, by decide +kernel⟩, List.mem_of_getElem? (i := 695) (by decide +kernel), List.mem_of_getElem? (i := 867) (by decide +kernel), List.mem_of_getElem? (i := 868) (by decide +kernel)⟩
theorem lw_p41 : lw_okq (⟨"MoodPlayerModel", "isAsked", "(II)Z"⟩, 31) := ⟨⟨by decide +kernel, by decide +kernel⟩, List.mem_of_getElem? (i := 695) (by decide +kernel), List.mem_of_getElem? (i := 887) (by decide +kernel), List.mem_of_getElem? (i := 888) (by decide +kernel)⟩
theorem lw_p42 : lw_okq (⟨"MoodPlayerModel", "begins", "(IIZ)V"⟩, 31) := ⟨⟨by decide +kernel, by decide +kernel⟩, List.mem_of_getElem? (i := 695) (by decide +kernel), List.mem_of_getElem? (i := 899) (by decide +kernel), List.mem_of_getElem? (i := 900) (by decide +kernel)⟩
theorem lw_p43 : lw_okq (⟨"MoodPlayerModel", "isDone", "()V"⟩, 31) := ⟨⟨by decide +kernel, by decide +kernel⟩, List.mem_of_getElem? (i := 695) (by decide +kernel), List.mem_of_getElem? (i := 915) (by decide +kernel), List.mem_of_getElem? (i := 916) (by decide +kernel)⟩
theorem lw_p44 : lw_okq (⟨"MoodPlayerModel", "goesAgain", "(Z)V"⟩, 31) := ⟨⟨by decide +kernel, by decide +kernel⟩, List.mem_of_getElem? (i := 695) (by decide +kernel), List.mem_of_getElem? (i := 919) (by decide +kernel), List.mem_of_getElem? (i := 920) (by decide +kernel)⟩
theorem lw_p45 : lw_okq (⟨"MoodPlayerModel", "takes", "(IZ)V"⟩, 31) := ⟨⟨by decide +kernel, by decide +kernel⟩, List.mem_of_getElem? (i := 695) (by decide +kernel), List.mem_of_getElem? (i := 923) (by decide +kernel), List.mem_of_getElem? (i := 924) (by decide +kernel)⟩
theorem lw_p46 : lw_okq (⟨"MoodPlayerModel", "cheapest", "(I)I"⟩, 31) := ⟨⟨by decide +kernel, by decide +kernel⟩, List.mem_of_getElem? (i := 695) (by decide +kernel), List.mem_of_getElem? (i := 927) (by decide +kernel), List.mem_of_getElem? (i := 928) (by decide +kernel)⟩
theorem lw_p47 : lw_okq (⟨"MoodPlayerModel", "silence", "()V"⟩, 31) := ⟨⟨by decide +kernel, by decide +kernel⟩, List.mem_of_getElem? (i := 695) (by decide +kernel), List.mem_of_getElem? (i := 931) (by decide +kernel), List.mem_of_getElem? (i := 932) (by decide +kernel)⟩
def lw_privs_3 : List (MethodName × Nat) := [(⟨"MoodPlayerModel", "isStep", "(III)Z"⟩, 31), (⟨"MoodPlayerModel", "leads", "(II)I"⟩, 31), (⟨"MoodPlayerModel", "stepCost", "(IIII)J"⟩, 31), (⟨"MoodPlayerModel", "until", "(IIII)J"⟩, 31), (⟨"MoodPlayerModel", "isPiece", "(I)Z"⟩, 31), (⟨"MoodPlayerModel", "right", "(ZI)Z"⟩, 31), (⟨"MoodPlayerModel", "isMain", "(I)Z"⟩, 31), (⟨"MoodPlayerModel", "met", "()V"⟩, 31), (⟨"MoodPlayerModel", "logs", "(II)V"⟩, 31), (⟨"MoodPlayerModel", "isAsked", "(II)Z"⟩, 31), (⟨"MoodPlayerModel", "begins", "(IIZ)V"⟩, 31), (⟨"MoodPlayerModel", "isDone", "()V"⟩, 31), (⟨"MoodPlayerModel", "goesAgain", "(Z)V"⟩, 31), (⟨"MoodPlayerModel", "takes", "(IZ)V"⟩, 31), (⟨"MoodPlayerModel", "cheapest", "(I)I"⟩, 31), (⟨"MoodPlayerModel", "silence", "()V"⟩, 31)]
theorem lw_r3 : ∀ q ∈ lw_privs_3, lw_okq q := List.forall_mem_cons.mpr ⟨lw_p32, List.forall_mem_cons.mpr ⟨lw_p33, List.forall_mem_cons.mpr ⟨lw_p34, List.forall_mem_cons.mpr ⟨lw_p35, List.forall_mem_cons.mpr ⟨lw_p36, List.forall_mem_cons.mpr ⟨lw_p37, List.forall_mem_cons.mpr ⟨lw_p38, List.forall_mem_cons.mpr ⟨lw_p39, List.forall_mem_cons.mpr ⟨lw_p40, List.forall_mem_cons.mpr ⟨lw_p41, List.forall_mem_cons.mpr ⟨lw_p42, List.forall_mem_cons.mpr ⟨lw_p43, List.forall_mem_cons.mpr ⟨lw_p44, List.forall_mem_cons.mpr ⟨lw_p45, List.forall_mem_cons.mpr ⟨lw_p46, List.forall_mem_cons.mpr ⟨lw_p47, fun _ h => absurd h List.not_mem_nil⟩⟩⟩⟩⟩⟩⟩⟩⟩⟩⟩⟩⟩⟩⟩⟩
theorem lw_p48 : lw_okq (⟨"MoodPlayerModel", "layers", "()V"⟩, 31) := ⟨⟨by decide +kernel, by decide +kernel⟩, List.mem_of_getElem? (i := 695) (by decide +kernel), List.mem_of_getElem? (i := 935) (by decide +kernel), List.mem_of_getElem? (i := 936) (by decide +kernel)⟩
theorem lw_p49 : lw_okq (⟨"MoodPlayerModel", "levels", "()I"⟩, 31) := ⟨⟨by decide +kernel, by decide +kernel⟩, List.mem_of_getElem? (i := 695) (by decide +kernel), List.mem_of_getElem? (i := 939) (by decide +kernel), List.mem_of_getElem? (i := 940) (by decide +kernel)⟩
theorem lw_p50 : lw_okq (⟨"MoodPlayerModel", "stings", "()V"⟩, 31) := ⟨⟨by decide +kernel, by decide +kernel⟩, List.mem_of_getElem? (i := 695) (by decide +kernel), List.mem_of_getElem? (i := 943) (by decide +kernel), List.mem_of_getElem? (i := 944) (by decide +kernel)⟩
theorem lw_p51 : lw_okq (⟨"MoodPlayerModel", "isSlot", "(I)Z"⟩, 31) := ⟨⟨by decide +kernel, by decide +kernel⟩, List.mem_of_getElem? (i := 695) (by decide +kernel), List.mem_of_getElem? (i := 963) (by decide +kernel), List.mem_of_getElem? (i := 964) (by decide +kernel)⟩
def lw_privs_4 : List (MethodName × Nat) := [(⟨"MoodPlayerModel", "layers", "()V"⟩, 31), (⟨"MoodPlayerModel", "levels", "()I"⟩, 31), (⟨"MoodPlayerModel", "stings", "()V"⟩, 31), (⟨"MoodPlayerModel", "isSlot", "(I)Z"⟩, 31)]
theorem lw_r4 : ∀ q ∈ lw_privs_4, lw_okq q := List.forall_mem_cons.mpr ⟨lw_p48, List.forall_mem_cons.mpr ⟨lw_p49, List.forall_mem_cons.mpr ⟨lw_p50, List.forall_mem_cons.mpr ⟨lw_p51, fun _ h => absurd h List.not_mem_nil⟩⟩⟩⟩
def lw_privs : List (MethodName × Nat) := lw_privs_1 ++ (lw_privs_2 ++ (lw_privs_3 ++ (lw_privs_4)))
def lw_tbl : List Cond := k2_sels lw_privs ++ tables_1
theorem lw_privs_ok : ∀ q ∈ lw_privs, lw_okq q := by
  show ∀ q ∈ lw_privs_1 ++ (lw_privs_2 ++ (lw_privs_3 ++ (lw_privs_4))), lw_okq q
  exact List.forall_mem_append.mpr ⟨lw_r1, List.forall_mem_append.mpr ⟨lw_r2, List.forall_mem_append.mpr ⟨lw_r3, lw_r4⟩⟩⟩
end
section
/-! ===== BEGIN words of one list among another's, by their places ===== -/
theorem goodIn_r {big : List Cond} (ws : List Cond) (ps : List Nat) (hp : ws = ps.filterMap (fun i => big[i]?)) (h : ws.all goodWord = true) : GoodIn big ws := by
  intro w hw
  have h1 := List.all_eq_true.mp h w hw
  rw [hp] at hw
  obtain ⟨i, -, hi⟩ := List.mem_filterMap.mp hw
  have hm : w ∈ big := by first | exact List.mem_of_getElem? hi | exact List.getElem?_mem hi
  exact ⟨hm, good_of_word h1⟩
theorem goodIn_app {big a b : List Cond} (ha : GoodIn big a) (hb : GoodIn big b) : GoodIn big (a ++ b) := fun w h => (List.mem_append.mp h).elim (ha w) (hb w)
theorem goodIn_ca {big a b : List Cond} {c : Cond} (ha : GoodIn big (c :: a)) (hb : GoodIn big b) : GoodIn big (c :: (a ++ b)) := fun w h => (List.mem_cons.mp h).elim (fun e => ha w (List.mem_cons.mpr (Or.inl e))) (fun h => (List.mem_append.mp h).elim (fun h => ha w (List.mem_cons.mpr (Or.inr h))) (hb w))
theorem goodIn_sub {big ws : List Cond} (hm : ∀ w ∈ ws, w ∈ big) (h : ws.all goodWord = true) : GoodIn big ws := fun w hw => ⟨hm w hw, good_of_word (List.all_eq_true.mp h w hw)⟩
/-! ===== END ===== -/

/-! ===== BEGIN exceptions that leave a method, and their catching by the caller (launches without stack traces) ===== -/
section VXA
/-! The laws vx_back, vx_callV, vx_callS, vx_callSW, vx_throw0, vx_throwS follow proofs of the library, with one case more: JvmDerived/Free/Laws.lean (Back.of_free), Shelf42/LK1.lean (callV, callS), Shelf/KitTraced.lean (throwNew0V, throwNewS). -/
/-- where a method has thrown q: the class by its name, the cell, what was written, the world -/
def vx_T (XC : String → State → State → Prop) (st : State) (q : Addr) (t : State) (mc ms : Nat) (free : Addr → Prop) : Prop :=
  ∃ (E : String) (ce : Cell) (L : List Loc), XC E st t ∧ t.heap[q]? = some ce ∧ ce.vm = .none ∧ st.vm.findClass E = some ce.cls ∧ st.WarmedH t.vm ∧ st.sameButNew ({ t with vm := st.vm } : State) L mc ms ∧ ∀ z ∈ L, free z.base
def vx_Q (Qc : Array Value → State → Outcome → State → Prop) (XC : String → State → State → Prop) (mc ms : Nat) (free : Addr → Prop) : Array Value → State → Outcome → State → Prop := fun a st o t =>
  (Qc a st o t ∧ ∃ L, FrameEnd st o t L mc ms ∧ ∀ q ∈ L, free q.base) ∨ ∃ q, o = .threw q ∧ vx_T XC st q t mc ms free
/-- a callee that returns or throws -/
def vx_Met (l : Launch) (y : MethodName) (ws : List Cond) (rm : Room) (Pc : Array Value → State → Prop) (Qc : Array Value → State → Outcome → State → Prop) (XC : String → State → State → Prop) (mc ms : Nat) (free : Addr → Prop) : Prop :=
  MetFree l y (headSpec ws rm) Pc (fun _ _ _ _ _ => True) (vx_Q Qc XC mc ms free)
def vx_Post (XC : String → State → State → Prop) (mc ms : Nat) (free : Addr → Prop) : Pt → Array Value → Addr → Pt → Prop := fun A a q B =>
  ∃ (g : JFrame) (mk : MethodId) (t : State) (L : List Loc) (E : String) (ce : Cell), B.U.heap = t.heap ∧ B.U.vm = t.vm ∧ XC E (A.U.calling g mk a) t ∧ t.heap[q]? = some ce ∧ ce.vm = .none ∧ A.U.vm.findClass E = some ce.cls ∧ B.locs = A.locs ++ L ∧ (∀ z ∈ L, free z.base) ∧ B.cells = A.cells + mc ∧ B.slots = A.slots + ms
def vx_Back (l : Launch) (R : Room) (p : Program) (e : Env) (below : List Frame) (s : State) (sargs : Array Value) (y : MethodName) (len W9 : Nat)
    (Pre : Pt → Array Value → Prop) (Post : Pt → Array Value → Option Value → Pt → Prop) (PostX : Pt → Array Value → Addr → Pt → Prop) : Prop :=
  ∀ (m : MethodId) (meth : Method) (c : Code) (A : Pt) (g : JFrame) (ig : Instr) (mk : MethodId) (a : Array Value),
    Stand p l e R s m sargs below meth c A.U A.locs A.cells A.slots → g.method = m → g.locals.size = c.maxLocals → decode c.code g.pc = .ok (ig, len) →
    2 * g.monitorRoom + (g.stack.map fun v => v.category).sum ≤ W9 → A.U.methodNamed? y = some mk → Pre A a →
    (∃ (v : Option Value) (B : Pt), Stand p l e R s m sargs below meth c B.U B.locs B.cells B.slots ∧ Post A a v B ∧
      Steps p.tables e below (doInvoke e (A.U.setTop g) [] mk a).1 (B.U.setTop { g with pc := g.pc + len, stack := v.toList ++ g.stack })) ∨
    (∃ (q : Addr) (B : Pt), Stand p l e R s m sargs below meth c B.U B.locs B.cells B.slots ∧ PostX A a q B ∧
      Steps p.tables e below (doInvoke e (A.U.setTop g) [] mk a).1 ((B.U.setTop g).pushFrame (.throwing q)))
section Payer
variable {l : Launch} {R : Room} {p : Program} {e : Env} {below : List Frame} {s : State} {sargs : Array Value} {y : MethodName} {len W9 : Nat}
theorem vx_back {ws : List Cond} {rm : Room} {Pc : Array Value → State → Prop} {Qc : Array Value → State → Outcome → State → Prop} {XC : String → State → State → Prop} {mc ms : Nat} {free : Addr → Prop} {bytes : ByteArray} {maxL : Nat} {ret : Option FieldType}
    (hM : vx_Met l y ws rm Pc Qc XC mc ms free) (hblind : FrameBlind Pc) (hrc : rm.cells = mc) (hrs : rm.slots = ms)
    (hframes : rm.frames + 1 ≤ R.frames) (hlocals : W9 + (maxL + 11) + rm.locals ≤ R.locals)
    (hws : ∀ w ∈ ws, ∀ a' U, s.WarmedH U.vm → w.before a' U = true) (hcode : Cond.code y bytes maxL ret ∈ ws) (hinit : ∀ a' U, s.WarmedH U.vm → (Cond.initialized y.cls).before a' U = true) :
    vx_Back l R p e below s sargs y len W9 (PreOf R mc ms Pc) (PostOf Qc mc ms free) (vx_Post XC mc ms free) := by
  intro m meth c A g ig mk a X hg hsize hdg hW hn hp
  have h1 : (headSpec ws rm).pre.before a A.U = true := atoms_intro fun w hw => hws w hw _ _ X.warmed
  have h2 : (Cond.code y bytes maxL ret).before a A.U = true := hws _ hcode _ _ X.warmed
  have h3 : (Cond.initialized y.cls).before a A.U = true := hinit _ _ X.warmed
  have h4 : A.cells + (headSpec ws rm).room.cells ≤ R.cells := by rw [show (headSpec ws rm).room.cells = mc from hrc]; exact hp.1
  have h5 : A.slots + (headSpec ws rm).room.slots ≤ R.slots := by rw [show (headSpec ws rm).room.slots = ms from hrs]; exact hp.2.1
  have hPc : Pc a (A.U.calling g mk a) := hblind _ _ _ _ hp.2.2
  obtain ⟨U, Ls, c0, s0⟩ := A
  dsimp only [Pt.U, Pt.locs, Pt.cells, Pt.slots] at h1 h2 h3 h4 h5 X hn hPc ⊢
  obtain ⟨methY, cY, hmY, hcY, -, hlY, -, -, -, -⟩ := Cond.code_spec hn h2
  obtain ⟨kY, hkY, -⟩ := className_of_methodNamed hn
  have hinitY : kY.init = .initialized := Cond.initialized_spec (findClass_of_methodNamed hn) hkY h3
  have h : At U g.method c below := by rw [hg]; exact X.here
  have hlocals9 : W9 + (maxL + 11) + (headSpec ws rm).room.locals ≤ R.locals := hlocals
  have happ : (headSpec ws rm).appliesLoose y e.platform (U.calling g mk a) = true :=
    Spec.appliesLoose_calling (g := g) h hdg hn hkY hinitY
      (X.room_calling (g := g) (R' := (headSpec ws rm).room) hsize hmY hcY hframes (by rw [hlY]; omega) h4 h5) h1
  obtain ⟨mid, hmid⟩ := h.above
  have hfr : (U.setTop g).frames = (.java g :: mid) ++ below := by rw [State.frames_setTop' g h.top, hmid]; rfl
  obtain ⟨o, s₂, hsteps, -, hend, hq⟩ := Steps.callFree hM p X.admits X.cas X.clock (acts := []) hfr happ hPc trivial
  have hq' : vx_Q Qc XC mc ms free a (U.calling g mk a) o s₂ := hq
  rw [State.frames_setTop' g h.top] at hend
  obtain ⟨g₀, hg0⟩ := Option.isSome_iff_exists.mp h.top
  obtain ⟨r, hr⟩ := State.topJava?_eq_some.mp hg0
  have hr' : (({ U with heap := s₂.heap, slotsUsed := s₂.slotsUsed } : State).setVm s₂.vm).frames = .java g₀ :: r := hr
  rcases hq' with ⟨hqc, L, hfe, hL⟩ | ⟨q, rfl, E, ce, L, hx, hce, hcv, hcl, hW₂, hsm, hL⟩
  · obtain ⟨⟨v, rfl⟩, hW₂, e2, q2, q3, q4, q5, q6⟩ := id hfe
    have e3 : s₂ = ({ (U.calling g mk a).setFrames s₂.frames with heap := s₂.heap, slotsUsed := s₂.slotsUsed } : State).setVm s₂.vm := by
      have : s₂ = ({ s₂ with vm := (U.calling g mk a).vm } : State).setVm s₂.vm := rfl
      rw [e2] at this
      exact this
    obtain ⟨c₂, i₂, len₂, hc₂, hd₂, hf₂⟩ := hend
    have hW' : U.WarmedH s₂.vm := hW₂
    have hcc : c₂ = c := by
      have h1 : s₂.code? g.method = U.code? g.method := by
        rw [State.code?_eq, State.code?_eq, hW'.alike.method?]
      exact Option.some.inj (hc₂.symm.trans (h1.trans h.code))
    subst hcc
    have hlen : len₂ = len := by rw [hdg] at hd₂; cases hd₂; rfl
    subst hlen
    have hs₂ : s₂ = (({ U with heap := s₂.heap, slotsUsed := s₂.slotsUsed } : State).setVm s₂.vm).setTop { g with pc := g.pc + len₂, stack := v.toList ++ g.stack } := by
      refine e3.trans ?_
      rw [hf₂, State.calling_eq h.top, State.setFrames_setFrames, State.setTop_of_frames _ hr', hr]
      rfl
    have hsame : U.sameButNew ({ U with heap := s₂.heap, slotsUsed := s₂.slotsUsed } : State) L mc ms := by
      refine ⟨?_, q2, q3, q4, q5, q6⟩
      obtain ⟨t, ht, -⟩ := State.frames_cons hr
      show ({ U with heap := s₂.heap, slotsUsed := s₂.slotsUsed } : State) = { U.setFrames U.frames with heap := s₂.heap, slotsUsed := s₂.slotsUsed }
      rw [State.setFrames_self ht]
    subst hg
    refine Or.inl ⟨v, ⟨(({ U with heap := s₂.heap, slotsUsed := s₂.slotsUsed } : State).setVm s₂.vm), Ls ++ L, c0 + mc, s0 + ms⟩,
      ⟨X.admits, X.cas, X.clock, X.frames, X.room, X.hears, X.method, X.code, (X.here.setHeapUsed s₂.heap s₂.slotsUsed).setVm hW'.alike, X.tail, State.WarmedH.trans X.warmed hW', X.limits, X.bytes, X.same.trans (hsame.setVm s.vm)⟩,
      ⟨g, mk, s₂, L, rfl, rfl, hqc, rfl, hL, rfl, rfl⟩, ?_⟩
    show Steps p.tables e below _ ((({ U with heap := s₂.heap, slotsUsed := s₂.slotsUsed } : State).setVm s₂.vm).setTop { g with pc := g.pc + len₂, stack := v.toList ++ g.stack })
    rw [← hs₂]
    exact hsteps
  · obtain ⟨e2, q2, q3, q4, q5, q6⟩ := id hsm
    have e3 : s₂ = ({ (U.calling g mk a).setFrames s₂.frames with heap := s₂.heap, slotsUsed := s₂.slotsUsed } : State).setVm s₂.vm := by
      have : s₂ = ({ s₂ with vm := (U.calling g mk a).vm } : State).setVm s₂.vm := rfl
      rw [e2] at this
      exact this
    have hf₂ : s₂.frames = .throwing q :: .java g :: U.frames.tail := hend
    have hW' : U.WarmedH s₂.vm := hW₂
    have hs₂ : s₂ = ((({ U with heap := s₂.heap, slotsUsed := s₂.slotsUsed } : State).setVm s₂.vm).setTop g).pushFrame (.throwing q) := by
      refine e3.trans ?_
      rw [hf₂, State.calling_eq h.top, State.setFrames_setFrames, State.pushFrame, State.frames_setTop _ hr', State.setTop_of_frames _ hr', State.setFrames_setFrames, hr]
      rfl
    have hsame : U.sameButNew ({ U with heap := s₂.heap, slotsUsed := s₂.slotsUsed } : State) L mc ms := by
      refine ⟨?_, q2, q3, q4, q5, q6⟩
      obtain ⟨t, ht, -⟩ := State.frames_cons hr
      show ({ U with heap := s₂.heap, slotsUsed := s₂.slotsUsed } : State) = { U.setFrames U.frames with heap := s₂.heap, slotsUsed := s₂.slotsUsed }
      rw [State.setFrames_self ht]
    subst hg
    refine Or.inr ⟨q, ⟨(({ U with heap := s₂.heap, slotsUsed := s₂.slotsUsed } : State).setVm s₂.vm), Ls ++ L, c0 + mc, s0 + ms⟩,
      ⟨X.admits, X.cas, X.clock, X.frames, X.room, X.hears, X.method, X.code, (X.here.setHeapUsed s₂.heap s₂.slotsUsed).setVm hW'.alike, X.tail, State.WarmedH.trans X.warmed hW', X.limits, X.bytes, X.same.trans (hsame.setVm s.vm)⟩,
      ⟨g, mk, s₂, L, E, ce, rfl, rfl, hx, hce, hcv, hcl, rfl, hL, rfl, rfl⟩, ?_⟩
    show Steps p.tables e below _ (((({ U with heap := s₂.heap, slotsUsed := s₂.slotsUsed } : State).setVm s₂.vm).setTop g).pushFrame (.throwing q))
    rw [← hs₂]
    exact hsteps
end Payer
section Calls
variable {p : Program} {l : Launch} {e : Env} {R : Room} {s : State} {m : MethodId} {args : Array Value} {below : List Frame} {meth : Method} {c : Code} {T : State} {locs : List Loc} {cells slots : Nat}
theorem vx_callV (X : Stand p l e R s m args below meth c T locs cells slots) (hexec : p.tables.exec = Jvm.exec) {own C : String} {index : Nat} {y : MethodName} {bytes : ByteArray} {maxL : Nat} {ret : Option FieldType}
    (hown : s.vm.findClass own = some m.cls) (hlink : (Cond.methodLink own index y).before args s = true) (hinst : (Cond.instanceMethod y).before args s = true) (hsel : (Cond.selects C y y).before args s = true)
    (hcode : (Cond.code y bytes maxL ret).before args s = true) (hy : y.cls ≠ "java/lang/invoke/MethodHandle" ∧ y.cls ≠ "java/lang/invoke/VarHandle")
    {W9 : Nat} {Pre : Pt → Array Value → Prop} {Post : Pt → Array Value → Option Value → Pt → Prop} {PostX : Pt → Array Value → Addr → Pt → Prop} (hK : vx_Back l R p e below s args y 3 W9 Pre Post PostX)
    {b : Addr} {cellB : Cell} (hcell : T.heap[b]? = some cellB) (hobj : cellB.vm.isStatics = false) (hcls : s.vm.findClass C = some cellB.cls)
    {g : JFrame} (hg : g.method = m) (hsize : g.locals.size = c.maxLocals) {argsL rest : List Value} (hlen : ∀ sig, parseMethodDescriptor y.desc = some sig → argsL.length = sig.parameters.length)
    (hstack : g.stack = argsL.reverse ++ .ref b :: rest) (hW : 2 * g.monitorRoom + (rest.map fun v => v.category).sum ≤ W9) (hdg : decode c.code g.pc = .ok (.invokevirtual index, 3))
    (hpre : ∀ vm₁, s.WarmedH vm₁ → Pre ⟨T.setVm vm₁, locs, cells, slots⟩ (Value.ref b :: argsL).toArray) :
    (∃ (v : Option Value) (vm₁ : Vm) (B : Pt), s.WarmedH vm₁ ∧ Stand p l e R s m args below meth c B.U B.locs B.cells B.slots ∧ Post ⟨T.setVm vm₁, locs, cells, slots⟩ (Value.ref b :: argsL).toArray v B ∧
      ∀ target, Steps p.tables e below (B.U.setTop { g with pc := g.pc + 3, stack := v.toList ++ rest }) target → Steps p.tables e below (T.setTop g) target) ∨
    (∃ (q : Addr) (vm₁ : Vm) (B : Pt), s.WarmedH vm₁ ∧ Stand p l e R s m args below meth c B.U B.locs B.cells B.slots ∧ PostX ⟨T.setVm vm₁, locs, cells, slots⟩ (Value.ref b :: argsL).toArray q B ∧
      Steps p.tables e below (T.setTop g) ((B.U.setTop { g with stack := rest }).pushFrame (.throwing q))) := by
  obtain ⟨mk, methM, hnamed, hmethM, hstM, habM⟩ := Cond.instanceMethod_spec hinst
  obtain ⟨methM', cM, hmethM', -, -, -, -, -, -, hsigM⟩ := Cond.code_spec hnamed hcode
  cases hmethM.symm.trans hmethM'
  obtain ⟨c2, r2, m2, q1, q2, q3, q4, kP, hkP, hkPi⟩ := Cond.selects_spec hsel
  cases hcls.symm.trans q1
  cases (State.methodFound?_of_named hnamed hy).symm.trans q2
  cases hnamed.symm.trans q3
  have hselP : selectMethod e.platform s.vm cellB.cls mk = .method mk := by rw [Launch.admits_selectMethod X.admits]; exact q4
  obtain ⟨vm₁, X₁, hstep₁⟩ := X.invokevirtual hexec hown hlink hnamed hmethM hstM hkP hkPi hy (a := b) (cell := cellB) hcell
    (fun z h => by rw [h] at hobj; cases hobj) hselP hmethM habM hkP hkPi (g := g) hg (argsL := argsL) (rest := rest) (hlen _ hsigM) hstack hdg
  rcases hK m meth c ⟨T.setVm vm₁, locs, cells, slots⟩ { g with stack := rest } (.invokevirtual index) mk (Value.ref b :: argsL).toArray X₁ hg hsize hdg hW (X₁.named hnamed) (hpre vm₁ X₁.warmed) with ⟨v, B, X', hpost, hsteps⟩ | ⟨q, B, X', hpost, hsteps⟩
  · exact Or.inl ⟨v, vm₁, B, X₁.warmed, X', hpost, fun target h => hstep₁ _ fun acts => by rw [doInvoke_state]; exact hsteps.trans h⟩
  · exact Or.inr ⟨q, vm₁, B, X₁.warmed, X', hpost, hstep₁ _ fun acts => by rw [doInvoke_state]; exact hsteps⟩
theorem vx_callS (X : Stand p l e R s m args below meth c T locs cells slots) (hexec : p.tables.exec = Jvm.exec) {own : String} {index : Nat} {y : MethodName} {bytes : ByteArray} {maxL : Nat} {ret : Option FieldType}
    (hown : s.vm.findClass own = some m.cls) (hlink : (Cond.methodLink own index y).before args s = true) (hstat : (Cond.static y).before args s = true) (hinit : (Cond.initialized y.cls).before args s = true)
    (hcode : (Cond.code y bytes maxL ret).before args s = true) (hy : y.cls ≠ "java/lang/invoke/MethodHandle" ∧ y.cls ≠ "java/lang/invoke/VarHandle")
    {W9 : Nat} {Pre : Pt → Array Value → Prop} {Post : Pt → Array Value → Option Value → Pt → Prop} {PostX : Pt → Array Value → Addr → Pt → Prop} (hK : vx_Back l R p e below s args y 3 W9 Pre Post PostX)
    {g : JFrame} (hg : g.method = m) (hsize : g.locals.size = c.maxLocals) {argsL rest : List Value} (hlen : ∀ sig, parseMethodDescriptor y.desc = some sig → argsL.length = sig.parameters.length)
    (hstack : g.stack = argsL.reverse ++ rest) (hW : 2 * g.monitorRoom + (rest.map fun v => v.category).sum ≤ W9) (hdg : decode c.code g.pc = .ok (.invokestatic index, 3))
    (hpre : ∀ vm₁, s.WarmedH vm₁ → Pre ⟨T.setVm vm₁, locs, cells, slots⟩ argsL.toArray) :
    (∃ (v : Option Value) (vm₁ : Vm) (B : Pt), s.WarmedH vm₁ ∧ Stand p l e R s m args below meth c B.U B.locs B.cells B.slots ∧ Post ⟨T.setVm vm₁, locs, cells, slots⟩ argsL.toArray v B ∧
      ∀ target, Steps p.tables e below (B.U.setTop { g with pc := g.pc + 3, stack := v.toList ++ rest }) target → Steps p.tables e below (T.setTop g) target) ∨
    (∃ (q : Addr) (vm₁ : Vm) (B : Pt), s.WarmedH vm₁ ∧ Stand p l e R s m args below meth c B.U B.locs B.cells B.slots ∧ PostX ⟨T.setVm vm₁, locs, cells, slots⟩ argsL.toArray q B ∧
      Steps p.tables e below (T.setTop g) ((B.U.setTop { g with stack := rest }).pushFrame (.throwing q))) := by
  obtain ⟨mk, hnamed⟩ := Cond.code_named hcode
  obtain ⟨methM, cM, hmethM, -, -, -, -, -, -, hsigM⟩ := Cond.code_spec hnamed hcode
  have hstatic : methM.isStatic = true := Cond.static_spec hnamed hmethM hstat
  obtain ⟨kP, hkP, -⟩ := className_of_methodNamed hnamed
  have hinitP : kP.init = .initialized := Cond.initialized_spec (findClass_of_methodNamed hnamed) hkP hinit
  obtain ⟨vm₁, X₁, hstep₁⟩ := X.invokestatic hexec hown hlink hnamed hmethM hstatic hkP hinitP hy (g := g) hg (argsL := argsL) (rest := rest) (hlen _ hsigM) hstack hdg
  rcases hK m meth c ⟨T.setVm vm₁, locs, cells, slots⟩ { g with stack := rest } (.invokestatic index) mk argsL.toArray X₁ hg hsize hdg hW (X₁.named hnamed) (hpre vm₁ X₁.warmed) with ⟨v, B, X', hpost, hsteps⟩ | ⟨q, B, X', hpost, hsteps⟩
  · exact Or.inl ⟨v, vm₁, B, X₁.warmed, X', hpost, fun target h => hstep₁ _ fun acts => by rw [doInvoke_state]; exact hsteps.trans h⟩
  · exact Or.inr ⟨q, vm₁, B, X₁.warmed, X', hpost, hstep₁ _ fun acts => by rw [doInvoke_state]; exact hsteps⟩
end Calls
theorem vx_cls {s : State} {T : State} {vm₁ : Vm} {E : String} {k : ClassId} (hW : s.WarmedH vm₁) (h : (T.setVm vm₁).vm.findClass E = some k) : s.vm.findClass E = some k := by
  have h1 : vm₁.findClass E = some k := h
  rw [hW.alike.findClass] at h1
  exact h1
/-- the method's frame g, with q thrown over it -/
def vx_W (p : Program) (l : Launch) (e : Env) (R : Room) (s : State) (m : MethodId) (args : Array Value) (below : List Frame) (meth : Method) (c : Code) (H : Heap) (locs : List Loc) (cells slots : Nat) (Q : State → Prop) (g : JFrame) (q : Addr) : Prop :=
  ∀ T : State, T.heap = H → Stand p l e R s m args below meth c T locs cells slots → ∃ t, Steps p.tables e below ((T.setTop g).pushFrame (.throwing q)) t ∧ Q t
def vx_Run (p : Program) (l : Launch) (e : Env) (R : Room) (s : State) (m : MethodId) (args : Array Value) (below : List Frame) (meth : Method) (c : Code) (H : Heap) (locs : List Loc) (cells slots mc ms : Nat) (g : JFrame) (rest : List Value) (Qa : State → Outcome → State → Prop) (XC : String → State → State → Prop) (free : Addr → Prop) : Prop :=
  ∀ T : State, T.heap = H → Stand p l e R s m args below meth c T locs cells slots →
    (∃ (v : Option Value) (st₀ t T' : State) (L : List Loc), st₀.heap = H ∧ Stand p l e R s m args below meth c T' (locs ++ L) (cells + mc) (slots + ms) ∧ (∀ q ∈ L, free q.base) ∧ T'.heap = t.heap ∧ T'.vm = t.vm ∧ Qa st₀ (.returned v) t ∧
      Goes p e below T g T' { g with pc := g.pc + 3, stack := v.toList ++ rest }) ∨
    (∃ (q : Addr) (st₀ t T' : State) (L : List Loc) (E : String) (ce : Cell), st₀.heap = H ∧ Stand p l e R s m args below meth c T' (locs ++ L) (cells + mc) (slots + ms) ∧ (∀ z ∈ L, free z.base) ∧ T'.heap = t.heap ∧ T'.vm = t.vm ∧ XC E st₀ t ∧ t.heap[q]? = some ce ∧ ce.vm = .none ∧ s.vm.findClass E = some ce.cls ∧
      Steps p.tables e below (T.setTop g) ((T'.setTop { g with stack := rest }).pushFrame (.throwing q)))
def vx_X {S : Type} (px : S → Prop) (B : String → S → State → Prop) (A : Nat → Prop) : String → State → State → Prop := fun E st t => ∃ u : S, px u ∧ B E u t ∧ va_F A st t
section Runs
variable {p : Program} {l : Launch} {e : Env} {R : Room} {s : State} {m : MethodId} {args : Array Value} {below : List Frame} {meth : Method} {c : Code} {H : Heap} {locs : List Loc} {cells slots : Nat}
variable {y : MethodName} {bytes cc : ByteArray} {maxL nL mc ms n index : Nat} {ret : Option FieldType} {ws : List Cond} {rm : Room} {Pc : Array Value → State → Prop} {Qc : Array Value → State → Outcome → State → Prop} {XC : String → State → State → Prop} {free : Addr → Prop} {Ts : List Cond} {own C : String} {b : Addr} {As rest : List Value} {g : JFrame}
theorem vx_callBack (cb : CallB R s args own index y bytes maxL ret ws rm mc ms n) (hM : vx_Met l y ws rm Pc Qc XC mc ms free) (hbl : FrameBlind Pc) : vx_Back l R p e below s args y 3 8 (PreOf R mc ms Pc) (PostOf Qc mc ms free) (vx_Post XC mc ms free) := by
  obtain ⟨hrc, hrs, hfr, hlo, hws, hcw, -, hini, -⟩ := cb
  exact vx_back (bytes := bytes) (maxL := maxL) (ret := ret) hM hbl hrc hrs hfr hlo hws hcw (fun a' U hW => word_at hW (Or.inl (by first | rfl | simp [Cond.onTables, Cond.keeps, Cond.steady])) hini)
theorem vx_runV (S : CallFix p m c cc nL s args Ts own) (hM : vx_Met l y ws rm Pc Qc XC mc ms free) (cw : CallW R s args own C index y bytes maxL ret ws rm mc ms n) (hp : PreV s H C b Pc As)
    (hg : g.method = m) (hn : As.length = n) (hsize : g.locals.size = nL) (hstack : g.stack = As.reverse ++ .ref b :: rest) (hW : 2 * g.monitorRoom + (rest.map fun v => v.category).sum ≤ 8) (hdg : decode cc g.pc = .ok (.invokevirtual index, 3)) (hf : cells + mc ≤ R.cells ∧ slots + ms ≤ R.slots) :
    vx_Run p l e R s m args below meth c H locs cells slots mc ms g rest (Qc (Value.ref b :: As).toArray) XC free := by
  have hK : vx_Back l R p e below s args y 3 8 (PreOf R mc ms Pc) (PostOf Qc mc ms free) (vx_Post XC mc ms free) := vx_callBack cw.1 hM hp.1
  obtain ⟨⟨-, -, -, -, -, -, hcode, -, hy, hlen, hl⟩, hin, hse⟩ := cw
  obtain ⟨hx, hb, hml, ho, -⟩ := S
  obtain ⟨-, ⟨cellB, hcB, hoB, hclB⟩, hPc⟩ := hp
  intro T hT X
  rcases vx_callV X hx (C := C) (bytes := bytes) (maxL := maxL) (ret := ret) ho hl hin hse hcode hy hK (by rw [hT]; exact hcB) hoB hclB hg (hsize.trans hml.symm) (argsL := As) (rest := rest) (fun sig h => hn.trans (hlen sig h)) hstack hW (by rw [hb]; exact hdg)
    (fun vm₁ hW₁ => ⟨hf.1, hf.2, hPc (T.setVm vm₁) hT hW₁⟩) with ⟨v, vm₁, ⟨U', l2, c2, s2⟩, hW₁, X', ⟨g', mk, t, L, e1, e2, hq, h1, hL, h2, h3⟩, st⟩ | ⟨q, vm₁, ⟨U', l2, c2, s2⟩, hW₁, X', ⟨g', mk, t, L, E, ce, e1, e2, hq, hce, hcv, hcl, h1, hL, h2, h3⟩, st⟩
  · dsimp only [Pt.U, Pt.locs, Pt.cells, Pt.slots] at X' e1 e2 h1 h2 h3 st
    subst h1; subst h2; subst h3
    exact Or.inl ⟨v, (T.setVm vm₁).calling g' mk (Value.ref b :: As).toArray, t, U', L, hT, X', hL, e1, e2, hq, st⟩
  · dsimp only [Pt.U, Pt.locs, Pt.cells, Pt.slots] at X' e1 e2 h1 h2 h3 st hcl
    subst h1; subst h2; subst h3
    exact Or.inr ⟨q, (T.setVm vm₁).calling g' mk (Value.ref b :: As).toArray, t, U', L, E, ce, hT, X', hL, e1, e2, hq, hce, hcv, vx_cls hW₁ hcl, st⟩
theorem vx_runS (S : CallFix p m c cc nL s args Ts own) (hM : vx_Met l y ws rm Pc Qc XC mc ms free) (cw : CallB R s args own index y bytes maxL ret ws rm mc ms n ∧ (Cond.static y).before args s = true) (hp : PreS s H Pc As)
    (hg : g.method = m) (hn : As.length = n) (hsize : g.locals.size = nL) (hstack : g.stack = As.reverse ++ rest) (hW : 2 * g.monitorRoom + (rest.map fun v => v.category).sum ≤ 8) (hdg : decode cc g.pc = .ok (.invokestatic index, 3)) (hf : cells + mc ≤ R.cells ∧ slots + ms ≤ R.slots) :
    vx_Run p l e R s m args below meth c H locs cells slots mc ms g rest (Qc As.toArray) XC free := by
  have hK : vx_Back l R p e below s args y 3 8 (PreOf R mc ms Pc) (PostOf Qc mc ms free) (vx_Post XC mc ms free) := vx_callBack cw.1 hM hp.1
  obtain ⟨⟨-, -, -, -, -, -, hcode, hini, hy, hlen, hl⟩, hstt⟩ := cw
  obtain ⟨hx, hb, hml, ho, -⟩ := S
  intro T hT X
  rcases vx_callS X hx (bytes := bytes) (maxL := maxL) (ret := ret) ho hl hstt hini hcode hy hK hg (hsize.trans hml.symm) (argsL := As) (rest := rest) (fun sig h => hn.trans (hlen sig h)) hstack hW (by rw [hb]; exact hdg)
    (fun vm₁ hW₁ => ⟨hf.1, hf.2, hp.2 (T.setVm vm₁) hT hW₁⟩) with ⟨v, vm₁, ⟨U', l2, c2, s2⟩, hW₁, X', ⟨g', mk, t, L, e1, e2, hq, h1, hL, h2, h3⟩, st⟩ | ⟨q, vm₁, ⟨U', l2, c2, s2⟩, hW₁, X', ⟨g', mk, t, L, E, ce, e1, e2, hq, hce, hcv, hcl, h1, hL, h2, h3⟩, st⟩
  · dsimp only [Pt.U, Pt.locs, Pt.cells, Pt.slots] at X' e1 e2 h1 h2 h3 st
    subst h1; subst h2; subst h3
    exact Or.inl ⟨v, (T.setVm vm₁).calling g' mk As.toArray, t, U', L, hT, X', hL, e1, e2, hq, st⟩
  · dsimp only [Pt.U, Pt.locs, Pt.cells, Pt.slots] at X' e1 e2 h1 h2 h3 st hcl
    subst h1; subst h2; subst h3
    exact Or.inr ⟨q, (T.setVm vm₁).calling g' mk As.toArray, t, U', L, E, ce, hT, X', hL, e1, e2, hq, hce, hcv, vx_cls hW₁ hcl, st⟩
end Runs
section Rows
variable {p : Program} {l : Launch} {e : Env} {R : Room} {s : State} {m : MethodId} {args : Array Value} {below : List Frame} {meth : Method} {c : Code} {H : Heap} {locs : List Loc} {cells slots : Nat} {Q : State → Prop}
variable {mc ms : Nat} {free : Addr → Prop} {A0 A1 : Nat → Prop} {H0 : Heap} {a : Array Value} {pc : Nat} {ls : Array Slot} {st0 rest : List Value}
theorem vx_keep {st₀ t T' : State} {L : List Loc} (h0 : st₀.heap = H) (e1 : T'.heap = t.heap) (hS : va_S A0 H0 H locs) (hA : ∀ q, q < H.size → A1 q → A0 q) (hf : ∀ q, free q → A0 q) (hL : ∀ q ∈ L, free q.base) (hF : va_F A1 st₀ t) :
    H.size ≤ T'.heap.size ∧ (∀ q : Nat, q < H.size → ¬ A1 q → T'.heap[q]? = H[q]?) ∧ va_S A0 H0 T'.heap (locs ++ L) := by
  obtain ⟨hz, hk⟩ := hF
  rw [h0] at hz hk
  exact ⟨by rw [e1]; exact hz, fun q h1 h2 => by rw [e1]; exact hk q h1 h2,
    ⟨Nat.le_trans hS.1 (by rw [e1]; exact hz), fun q h1 h2 => by rw [e1, hk q (Nat.lt_of_lt_of_le h1 hS.1) (fun z => h2 (hA q (Nat.lt_of_lt_of_le h1 hS.1) z))]; exact hS.2.1 q h1 h2, fun q hq => by
      rcases List.mem_append.mp hq with h | h
      · exact hS.2.2 q h
      · exact hf _ (hL q h)⟩⟩
theorem vx_calli {S SX : Type} {post : Int32 → S → Prop} {px : SX → Prop} {B : S → State → Prop} {BX : String → SX → State → Prop} {AX : Nat → Prop} (hr : vx_Run p l e R s m args below meth c H locs cells slots mc ms (F0 m pc ls st0) rest (va_Qi post B A1 a) (vx_X px BX AX) free) (hS : va_S A0 H0 H locs) (hA : ∀ q, q < H.size → A1 q → A0 q) (hf : ∀ q, free q → A0 q) (hAX : ∀ q, q < H.size → AX q → A0 q)
    (kx : ∀ (E : String) (ce : Cell) (q9 : Addr) (u : SX) (t : State) (H1 : Heap) (locs1 : List Loc), t.heap = H1 → s.vm.Alike t.vm → px u → BX E u t → H.size ≤ H1.size → (∀ q : Nat, q < H.size → ¬ AX q → H1[q]? = H[q]?) → va_S A0 H0 H1 locs1 → H1[q9]? = some ce → ce.vm = .none → s.vm.findClass E = some ce.cls → vx_W p l e R s m args below meth c H1 locs1 (cells + mc) (slots + ms) Q (F0 m pc ls rest) q9)
    (kk : ∀ (r : Int32) (u : S) (t : State) (H1 : Heap) (locs1 : List Loc), t.heap = H1 → s.vm.Alike t.vm → post r u → B u t → H.size ≤ H1.size → (∀ q : Nat, q < H.size → ¬ A1 q → H1[q]? = H[q]?) → va_S A0 H0 H1 locs1 → W p l e R s m args below meth c H1 locs1 (cells + mc) (slots + ms) Q (F0 m (pc + 3) ls (.int r :: rest))) : W p l e R s m args below meth c H locs cells slots Q (F0 m pc ls st0) := by
  intro T hT X
  rcases hr T hT X with ⟨v, st₀, t, T', L, h0, X', hL, e1, e2, ⟨⟨r, u, hv, hp, hb⟩, hF⟩, st⟩ | ⟨q, st₀, t, T', L, E, ce, h0, X', hL, e1, e2, ⟨u, hp, hb, hF⟩, hce, hcv, hcl, st⟩
  · cases hv
    obtain ⟨k1, k2, k3⟩ := vx_keep h0 e1 hS hA hf hL hF
    obtain ⟨t2, a1, b1⟩ := kk r u t T'.heap (locs ++ L) e1.symm (by rw [← e2]; exact X'.warmed.alike) hp hb k1 k2 k3 T' rfl X'
    exact ⟨t2, st t2 a1, b1⟩
  · obtain ⟨k1, k2, k3⟩ := vx_keep h0 e1 hS hAX hf hL hF
    obtain ⟨t2, a1, b1⟩ := kx E ce q u t T'.heap (locs ++ L) e1.symm (by rw [← e2]; exact X'.warmed.alike) hp hb k1 k2 k3 (by rw [e1]; exact hce) hcv hcl T' rfl X'
    exact ⟨t2, st.trans a1, b1⟩
theorem vx_calll {S SX : Type} {post : Int64 → S → Prop} {px : SX → Prop} {B : S → State → Prop} {BX : String → SX → State → Prop} {AX : Nat → Prop} (hr : vx_Run p l e R s m args below meth c H locs cells slots mc ms (F0 m pc ls st0) rest (va_Ql post B A1 a) (vx_X px BX AX) free) (hS : va_S A0 H0 H locs) (hA : ∀ q, q < H.size → A1 q → A0 q) (hf : ∀ q, free q → A0 q) (hAX : ∀ q, q < H.size → AX q → A0 q)
    (kx : ∀ (E : String) (ce : Cell) (q9 : Addr) (u : SX) (t : State) (H1 : Heap) (locs1 : List Loc), t.heap = H1 → s.vm.Alike t.vm → px u → BX E u t → H.size ≤ H1.size → (∀ q : Nat, q < H.size → ¬ AX q → H1[q]? = H[q]?) → va_S A0 H0 H1 locs1 → H1[q9]? = some ce → ce.vm = .none → s.vm.findClass E = some ce.cls → vx_W p l e R s m args below meth c H1 locs1 (cells + mc) (slots + ms) Q (F0 m pc ls rest) q9)
    (kk : ∀ (r : Int64) (u : S) (t : State) (H1 : Heap) (locs1 : List Loc), t.heap = H1 → s.vm.Alike t.vm → post r u → B u t → H.size ≤ H1.size → (∀ q : Nat, q < H.size → ¬ A1 q → H1[q]? = H[q]?) → va_S A0 H0 H1 locs1 → W p l e R s m args below meth c H1 locs1 (cells + mc) (slots + ms) Q (F0 m (pc + 3) ls (.long r :: rest))) : W p l e R s m args below meth c H locs cells slots Q (F0 m pc ls st0) := by
  intro T hT X
  rcases hr T hT X with ⟨v, st₀, t, T', L, h0, X', hL, e1, e2, ⟨⟨r, u, hv, hp, hb⟩, hF⟩, st⟩ | ⟨q, st₀, t, T', L, E, ce, h0, X', hL, e1, e2, ⟨u, hp, hb, hF⟩, hce, hcv, hcl, st⟩
  · cases hv
    obtain ⟨k1, k2, k3⟩ := vx_keep h0 e1 hS hA hf hL hF
    obtain ⟨t2, a1, b1⟩ := kk r u t T'.heap (locs ++ L) e1.symm (by rw [← e2]; exact X'.warmed.alike) hp hb k1 k2 k3 T' rfl X'
    exact ⟨t2, st t2 a1, b1⟩
  · obtain ⟨k1, k2, k3⟩ := vx_keep h0 e1 hS hAX hf hL hF
    obtain ⟨t2, a1, b1⟩ := kx E ce q u t T'.heap (locs ++ L) e1.symm (by rw [← e2]; exact X'.warmed.alike) hp hb k1 k2 k3 (by rw [e1]; exact hce) hcv hcl T' rfl X'
    exact ⟨t2, st.trans a1, b1⟩
theorem vx_callf {S SX : Type} {post : UInt32 → S → Prop} {px : SX → Prop} {B : S → State → Prop} {BX : String → SX → State → Prop} {AX : Nat → Prop} (hr : vx_Run p l e R s m args below meth c H locs cells slots mc ms (F0 m pc ls st0) rest (va_Qf post B A1 a) (vx_X px BX AX) free) (hS : va_S A0 H0 H locs) (hA : ∀ q, q < H.size → A1 q → A0 q) (hf : ∀ q, free q → A0 q) (hAX : ∀ q, q < H.size → AX q → A0 q)
    (kx : ∀ (E : String) (ce : Cell) (q9 : Addr) (u : SX) (t : State) (H1 : Heap) (locs1 : List Loc), t.heap = H1 → s.vm.Alike t.vm → px u → BX E u t → H.size ≤ H1.size → (∀ q : Nat, q < H.size → ¬ AX q → H1[q]? = H[q]?) → va_S A0 H0 H1 locs1 → H1[q9]? = some ce → ce.vm = .none → s.vm.findClass E = some ce.cls → vx_W p l e R s m args below meth c H1 locs1 (cells + mc) (slots + ms) Q (F0 m pc ls rest) q9)
    (kk : ∀ (r : UInt32) (u : S) (t : State) (H1 : Heap) (locs1 : List Loc), t.heap = H1 → s.vm.Alike t.vm → post r u → B u t → H.size ≤ H1.size → (∀ q : Nat, q < H.size → ¬ A1 q → H1[q]? = H[q]?) → va_S A0 H0 H1 locs1 → W p l e R s m args below meth c H1 locs1 (cells + mc) (slots + ms) Q (F0 m (pc + 3) ls (.float r :: rest))) : W p l e R s m args below meth c H locs cells slots Q (F0 m pc ls st0) := by
  intro T hT X
  rcases hr T hT X with ⟨v, st₀, t, T', L, h0, X', hL, e1, e2, ⟨⟨r, u, hv, hp, hb⟩, hF⟩, st⟩ | ⟨q, st₀, t, T', L, E, ce, h0, X', hL, e1, e2, ⟨u, hp, hb, hF⟩, hce, hcv, hcl, st⟩
  · cases hv
    obtain ⟨k1, k2, k3⟩ := vx_keep h0 e1 hS hA hf hL hF
    obtain ⟨t2, a1, b1⟩ := kk r u t T'.heap (locs ++ L) e1.symm (by rw [← e2]; exact X'.warmed.alike) hp hb k1 k2 k3 T' rfl X'
    exact ⟨t2, st t2 a1, b1⟩
  · obtain ⟨k1, k2, k3⟩ := vx_keep h0 e1 hS hAX hf hL hF
    obtain ⟨t2, a1, b1⟩ := kx E ce q u t T'.heap (locs ++ L) e1.symm (by rw [← e2]; exact X'.warmed.alike) hp hb k1 k2 k3 (by rw [e1]; exact hce) hcv hcl T' rfl X'
    exact ⟨t2, st.trans a1, b1⟩
theorem vx_calld {S SX : Type} {post : UInt64 → S → Prop} {px : SX → Prop} {B : S → State → Prop} {BX : String → SX → State → Prop} {AX : Nat → Prop} (hr : vx_Run p l e R s m args below meth c H locs cells slots mc ms (F0 m pc ls st0) rest (va_Qd post B A1 a) (vx_X px BX AX) free) (hS : va_S A0 H0 H locs) (hA : ∀ q, q < H.size → A1 q → A0 q) (hf : ∀ q, free q → A0 q) (hAX : ∀ q, q < H.size → AX q → A0 q)
    (kx : ∀ (E : String) (ce : Cell) (q9 : Addr) (u : SX) (t : State) (H1 : Heap) (locs1 : List Loc), t.heap = H1 → s.vm.Alike t.vm → px u → BX E u t → H.size ≤ H1.size → (∀ q : Nat, q < H.size → ¬ AX q → H1[q]? = H[q]?) → va_S A0 H0 H1 locs1 → H1[q9]? = some ce → ce.vm = .none → s.vm.findClass E = some ce.cls → vx_W p l e R s m args below meth c H1 locs1 (cells + mc) (slots + ms) Q (F0 m pc ls rest) q9)
    (kk : ∀ (r : UInt64) (u : S) (t : State) (H1 : Heap) (locs1 : List Loc), t.heap = H1 → s.vm.Alike t.vm → post r u → B u t → H.size ≤ H1.size → (∀ q : Nat, q < H.size → ¬ A1 q → H1[q]? = H[q]?) → va_S A0 H0 H1 locs1 → W p l e R s m args below meth c H1 locs1 (cells + mc) (slots + ms) Q (F0 m (pc + 3) ls (.double r :: rest))) : W p l e R s m args below meth c H locs cells slots Q (F0 m pc ls st0) := by
  intro T hT X
  rcases hr T hT X with ⟨v, st₀, t, T', L, h0, X', hL, e1, e2, ⟨⟨r, u, hv, hp, hb⟩, hF⟩, st⟩ | ⟨q, st₀, t, T', L, E, ce, h0, X', hL, e1, e2, ⟨u, hp, hb, hF⟩, hce, hcv, hcl, st⟩
  · cases hv
    obtain ⟨k1, k2, k3⟩ := vx_keep h0 e1 hS hA hf hL hF
    obtain ⟨t2, a1, b1⟩ := kk r u t T'.heap (locs ++ L) e1.symm (by rw [← e2]; exact X'.warmed.alike) hp hb k1 k2 k3 T' rfl X'
    exact ⟨t2, st t2 a1, b1⟩
  · obtain ⟨k1, k2, k3⟩ := vx_keep h0 e1 hS hAX hf hL hF
    obtain ⟨t2, a1, b1⟩ := kx E ce q u t T'.heap (locs ++ L) e1.symm (by rw [← e2]; exact X'.warmed.alike) hp hb k1 k2 k3 (by rw [e1]; exact hce) hcv hcl T' rfl X'
    exact ⟨t2, st.trans a1, b1⟩
theorem vx_callv {S SX : Type} {post : S → Prop} {px : SX → Prop} {B : S → State → Prop} {BX : String → SX → State → Prop} {AX : Nat → Prop} (hr : vx_Run p l e R s m args below meth c H locs cells slots mc ms (F0 m pc ls st0) rest (va_Qv post B A1 a) (vx_X px BX AX) free) (hS : va_S A0 H0 H locs) (hA : ∀ q, q < H.size → A1 q → A0 q) (hf : ∀ q, free q → A0 q) (hAX : ∀ q, q < H.size → AX q → A0 q)
    (kx : ∀ (E : String) (ce : Cell) (q9 : Addr) (u : SX) (t : State) (H1 : Heap) (locs1 : List Loc), t.heap = H1 → s.vm.Alike t.vm → px u → BX E u t → H.size ≤ H1.size → (∀ q : Nat, q < H.size → ¬ AX q → H1[q]? = H[q]?) → va_S A0 H0 H1 locs1 → H1[q9]? = some ce → ce.vm = .none → s.vm.findClass E = some ce.cls → vx_W p l e R s m args below meth c H1 locs1 (cells + mc) (slots + ms) Q (F0 m pc ls rest) q9)
    (kk : ∀ (u : S) (t : State) (H1 : Heap) (locs1 : List Loc), t.heap = H1 → s.vm.Alike t.vm → post u → B u t → H.size ≤ H1.size → (∀ q : Nat, q < H.size → ¬ A1 q → H1[q]? = H[q]?) → va_S A0 H0 H1 locs1 → W p l e R s m args below meth c H1 locs1 (cells + mc) (slots + ms) Q (F0 m (pc + 3) ls (rest))) : W p l e R s m args below meth c H locs cells slots Q (F0 m pc ls st0) := by
  intro T hT X
  rcases hr T hT X with ⟨v, st₀, t, T', L, h0, X', hL, e1, e2, ⟨⟨u, hv, hp, hb⟩, hF⟩, st⟩ | ⟨q, st₀, t, T', L, E, ce, h0, X', hL, e1, e2, ⟨u, hp, hb, hF⟩, hce, hcv, hcl, st⟩
  · cases hv
    obtain ⟨k1, k2, k3⟩ := vx_keep h0 e1 hS hA hf hL hF
    obtain ⟨t2, a1, b1⟩ := kk u t T'.heap (locs ++ L) e1.symm (by rw [← e2]; exact X'.warmed.alike) hp hb k1 k2 k3 T' rfl X'
    exact ⟨t2, st t2 a1, b1⟩
  · obtain ⟨k1, k2, k3⟩ := vx_keep h0 e1 hS hAX hf hL hF
    obtain ⟨t2, a1, b1⟩ := kx E ce q u t T'.heap (locs ++ L) e1.symm (by rw [← e2]; exact X'.warmed.alike) hp hb k1 k2 k3 (by rw [e1]; exact hce) hcv hcl T' rfl X'
    exact ⟨t2, st.trans a1, b1⟩
/-- caught by the row x of this method's table; the rows ahead don't take it -/
theorem vx_catch {own name : String} {E : String} {ce : Cell} {q : Addr} (hown : s.vm.findClass own = some m.cls) (pre : List ExceptionTableEntry) (x : ExceptionTableEntry) (suf : List ExceptionTableEntry) (hsplit : c.exceptionTable.toList = pre ++ x :: suf)
    (hpass : ∀ z ∈ pre, covers z pc = false ∨ (z.catchType ≠ 0 ∧ ∃ nm : String, (Cond.classLink own z.catchType nm).before args s = true ∧ va_Nc E nm s)) (hx : covers x pc = true) (h0 : x.catchType ≠ 0)
    (hlink : (Cond.classLink own x.catchType name).before args s = true) (hcast : (Cond.castable E name).before args s = true) (hcell : H[q]? = some ce) (hv : ce.vm = .none) (hcl : s.vm.findClass E = some ce.cls)
    (kk : W p l e R s m args below meth c H locs cells slots Q (F0 m x.handlerPc ls [.ref q])) : vx_W p l e R s m args below meth c H locs cells slots Q (F0 m pc ls rest) q := by
  intro T hT X
  have hpl : e.platform.magicAccessors = ({} : Platform).magicAccessors := by rw [X.admits.platform]
  obtain ⟨c3, c4, hc3, hc4, hasg⟩ := Cond.castable_spec hcast
  cases Option.some.inj (hc3.symm.trans hcl)
  obtain ⟨c5, hc5, hcl5⟩ := Cond.classLink_spec hown hlink e.platform hpl
  cases Option.some.inj (hc4.symm.trans hc5)
  obtain ⟨vm', X', st⟩ := Stand.thenCaughtThrough X q (g := F0 m pc ls rest) rfl (Steps.refl _) (by rw [hT]; exact hcell) (by rw [hv]; rfl) (by obtain ⟨k9, h9, -⟩ := Vm.findClass_spec hcl; exact ⟨k9, h9⟩) pre x suf hsplit
    (fun z hz => by
      rcases hpass z hz with h | ⟨hz0, nm, hl1, hn1⟩
      · exact Or.inl h
      · obtain ⟨c6, hc6, hcl6⟩ := Cond.classLink_spec hown hl1 e.platform hpl
        obtain ⟨a8, b8, h1, h2, h3⟩ := hn1
        cases Option.some.inj (h1.symm.trans hcl)
        cases Option.some.inj (h2.symm.trans hc6)
        exact Or.inr ⟨hz0, _, hcl6, h3⟩) hx (Or.inr ⟨h0, c4, hcl5, hasg⟩)
  obtain ⟨t, a1, b1⟩ := kk (T.setVm vm') hT X'
  exact ⟨t, st.trans a1, b1⟩
end Rows
section Ends
variable {p : Program} {l : Launch} {e : Env} {R : Room} {s : State} {m : MethodId} {args : Array Value} {below : List Frame} {meth : Method} {c : Code} {H : Heap} {locs : List Loc} {cells slots : Nat} {Q : State → Prop}
variable {mc ms : Nat} {free : Addr → Prop} {A0 A1 : Nat → Prop} {H0 : Heap} {a : Array Value} {ls : Array Slot} {st0 rest : List Value}
variable {Qc : Array Value → State → Outcome → State → Prop} {XC : String → State → State → Prop}
/-- what a body that may throw owes at its end -/
def vx_MQ (below : List Frame) (Qc : Array Value → State → Outcome → State → Prop) (XC : String → State → State → Prop) (a : Array Value) (s : State) (mc ms : Nat) (free : Addr → Prop) : State → Prop := fun t =>
  ∃ o, t.status = .running ∧ Ended t below o ∧ vx_Q Qc XC mc ms free a s o t
theorem vx_ret {g : JFrame} {mc ms : Nat} (k : W p l e R s m args below meth c H locs cells slots (MQ below Qc args s mc ms free) g) : W p l e R s m args below meth c H locs cells slots (vx_MQ below Qc XC args s mc ms free) g := by
  intro T hT X
  obtain ⟨t, a1, o, b1, b2, b3, b4⟩ := k T hT X
  exact ⟨t, a1, o, b1, b2, Or.inl ⟨b3, b4⟩⟩
/-- not caught here: it goes on to the caller -/
theorem vx_widen {g : JFrame} {q : Addr} {k n : Nat} (h1 : cells ≤ k) (h2 : slots ≤ n) (kk : vx_W p l e R s m args below meth c H locs k n Q g q) : vx_W p l e R s m args below meth c H locs cells slots Q g q := fun T hT X => kk T hT (stand_widen X h1 h2)
theorem vx_out {pc : Nat} {E : String} {ce : Cell} {q : Addr} {mc ms : Nat} (hout : ∀ x ∈ c.exceptionTable.toList, covers x pc = false) (hlocks : meth.locks = false) (hcell : H[q]? = some ce) (hv : ce.vm = .none) (hcl : s.vm.findClass E = some ce.cls)
    (hx : ∀ t : State, t.heap = H → s.vm.Alike t.vm → XC E s t) (hf : ∀ z ∈ locs, free z.base) (hc : cells ≤ mc) (hs : slots ≤ ms) :
    vx_W p l e R s m args below meth c H locs cells slots (vx_MQ below Qc XC args s mc ms free) (F0 m pc ls rest) q := by
  intro T hT X
  obtain ⟨st1, hrun, hend, hW, hsm⟩ := X.leaveThrown q (g := F0 m pc ls rest) rfl rfl rfl hout hlocks
  have hcell9 : (T.setFrames (.throwing q :: below)).heap[q]? = some ce := by
    show T.heap[q]? = some ce
    rw [hT]; exact hcell
  exact ⟨_, st1, .threw q, hrun, hend, Or.inr ⟨q, rfl, E, ce, locs, hx _ hT hW.alike, hcell9, hv, hcl, hW, hsm.mono hc hs, hf⟩⟩
theorem vx_frame {U : State} {k n : Nat} (h : s.sameButNew ({ U with vm := s.vm } : State) locs k n) : s.heap.size ≤ U.heap.size ∧ ∀ q : Nat, q < s.heap.size → (∀ z ∈ locs, z.base ≠ q) → U.heap[q]? = s.heap[q]? := by
  obtain ⟨-, h2, -, -, -, h6⟩ := h
  refine ⟨h2, fun q hq hz => ?_⟩
  obtain ⟨c9, e1, e2, e3, e4⟩ := h6 q _ (Array.getElem?_eq_getElem hq)
  have hs : c9.slots = (s.heap[q]).slots := Array.ext_getElem? fun i => e4 i fun hm => hz _ hm rfl
  have h9 : c9 = s.heap[q] := by
    rw [hs] at e2
    exact e2
  have e5 : U.heap[q]? = some c9 := e1
  rw [e5, h9, Array.getElem?_eq_getElem hq]
/-- the words of a throw but the four that speak of the heap -/
def vx_no (w : Cond) : Bool := decide (w ≠ .isRef (.static Bundle.tN "UNASSIGNED_STACK" Bundle.steD)) && decide (w ≠ .isRef (.static Bundle.tN "SUPPRESSED_SENTINEL" Bundle.listD)) && decide (w ≠ .laysStatic Bundle.tN "UNASSIGNED_STACK" Bundle.steD) && decide (w ≠ .laysStatic Bundle.tN "SUPPRESSED_SENTINEL" Bundle.listD)
def vx_at0 (own : String) (ic : Nat) (X : String) (names : List String) : List Cond := (Bundle.ownAtoms0 own ic X names).filter vx_no
def vx_atS (own : String) (ic : Nat) (X : String) (names : List String) : List Cond := (Bundle.ownAtoms own ic X names).filter vx_no
/-- a word that the tables alone decide, or a good one -/
def vx_ot (w : Cond) : Bool := w.onTables || goodWord w
theorem vx_ot_at {args a' : Array Value} {s U : State} {w : Cond} (hW : s.WarmedH U.vm) (hvm : s.vm = U.vm) (hg : vx_ot w = true) (h : w.before args s = true) : w.before a' U = true := by
  simp only [vx_ot, Bool.or_eq_true] at hg
  rcases hg with hg | hg
  · exact va_tabs hg hvm h
  · exact word_at hW (good_of_word hg) h
/-- a list's words: the good ones out of the method's own list, the others by premises of their own -/
theorem vx_hat {args : Array Value} {s : State} {L B : List Cond} (h1 : ∀ w ∈ L.filter goodWord, w.before args s = true) (h2 : ∀ w ∈ L.filter (fun w => !goodWord w), w ∈ B) (h3 : ∀ w ∈ B, w.before args s = true) : ∀ w ∈ L, w.before args s = true := by
  intro w hw
  by_cases g : goodWord w = true
  · exact h1 w (List.mem_filter.mpr ⟨hw, g⟩)
  · refine h3 w (h2 w (List.mem_filter.mpr ⟨hw, ?_⟩))
    show (!goodWord w) = true
    cases hgw : goodWord w
    · rfl
    · exact absurd hgw g
theorem vx_c {args : Array Value} {s : State} {w : Cond} {B : List Cond} (h : w.before args s = true) (t : ∀ w ∈ B, w.before args s = true) : ∀ w' ∈ w :: B, w'.before args s = true := fun w' h' => (List.mem_cons.mp h').elim (fun e => by rw [e]; exact h) (t w')
theorem vx_n {args : Array Value} {s : State} : ∀ w ∈ ([] : List Cond), w.before args s = true := fun _ h => nomatch h
theorem vx_own {args : Array Value} {s : State} {L : List Cond} (h1 : ∀ w ∈ L.filter vx_no, w.before args s = true)
    (hU : (Cond.isRef (.static Bundle.tN "UNASSIGNED_STACK" Bundle.steD)).before args s = true) (hN : (Cond.isRef (.static Bundle.tN "SUPPRESSED_SENTINEL" Bundle.listD)).before args s = true)
    (lU : (Cond.laysStatic Bundle.tN "UNASSIGNED_STACK" Bundle.steD).before args s = true) (lN : (Cond.laysStatic Bundle.tN "SUPPRESSED_SENTINEL" Bundle.listD).before args s = true) : ∀ w ∈ L, w.before args s = true := by
  intro w hw
  by_cases e1 : w = .isRef (.static Bundle.tN "UNASSIGNED_STACK" Bundle.steD)
  · rw [e1]; exact hU
  · by_cases e2 : w = .isRef (.static Bundle.tN "SUPPRESSED_SENTINEL" Bundle.listD)
    · rw [e2]; exact hN
    · by_cases e3 : w = .laysStatic Bundle.tN "UNASSIGNED_STACK" Bundle.steD
      · rw [e3]; exact lU
      · by_cases e4 : w = .laysStatic Bundle.tN "SUPPRESSED_SENTINEL" Bundle.listD
        · rw [e4]; exact lN
        · exact h1 w (List.mem_filter.mpr ⟨hw, by unfold vx_no; rw [decide_eq_true e1, decide_eq_true e2, decide_eq_true e3, decide_eq_true e4]; rfl⟩)
/-- where a static field lies, its class's statics cell in H -/
def vx_L (C n d : String) (A : Nat → Prop) (U : State) (H : Heap) : Prop := ∃ (c : ClassId) (k : Class) (i : Nat) (f : Field) (a : Nat) (cell : Cell), U.vm.findClass C = some c ∧ U.fieldFound? C n d = some (c, k, i, f) ∧ f.isStatic = true ∧ k.statics = some a ∧ H[a]? = some cell ∧ cell.vm.isStatics = true ∧ cell.cls = c ∧ f.slot < cell.slots.size ∧ k.staticTypes[f.slot]? = some f.type ∧ ¬ A a
theorem vx_L.moved {C n d : String} {A : Nat → Prop} {u U : State} {H : Heap} (hvm : u.vm.Alike U.vm) (h : vx_L C n d A u H) : vx_L C n d A U H := by
  obtain ⟨c, k, i, f, a, cell, h1, h2, h3, h4, h5, h6, h7, h8, h9, h10⟩ := h
  obtain ⟨k', hi', he⟩ := State.fieldFound?_setVm hvm h2
  exact ⟨c, k', i, f, a, cell, by rw [hvm.findClass]; exact h1, hi', h3, by rw [he]; exact h4, h5, h6, h7, h8, by rw [he]; exact h9, h10⟩
theorem vx_L.kept {C n d : String} {A : Nat → Prop} {U : State} {H H1 : Heap} (h : vx_L C n d A U H) (hq : ∀ a : Nat, a < H.size → ¬ A a → H1[a]? = H[a]?) : vx_L C n d A U H1 := by
  obtain ⟨c, k, i, f, a, cell, h1, h2, h3, h4, h5, h6, h7, h8, h9, h10⟩ := h
  exact ⟨c, k, i, f, a, cell, h1, h2, h3, h4, by rw [hq a (Array.getElem?_eq_some_iff.mp h5).1 h10]; exact h5, h6, h7, h8, h9, h10⟩
theorem vx_L.narrow {C n d : String} {A B : Nat → Prop} {U : State} {H : Heap} (h : vx_L C n d A U H) (hAB : ∀ q, B q → A q) : vx_L C n d B U H := by
  obtain ⟨c, k, i, f, a, cell, h1, h2, h3, h4, h5, h6, h7, h8, h9, h10⟩ := h
  exact ⟨c, k, i, f, a, cell, h1, h2, h3, h4, h5, h6, h7, h8, h9, fun z => h10 (hAB _ z)⟩
theorem vx_L.word {C n d : String} {A : Nat → Prop} {s : State} {args : Array Value} (h : vx_L C n d A s s.heap) : (Cond.laysStatic C n d).before args s = true := by
  obtain ⟨c, k, i, f, a, cell, h1, h2, h3, h4, h5, h6, h7, h8, h9, -⟩ := h
  show (Cond.laysStatic C n d).holds args s none s [] = true
  exact Cond.laysStatic_of h1 h2 h3 h4 h5 h6 h7 h8 h9
/-- .. and what it holds: null or some reference -/
def vx_Zq (C n d : String) (A : Nat → Prop) (U : State) (H : Heap) : Prop := va_Zq C n d A U H ∧ vx_L C n d A U H
theorem vx_Zq.moved {C n d : String} {A : Nat → Prop} {u U : State} {H : Heap} (hvm : u.vm.Alike U.vm) (h : vx_Zq C n d A u H) : vx_Zq C n d A U H := ⟨va_Zq.moved hvm h.1, vx_L.moved hvm h.2⟩
theorem vx_Zq.kept {C n d : String} {A : Nat → Prop} {U : State} {H H1 : Heap} (h : vx_Zq C n d A U H) (hq : ∀ a : Nat, a < H.size → ¬ A a → H1[a]? = H[a]?) : vx_Zq C n d A U H1 := ⟨va_Zq.kept h.1 hq, vx_L.kept h.2 hq⟩
theorem vx_Zq.narrow {C n d : String} {A B : Nat → Prop} {U : State} {H : Heap} (h : vx_Zq C n d A U H) (hAB : ∀ q, B q → A q) : vx_Zq C n d B U H := ⟨va_Zq.narrow h.1 hAB, vx_L.narrow h.2 hAB⟩
theorem vx_Zqof {args : Array Value} {s : State} {C n d : String} {A : Nat → Prop} (hl : (Cond.laysStatic C n d).before args s = true) (hini : (Cond.initialized C).before args s = true) (h : (Cond.isRef (.static C n d)).before args s = true) (hA : ∀ a : Nat, a < s.heap.size → ¬ A a) : vx_Zq C n d A s s.heap := by
  refine ⟨va_Zqof hl hini h hA, ?_⟩
  obtain ⟨c, k, i, f, a, cell, h1, h2, h3, h4, h5, h6, h7, h8, h9⟩ := Cond.laysStatic_spec hl
  exact ⟨c, k, i, f, a, cell, h1, h2, h3, h4, h5, h6, h7, h8, h9, hA a (Array.getElem?_eq_some_iff.mp h5).1⟩
theorem vx_isRef {C n d : String} {v : Value} {A : Nat → Prop} {s : State} {args : Array Value} (h : va_Z C n d v A s s.heap) (hv : v.isRef = true) : (Cond.isRef (.static C n d)).before args s = true := by
  obtain ⟨cf, kf, fi, f, a, cell, h1, h2, h3, h4, h5, h6, h7, -⟩ := h
  have he : (Term.static C n d).eval args s none [] s = some v := by
    simp [Term.eval, State.fieldNamed?, h1, h2, h4, h5, h6, h7]
  simp only [Cond.before, Cond.holds, Cond.value, he]
  cases v <;> simp_all [Value.isRef]
theorem vx_isRefq {C n d : String} {A : Nat → Prop} {s : State} {args : Array Value} (h : va_Zq C n d A s s.heap) : (Cond.isRef (.static C n d)).before args s = true := by
  rcases h with h | ⟨t, h⟩
  · exact vx_isRef h rfl
  · exact vx_isRef h rfl
/-- the same frame, seen from here: as if the method were called anew in this heap -/
theorem vx_rebase {T : State} (X : Stand p l e R s m args below meth c T locs cells slots) {R' : Room} (hf : R'.frames ≤ R.frames) (hl : R'.locals ≤ R.locals) (hc : cells + R'.cells ≤ R.cells) (hs : slots + R'.slots ≤ R.slots) :
    Stand p l e R' ((T.setVm s.vm).setFrames (.invoking m args :: below)) m args below meth c T [] 0 0 := by
  have htop : (T.setVm s.vm).topJava?.isSome := X.here.top
  have hF : ((T.setVm s.vm).setFrames (.invoking m args :: below)).frames = .invoking m args :: below := State.frames_setFrames _ (State.cur_lt_of_top htop)
  obtain ⟨g₀, hg0⟩ := Option.isSome_iff_exists.mp htop
  obtain ⟨r, hr⟩ := State.topJava?_eq_some.mp hg0
  have hl9 : e.platform.stackLimits (T.setVm s.vm).me = e.platform.stackLimits s.me := X.limits
  have hb9 : (T.setVm s.vm).me.stackBytes = s.me.stackBytes := X.bytes
  refine ⟨X.admits, X.cas, X.clock, hF, ?_, X.hears, X.method, X.code, X.here, X.tail, X.warmed, ?_, ?_, ?_⟩
  · have h := X.room
    have hU : ((T.setVm s.vm).setFrames (.invoking m args :: below)).localsInUse = s.localsInUse := by
      rw [State.localsInUse_invoking hF (meth := meth) (c := c) X.method X.code, State.localsInUse_invoking X.frames X.method X.code]
    simp only [State.hasRoom, Bool.and_eq_true, decide_eq_true_eq] at h ⊢
    obtain ⟨⟨⟨⟨h1, h2, h3, h4, h5, h6⟩, h7⟩, h8⟩, h9⟩ := h
    rw [X.frames, List.length_cons] at h2 h3
    have q1 := X.heapSize
    have q2 := X.used
    simp only [hF, hU, List.length_cons, State.stackLimits_setFrames, State.stackBytes_setFrames, hl9, hb9]
    refine ⟨⟨⟨⟨by omega, by omega, by omega, by omega, by omega, h6⟩, ?_⟩, ?_⟩, X.book⟩
    · show T.heap.size + R'.cells ≤ e.platform.maxCells
      omega
    · show T.slotsUsed + R'.slots ≤ e.platform.maxSlots
      omega
  · rw [State.stackLimits_setFrames]; rfl
  · rw [State.stackBytes_setFrames]; rfl
  · refine ⟨?_, Nat.le_refl _, Nat.le_refl _, ?_, ?_, fun a c9 h9 => ⟨c9, h9, rfl, rfl, fun _ _ => rfl⟩⟩
    · obtain ⟨t, ht, -⟩ := State.frames_cons hr
      show T.setVm s.vm = { ((T.setVm s.vm).setFrames (.invoking m args :: below)).setFrames (T.setVm s.vm).frames with heap := T.heap, slotsUsed := T.slotsUsed }
      rw [State.setFrames_setFrames, State.setFrames_self ht]
      rfl
    · show T.slotsUsed = T.slotsUsed + ((T.heap.toList.drop T.heap.size).map (·.slots.size)).sum
      rw [List.drop_eq_nil_of_le (Nat.le_of_eq Array.length_toList)]
      rfl
    · show ((T.heap.toList.drop T.heap.size).map (·.slots.size)).sum ≤ 0
      rw [List.drop_eq_nil_of_le (Nat.le_of_eq Array.length_toList)]
      exact Nat.le_refl _
/-- 'throw new E()': new; dup; invokespecial; athrow -/
theorem vx_throw0 {cc : ByteArray} {pc : Nat} (hexec : p.tables.exec = Jvm.exec) (hb : c.code = cc) (hl : l.stackTraces = false) {own cls : String} {names : List String} {ik ic mc ms : Nat} {A : Nat → Prop}
    (hown : s.vm.findClass own = some m.cls) (hcls : Bundle.fit cls = true) (hnames : ∀ n ∈ names, Bundle.fit n = true)
    (hk : (Cond.classLink own ik cls).before args s = true) (hini : (Cond.initialized cls).before args s = true) (hat : ∀ w ∈ vx_at0 own ic cls names, w.before args s = true)
    (hgood : ∀ w ∈ Cond.classLink own ik cls :: Cond.initialized cls :: vx_at0 own ic cls names, vx_ot w = true)
    (hU : vx_Zq Bundle.tN "UNASSIGNED_STACK" Bundle.steD A s s.heap) (hN : vx_Zq Bundle.tN "SUPPRESSED_SENTINEL" Bundle.listD A s s.heap) (hS : va_S A s.heap H locs) (hsize : ls.size = c.maxLocals)
    (d0 : decode cc pc = .ok (.new ik, 3)) (d3 : decode cc (pc + 3) = .ok (.dup, 1)) (d4 : decode cc (pc + 4) = .ok (.invokespecial ic, 3)) (d7 : decode cc (pc + 7) = .ok (.athrow, 1))
    (hout : ∀ x ∈ c.exceptionTable.toList, covers x (pc + 7) = false)
    (hRframes : names.length + 3 < R.frames) (hRlocals : (rest.map fun v => v.category).sum + (13 * (names.length + 1) + 42) ≤ R.locals) (hRcells : cells + 1 ≤ R.cells) (hRslots : slots + 6 ≤ R.slots) (hlocks : meth.locks = false)
    (hx : ∀ t : State, s.vm.Alike t.vm → H.size ≤ t.heap.size → (∀ q : Nat, q < H.size → t.heap[q]? = H[q]?) → XC cls s t)
    (hf : ∀ z ∈ locs, free z.base) (hc : cells + 1 ≤ mc) (hs : slots + 6 ≤ ms) :
    W p l e R s m args below meth c H locs cells slots (vx_MQ below Qc XC args s mc ms free) (F0 m pc ls rest) := by
  intro T hT X
  have htr : e.platform.stackTraces = false := (show e.platform.stackTraces = l.stackTraces by rw [X.admits.platform]).trans hl
  have Y := vx_rebase X (R' := { frames := R.frames, locals := R.locals, cells := 1, slots := 6 }) (Nat.le_refl _) (Nat.le_refl _) hRcells hRslots
  obtain ⟨s', hA⟩ : ∃ z, z = (T.setVm s.vm).setFrames (.invoking m args :: below) := ⟨_, rfl⟩
  rw [← hA] at Y
  have hvm : s'.vm = s.vm := by rw [hA]; rfl
  have hhp : s'.heap = H := by rw [hA]; exact hT
  have hW0 : s.WarmedH s'.vm := by rw [hvm]; exact State.WarmedH.refl s
  have hat' : ∀ w ∈ vx_at0 own ic cls names, w.before args s' = true := fun w hw => vx_ot_at hW0 hvm.symm (hgood w (List.mem_cons_of_mem _ (List.mem_cons_of_mem _ hw))) (hat w hw)
  have hk' : (Cond.classLink own ik cls).before args s' = true := vx_ot_at hW0 hvm.symm (hgood _ List.mem_cons_self) hk
  have hini' : (Cond.initialized cls).before args s' = true := vx_ot_at hW0 hvm.symm (hgood _ (List.mem_cons_of_mem _ List.mem_cons_self)) hini
  have hU' : vx_Zq Bundle.tN "UNASSIGNED_STACK" Bundle.steD A s' s'.heap := by rw [hhp]; exact vx_Zq.moved hW0.alike (hU.kept hS.2.1)
  have hN' : vx_Zq Bundle.tN "SUPPRESSED_SENTINEL" Bundle.listD A s' s'.heap := by rw [hhp]; exact vx_Zq.moved hW0.alike (hN.kept hS.2.1)
  have h : ∀ w ∈ Bundle.ownAtoms0 own ic cls names, w.before args s' = true := vx_own hat' (vx_isRefq hU'.1) (vx_isRefq hN'.1) hU'.2.word hN'.2.word
  have hown' : s'.vm.findClass own = some m.cls := by rw [hvm]; exact hown
  have hins : (Cond.instantiable cls 6).before args s' = true := h _ (by simp [Bundle.ownAtoms0])
  obtain ⟨vm₁, cX, kX, hfX, hkX, -, -, X₁, st1⟩ := Y.newCold hexec (own := own) (C := cls) (index := ik) (n := 6) hown' hk' hins hini'
    (g := F0 m pc ls rest) rfl (by rw [hb]; exact d0) (Nat.le_refl _) (Nat.le_refl _)
  generalize hT1 : (T.setVm vm₁).pushCell { cls := cX, slots := kX.instanceTypes.map defaultValue, vm := .none } = T1 at X₁ st1
  have hcat : (Value.ref T.heap.size).category = 1 := rfl
  have hcellA : T1.heap[T.heap.size]? = some (freshCell cX kX) := by rw [← hT1]; exact State.heap_pushCell_size _ _
  have d3' : decode c.code (pc + 3) = .ok (.dup, 1) := by rw [hb]; exact d3
  obtain ⟨U, hsteps, hrun, hend, hW, hsame, ce, hce, hO⟩ := X₁.ctorThrow0 hexec htr (own := own) (cls := cls) (names := names) (ic := ic) hown' hcls hnames h (fun x hx => nomatch hx) hfX hkX hcellA (by rw [hhp, hT]; exact Nat.le_refl _)
    (g := { method := m, pc := pc + 4, locals := ls, stack := .ref T.heap.size :: .ref T.heap.size :: rest, locked := none }) rfl hsize rfl rfl (rest := rest) rfl
    (by rw [hb]; exact d4) (by rw [hb]; exact d7) hout hRframes (by simp only [List.map_cons, List.sum_cons, hcat]; omega) hlocks
  obtain ⟨f1, f2⟩ := vx_frame hsame
  rw [hhp] at f1 f2
  have hWs : s.WarmedH U.vm := State.WarmedH.trans hW0 hW
  have hcl : s.vm.findClass cls = some ce.cls := by
    have h9 := hO.cls
    rw [hvm] at h9
    exact h9
  have hall : s.sameButNew ({ U with vm := s.vm } : State) locs mc ms := by
    subst hA
    obtain ⟨e1, e2⟩ := hsame
    rw [State.setFrames_setFrames] at e1
    have h2 : (T.setVm s.vm).sameButNew ({ U with vm := s.vm } : State) [] (0 + 1) (0 + 6) := ⟨e1, e2⟩
    have h3 := X.same.trans h2
    rw [List.append_nil] at h3
    exact h3.mono hc hs
  refine ⟨U, ?_, .threw T.heap.size, hrun, hend, Or.inr ⟨T.heap.size, rfl, cls, ce, locs, hx U hWs.alike f1 (fun q hq => f2 q hq (fun z hz => nomatch hz)), hce, hO.vm, hcl, hWs, hall, hf⟩⟩
  refine st1 _ ?_
  show Steps p.tables e below (T1.setTop { method := m, pc := pc + 3, locals := ls, stack := .ref T.heap.size :: rest, locked := none }) _
  jvm_step X₁.here [X₁.here.top, hexec, d3', Value.category]
  exact hsteps
/-- 'throw new E("text")': new; dup; ldc; invokespecial; athrow -/
theorem vx_throwS {cc : ByteArray} {pc : Nat} (hexec : p.tables.exec = Jvm.exec) (hb : c.code = cc) (hl : l.stackTraces = false) {own cls text : String} {names : List String} {ik is ic mc ms sa : Nat} {A : Nat → Prop}
    (hown : s.vm.findClass own = some m.cls) (hcls : Bundle.fit cls = true) (hnames : ∀ n ∈ names, Bundle.fit n = true)
    (hk : (Cond.classLink own ik cls).before args s = true) (hini : (Cond.initialized cls).before args s = true) (hstr : vk_R own is text sa s) (hat : ∀ w ∈ vx_atS own ic cls names, w.before args s = true)
    (hgood : ∀ w ∈ Cond.classLink own ik cls :: Cond.initialized cls :: vx_atS own ic cls names, vx_ot w = true)
    (hU : vx_Zq Bundle.tN "UNASSIGNED_STACK" Bundle.steD A s s.heap) (hN : vx_Zq Bundle.tN "SUPPRESSED_SENTINEL" Bundle.listD A s s.heap) (hS : va_S A s.heap H locs) (hsize : ls.size = c.maxLocals)
    (d0 : decode cc pc = .ok (.new ik, 3)) (d3 : decode cc (pc + 3) = .ok (.dup, 1)) (d4 : decode cc (pc + 4) = .ok (.ldc is, 2)) (d6 : decode cc (pc + 6) = .ok (.invokespecial ic, 3)) (d9 : decode cc (pc + 9) = .ok (.athrow, 1))
    (hout : ∀ x ∈ c.exceptionTable.toList, covers x (pc + 9) = false)
    (hRframes : names.length + 3 < R.frames) (hRlocals : (rest.map fun v => v.category).sum + (13 * (names.length + 1) + 43) ≤ R.locals) (hRcells : cells + 1 ≤ R.cells) (hRslots : slots + 6 ≤ R.slots) (hlocks : meth.locks = false)
    (hx : ∀ t : State, s.vm.Alike t.vm → H.size ≤ t.heap.size → (∀ q : Nat, q < H.size → t.heap[q]? = H[q]?) → XC cls s t)
    (hf : ∀ z ∈ locs, free z.base) (hc : cells + 1 ≤ mc) (hs : slots + 6 ≤ ms) :
    W p l e R s m args below meth c H locs cells slots (vx_MQ below Qc XC args s mc ms free) (F0 m pc ls rest) := by
  intro T hT X
  have htr : e.platform.stackTraces = false := (show e.platform.stackTraces = l.stackTraces by rw [X.admits.platform]).trans hl
  have Y := vx_rebase X (R' := { frames := R.frames, locals := R.locals, cells := 1, slots := 6 }) (Nat.le_refl _) (Nat.le_refl _) hRcells hRslots
  obtain ⟨s', hA⟩ : ∃ z, z = (T.setVm s.vm).setFrames (.invoking m args :: below) := ⟨_, rfl⟩
  rw [← hA] at Y
  have hvm : s'.vm = s.vm := by rw [hA]; rfl
  have hhp : s'.heap = H := by rw [hA]; exact hT
  have hW0 : s.WarmedH s'.vm := by rw [hvm]; exact State.WarmedH.refl s
  have hat' : ∀ w ∈ vx_atS own ic cls names, w.before args s' = true := fun w hw => vx_ot_at hW0 hvm.symm (hgood w (List.mem_cons_of_mem _ (List.mem_cons_of_mem _ hw))) (hat w hw)
  have hk' : (Cond.classLink own ik cls).before args s' = true := vx_ot_at hW0 hvm.symm (hgood _ List.mem_cons_self) hk
  have hini' : (Cond.initialized cls).before args s' = true := vx_ot_at hW0 hvm.symm (hgood _ (List.mem_cons_of_mem _ List.mem_cons_self)) hini
  have hU' : vx_Zq Bundle.tN "UNASSIGNED_STACK" Bundle.steD A s' s'.heap := by rw [hhp]; exact vx_Zq.moved hW0.alike (hU.kept hS.2.1)
  have hN' : vx_Zq Bundle.tN "SUPPRESSED_SENTINEL" Bundle.listD A s' s'.heap := by rw [hhp]; exact vx_Zq.moved hW0.alike (hN.kept hS.2.1)
  have h : ∀ w ∈ Bundle.ownAtoms own ic cls names, w.before args s' = true := vx_own hat' (vx_isRefq hU'.1) (vx_isRefq hN'.1) hU'.2.word hN'.2.word
  have hown' : s'.vm.findClass own = some m.cls := by rw [hvm]; exact hown
  have hins : (Cond.instantiable cls 6).before args s' = true := h _ (by simp [Bundle.ownAtoms])
  obtain ⟨vm₁, cX, kX, hfX, hkX, -, -, X₁, st1⟩ := Y.newCold hexec (own := own) (C := cls) (index := ik) (n := 6) hown' hk' hins hini'
    (g := F0 m pc ls rest) rfl (by rw [hb]; exact d0) (Nat.le_refl _) (Nat.le_refl _)
  generalize hT1 : (T.setVm vm₁).pushCell { cls := cX, slots := kX.instanceTypes.map defaultValue, vm := .none } = T1 at X₁ st1
  have hcat : (Value.ref T.heap.size).category = 1 := rfl
  have hcellA : T1.heap[T.heap.size]? = some (freshCell cX kX) := by rw [← hT1]; exact State.heap_pushCell_size _ _
  have d3' : decode c.code (pc + 3) = .ok (.dup, 1) := by rw [hb]; exact d3
  have d4' : decode c.code (pc + 4) = .ok (.ldc is, 2) := by rw [hb]; exact d4
  have hstr' : vk_R own is text sa s' := vk_R.warm hW0 hstr
  obtain ⟨U, hsteps, hrun, hend, hW, hsame, ce, hce, hO⟩ := X₁.ctorThrowS hexec htr (own := own) (cls := cls) (names := names) (ic := ic) hown' hcls hnames h (fun x hx => nomatch hx) hfX hkX hcellA (by rw [hhp, hT]; exact Nat.le_refl _) (msg := .ref sa) rfl
    (g := { method := m, pc := pc + 6, locals := ls, stack := .ref sa :: .ref T.heap.size :: .ref T.heap.size :: rest, locked := none }) rfl hsize rfl rfl (rest := rest) rfl
    (by rw [hb]; exact d6) (by rw [hb]; exact d9) hout hRframes (by simp only [List.map_cons, List.sum_cons, hcat]; omega) hlocks
  obtain ⟨f1, f2⟩ := vx_frame hsame
  rw [hhp] at f1 f2
  have hWs : s.WarmedH U.vm := State.WarmedH.trans hW0 hW
  have hcl : s.vm.findClass cls = some ce.cls := by
    have h9 := hO.cls
    rw [hvm] at h9
    exact h9
  have hall : s.sameButNew ({ U with vm := s.vm } : State) locs mc ms := by
    subst hA
    obtain ⟨e1, e2⟩ := hsame
    rw [State.setFrames_setFrames] at e1
    have h2 : (T.setVm s.vm).sameButNew ({ U with vm := s.vm } : State) [] (0 + 1) (0 + 6) := ⟨e1, e2⟩
    have h3 := X.same.trans h2
    rw [List.append_nil] at h3
    exact h3.mono hc hs
  refine ⟨U, ?_, .threw T.heap.size, hrun, hend, Or.inr ⟨T.heap.size, rfl, cls, ce, locs, hx U hWs.alike f1 (fun q hq => f2 q hq (fun z hz => nomatch hz)), hce, hO.vm, hcl, hWs, hall, hf⟩⟩
  refine st1 _ ?_
  show Steps p.tables e below (T1.setTop { method := m, pc := pc + 3, locals := ls, stack := .ref T.heap.size :: rest, locked := none }) _
  jvm_step X₁.here [X₁.here.top, hexec, d3', Value.category]
  exact X₁.ldcString hexec (own := own) (text := text) (index := is) (a := sa) hown' hstr'.1 hstr'.2
    (g := { method := m, pc := pc + 4, locals := ls, stack := .ref T.heap.size :: .ref T.heap.size :: rest, locked := none }) rfl d4' _ hsteps
/-- 'throw new E("text")', the text by a wide index -/
theorem vx_throwSW {cc : ByteArray} {pc : Nat} (hexec : p.tables.exec = Jvm.exec) (hb : c.code = cc) (hl : l.stackTraces = false) {own cls text : String} {names : List String} {ik is ic mc ms sa : Nat} {A : Nat → Prop}
    (hown : s.vm.findClass own = some m.cls) (hcls : Bundle.fit cls = true) (hnames : ∀ n ∈ names, Bundle.fit n = true)
    (hk : (Cond.classLink own ik cls).before args s = true) (hini : (Cond.initialized cls).before args s = true) (hstr : vk_R own is text sa s) (hat : ∀ w ∈ vx_atS own ic cls names, w.before args s = true)
    (hgood : ∀ w ∈ Cond.classLink own ik cls :: Cond.initialized cls :: vx_atS own ic cls names, vx_ot w = true)
    (hU : vx_Zq Bundle.tN "UNASSIGNED_STACK" Bundle.steD A s s.heap) (hN : vx_Zq Bundle.tN "SUPPRESSED_SENTINEL" Bundle.listD A s s.heap) (hS : va_S A s.heap H locs) (hsize : ls.size = c.maxLocals)
    (d0 : decode cc pc = .ok (.new ik, 3)) (d3 : decode cc (pc + 3) = .ok (.dup, 1)) (d4 : decode cc (pc + 4) = .ok (.ldc_w is, 3)) (d7 : decode cc (pc + 7) = .ok (.invokespecial ic, 3)) (d10 : decode cc (pc + 10) = .ok (.athrow, 1))
    (hout : ∀ x ∈ c.exceptionTable.toList, covers x (pc + 10) = false)
    (hRframes : names.length + 3 < R.frames) (hRlocals : (rest.map fun v => v.category).sum + (13 * (names.length + 1) + 43) ≤ R.locals) (hRcells : cells + 1 ≤ R.cells) (hRslots : slots + 6 ≤ R.slots) (hlocks : meth.locks = false)
    (hx : ∀ t : State, s.vm.Alike t.vm → H.size ≤ t.heap.size → (∀ q : Nat, q < H.size → t.heap[q]? = H[q]?) → XC cls s t)
    (hf : ∀ z ∈ locs, free z.base) (hc : cells + 1 ≤ mc) (hs : slots + 6 ≤ ms) :
    W p l e R s m args below meth c H locs cells slots (vx_MQ below Qc XC args s mc ms free) (F0 m pc ls rest) := by
  intro T hT X
  have htr : e.platform.stackTraces = false := (show e.platform.stackTraces = l.stackTraces by rw [X.admits.platform]).trans hl
  have Y := vx_rebase X (R' := { frames := R.frames, locals := R.locals, cells := 1, slots := 6 }) (Nat.le_refl _) (Nat.le_refl _) hRcells hRslots
  obtain ⟨s', hA⟩ : ∃ z, z = (T.setVm s.vm).setFrames (.invoking m args :: below) := ⟨_, rfl⟩
  rw [← hA] at Y
  have hvm : s'.vm = s.vm := by rw [hA]; rfl
  have hhp : s'.heap = H := by rw [hA]; exact hT
  have hW0 : s.WarmedH s'.vm := by rw [hvm]; exact State.WarmedH.refl s
  have hat' : ∀ w ∈ vx_atS own ic cls names, w.before args s' = true := fun w hw => vx_ot_at hW0 hvm.symm (hgood w (List.mem_cons_of_mem _ (List.mem_cons_of_mem _ hw))) (hat w hw)
  have hk' : (Cond.classLink own ik cls).before args s' = true := vx_ot_at hW0 hvm.symm (hgood _ List.mem_cons_self) hk
  have hini' : (Cond.initialized cls).before args s' = true := vx_ot_at hW0 hvm.symm (hgood _ (List.mem_cons_of_mem _ List.mem_cons_self)) hini
  have hU' : vx_Zq Bundle.tN "UNASSIGNED_STACK" Bundle.steD A s' s'.heap := by rw [hhp]; exact vx_Zq.moved hW0.alike (hU.kept hS.2.1)
  have hN' : vx_Zq Bundle.tN "SUPPRESSED_SENTINEL" Bundle.listD A s' s'.heap := by rw [hhp]; exact vx_Zq.moved hW0.alike (hN.kept hS.2.1)
  have h : ∀ w ∈ Bundle.ownAtoms own ic cls names, w.before args s' = true := vx_own hat' (vx_isRefq hU'.1) (vx_isRefq hN'.1) hU'.2.word hN'.2.word
  have hown' : s'.vm.findClass own = some m.cls := by rw [hvm]; exact hown
  have hins : (Cond.instantiable cls 6).before args s' = true := h _ (by simp [Bundle.ownAtoms])
  obtain ⟨vm₁, cX, kX, hfX, hkX, -, -, X₁, st1⟩ := Y.newCold hexec (own := own) (C := cls) (index := ik) (n := 6) hown' hk' hins hini'
    (g := F0 m pc ls rest) rfl (by rw [hb]; exact d0) (Nat.le_refl _) (Nat.le_refl _)
  generalize hT1 : (T.setVm vm₁).pushCell { cls := cX, slots := kX.instanceTypes.map defaultValue, vm := .none } = T1 at X₁ st1
  have hcat : (Value.ref T.heap.size).category = 1 := rfl
  have hcellA : T1.heap[T.heap.size]? = some (freshCell cX kX) := by rw [← hT1]; exact State.heap_pushCell_size _ _
  have d3' : decode c.code (pc + 3) = .ok (.dup, 1) := by rw [hb]; exact d3
  have d4' : decode c.code (pc + 4) = .ok (.ldc_w is, 3) := by rw [hb]; exact d4
  have hstr' : vk_R own is text sa s' := vk_R.warm hW0 hstr
  obtain ⟨U, hsteps, hrun, hend, hW, hsame, ce, hce, hO⟩ := X₁.ctorThrowS hexec htr (own := own) (cls := cls) (names := names) (ic := ic) hown' hcls hnames h (fun x hx => nomatch hx) hfX hkX hcellA (by rw [hhp, hT]; exact Nat.le_refl _) (msg := .ref sa) rfl
    (g := { method := m, pc := pc + 7, locals := ls, stack := .ref sa :: .ref T.heap.size :: .ref T.heap.size :: rest, locked := none }) rfl hsize rfl rfl (rest := rest) rfl
    (by rw [hb]; exact d7) (by rw [hb]; exact d10) hout hRframes (by simp only [List.map_cons, List.sum_cons, hcat]; omega) hlocks
  obtain ⟨f1, f2⟩ := vx_frame hsame
  rw [hhp] at f1 f2
  have hWs : s.WarmedH U.vm := State.WarmedH.trans hW0 hW
  have hcl : s.vm.findClass cls = some ce.cls := by
    have h9 := hO.cls
    rw [hvm] at h9
    exact h9
  have hall : s.sameButNew ({ U with vm := s.vm } : State) locs mc ms := by
    subst hA
    obtain ⟨e1, e2⟩ := hsame
    rw [State.setFrames_setFrames] at e1
    have h2 : (T.setVm s.vm).sameButNew ({ U with vm := s.vm } : State) [] (0 + 1) (0 + 6) := ⟨e1, e2⟩
    have h3 := X.same.trans h2
    rw [List.append_nil] at h3
    exact h3.mono hc hs
  refine ⟨U, ?_, .threw T.heap.size, hrun, hend, Or.inr ⟨T.heap.size, rfl, cls, ce, locs, hx U hWs.alike f1 (fun q hq => f2 q hq (fun z hz => nomatch hz)), hce, hO.vm, hcl, hWs, hall, hf⟩⟩
  refine st1 _ ?_
  show Steps p.tables e below (T1.setTop { method := m, pc := pc + 3, locals := ls, stack := .ref T.heap.size :: rest, locked := none }) _
  jvm_step X₁.here [X₁.here.top, hexec, d3', Value.category]
  exact X₁.ldcStringW hexec (own := own) (text := text) (index := is) (a := sa) hown' hstr'.1 hstr'.2
    (g := { method := m, pc := pc + 4, locals := ls, stack := .ref T.heap.size :: .ref T.heap.size :: rest, locked := none }) rfl d4' _ hsteps
end Ends
section Bodies
variable {l : Launch}
theorem vx_ofW {y : MethodName} {ws ws' : List Cond} {rm : Room} {Pc : Array Value → State → Prop} {Qc : Array Value → State → Outcome → State → Prop} {XC : String → State → State → Prop} {mc ms : Nat} {free : Addr → Prop} {cc : ByteArray} {maxL : Nat} {ret : Option FieldType}
    (hy : plainName y.cls = true) (hw : ws = Cond.code y cc maxL ret :: ws')
    (body : ∀ p e s m args below meth c s₁, BodyLoose p l y (headSpec ws rm) cc maxL ret e s m args below meth c s₁ → c.maxLocals = maxL → (∀ x ∈ c.exceptionTable.toList, False) → Pc args s →
      W p l e (headSpec ws rm).room s m args below meth c s.heap [] 0 0 (vx_MQ below Qc XC args s mc ms free) (entryFrame m args maxL)) : vx_Met l y ws rm Pc Qc XC mc ms free := by
  refine MetFree.of_bodyS (code := cc) (maxLocals := maxL) (ret := ret) hy ?_ ?_
  · intro args s m h hn
    obtain ⟨meth, c, h1, h2, h3, h4, h5, h6, -, -⟩ := Cond.code_spec hn (atoms_spec (ws := ws) h _ (by rw [hw]; exact List.mem_cons_self))
    exact ⟨meth, c, h1, h2, h3, h4, h5, h6⟩
  · intro p e s m args below meth c s₁ B hml hP _
    have hh0 : s₁.heap = s.heap := by rw [B.state]; rfl
    have ht : ∀ x ∈ c.exceptionTable.toList, False := by
      obtain ⟨meth9, c9, h1, h2, -, -, -, -, h7, -⟩ := Cond.code_spec B.named (atoms_spec (ws := ws) B.pre _ (by rw [hw]; exact List.mem_cons_self))
      cases Option.some.inj (h1.symm.trans B.method)
      cases Option.some.inj (h2.symm.trans (Stand.of_body B).code)
      intro x hx
      rw [Array.isEmpty_iff.mp h7] at hx
      cases hx
    obtain ⟨t, a1, o, b1, b2, b3⟩ := body p e s m args below meth c s₁ B hml ht hP s₁ hh0 (Stand.of_body B)
    exact ⟨t, o, a1, b1, b2, b3⟩
/-- the table of a body with handlers -/
theorem vx_table {p : Program} {x y : MethodName} {S : Spec} {cc bytes : ByteArray} {maxL maxL' : Nat} {ret ret' : Option FieldType} {e : Env} {s s₁ : State} {m : MethodId} {args : Array Value} {below : List Frame} {meth : Method} {c : Code} {hh : List (Nat × Nat × Nat × Nat)}
    (B : BodyLoose p l y S cc maxL ret e s m args below meth c s₁) (h : (Cond.codeWith y bytes maxL' ret' hh).before args s = true) : c.exceptionTable.toList = tableOf hh := by
  obtain ⟨m9, meth9, c9, hn9, h1, h2, -, -, h6, -⟩ := Cond.codeWith_spec h
  cases Option.some.inj (hn9.symm.trans B.named)
  cases Option.some.inj (h1.symm.trans B.method)
  cases Option.some.inj (h2.symm.trans (Stand.of_body B).code)
  rw [← h6, table_eq]
end Bodies
end VXA
/-! ===== END ===== -/
/-! ===== BEGIN a static call of a method with an exception table ===== -/
section VXS
variable {p : Program} {l : Launch} {e : Env} {R : Room} {s : State} {m : MethodId} {args : Array Value} {below : List Frame} {meth : Method} {c : Code} {T : State} {H : Heap} {locs : List Loc} {cells slots : Nat}
abbrev vx_CSW (R : Room) (s : State) (args : Array Value) (own : String) (index : Nat) (y : MethodName) (bytes : ByteArray) (maxL : Nat) (ret : Option FieldType) (hh : List (Nat × Nat × Nat × Nat)) (ws : List Cond) (rm : Room) (mc ms n : Nat) : Prop :=
  (rm.cells = mc ∧ rm.slots = ms ∧ rm.frames + 1 ≤ R.frames ∧ 8 + (maxL + 11) + rm.locals ≤ R.locals ∧ (∀ w ∈ ws, ∀ (a' : Array Value) (U : State), s.WarmedH U.vm → w.before a' U = true) ∧ Cond.codeWith y bytes maxL ret hh ∈ ws) ∧
  (Cond.codeWith y bytes maxL ret hh).before args s = true ∧ (Cond.initialized y.cls).before args s = true ∧ (y.cls ≠ "java/lang/invoke/MethodHandle" ∧ y.cls ≠ "java/lang/invoke/VarHandle") ∧
  (∀ sig, parseMethodDescriptor y.desc = some sig → n = sig.parameters.length) ∧ (Cond.methodLink own index y).before args s = true ∧ (Cond.static y).before args s = true
theorem vx_cwSW {own : String} {index maxL mc ms : Nat} {y : MethodName} {bytes : ByteArray} {ret : Option FieldType} {hh : List (Nat × Nat × Nat × Nat)} {Ts ws ws' : List Cond} {rm : Room} (n : Nat) (ht : ∀ w ∈ Ts, w.before args s = true) (hT : GoodIn Ts (va_wsS own index y ws)) (hw : ws = Cond.codeWith y bytes maxL ret hh :: ws') (hrc : rm.cells = mc) (hrs : rm.slots = ms)
    (hd : y.cls ≠ "java/lang/invoke/MethodHandle" ∧ y.cls ≠ "java/lang/invoke/VarHandle" ∧ (parseMethodDescriptor y.desc).map (fun d => d.parameters.length) = some n) (hR : rm.frames + 1 ≤ R.frames ∧ 8 + (maxL + 11) + rm.locals ≤ R.locals) :
    vx_CSW R s args own index y bytes maxL ret hh ws rm mc ms n := by
  have ok : ∀ w ∈ va_wsS own index y ws, w.before args s = true := fun w h => ht w (hT w h).1
  have hG : GoodIn Ts ws := fun w h => hT w (by unfold va_wsS; exact List.mem_append_right _ h)
  have hc : Cond.codeWith y bytes maxL ret hh ∈ ws := by rw [hw]; exact List.mem_cons_self
  refine ⟨⟨hrc, hrs, hR.1, hR.2, pay_in ht hG, hc⟩, ht _ (hG _ hc).1, ok _ (by simp [va_wsS]), ⟨hd.1, hd.2.1⟩, fun sig h => ?_, ok _ (by simp [va_wsS]), ok _ (by simp [va_wsS])⟩
  have h2 := hd.2.2
  rw [h] at h2
  exact (Option.some.inj h2).symm
theorem vx_callSW (X : Stand p l e R s m args below meth c T locs cells slots) (hexec : p.tables.exec = Jvm.exec) {own : String} {index : Nat} {y : MethodName} {bytes : ByteArray} {maxL : Nat} {ret : Option FieldType} {hh : List (Nat × Nat × Nat × Nat)}
    (hown : s.vm.findClass own = some m.cls) (hlink : (Cond.methodLink own index y).before args s = true) (hstat : (Cond.static y).before args s = true) (hinit : (Cond.initialized y.cls).before args s = true)
    (hcode : (Cond.codeWith y bytes maxL ret hh).before args s = true) (hy : y.cls ≠ "java/lang/invoke/MethodHandle" ∧ y.cls ≠ "java/lang/invoke/VarHandle")
    {W9 : Nat} {Pre : Pt → Array Value → Prop} {Post : Pt → Array Value → Option Value → Pt → Prop} (hK : Back l R p e below s args y 3 W9 Pre Post)
    {g : JFrame} (hg : g.method = m) (hsize : g.locals.size = c.maxLocals) {argsL rest : List Value} (hlen : ∀ sig, parseMethodDescriptor y.desc = some sig → argsL.length = sig.parameters.length)
    (hstack : g.stack = argsL.reverse ++ rest) (hW : 2 * g.monitorRoom + (rest.map fun v => v.category).sum ≤ W9) (hdg : decode c.code g.pc = .ok (.invokestatic index, 3))
    (hpre : ∀ vm₁, s.WarmedH vm₁ → Pre ⟨T.setVm vm₁, locs, cells, slots⟩ argsL.toArray) :
    ∃ (v : Option Value) (vm₁ : Vm) (B : Pt), s.WarmedH vm₁ ∧ Stand p l e R s m args below meth c B.U B.locs B.cells B.slots ∧ Post ⟨T.setVm vm₁, locs, cells, slots⟩ argsL.toArray v B ∧
      ∀ target, Steps p.tables e below (B.U.setTop { g with pc := g.pc + 3, stack := v.toList ++ rest }) target → Steps p.tables e below (T.setTop g) target := by
  obtain ⟨mk, methM, cM, hnamed, hmethM, -, -, -, -, -, -, hsigM⟩ := Cond.codeWith_spec hcode
  have hstatic : methM.isStatic = true := Cond.static_spec hnamed hmethM hstat
  obtain ⟨kP, hkP, -⟩ := className_of_methodNamed hnamed
  have hinitP : kP.init = .initialized := Cond.initialized_spec (findClass_of_methodNamed hnamed) hkP hinit
  obtain ⟨vm₁, X₁, hstep₁⟩ := X.invokestatic hexec hown hlink hnamed hmethM hstatic hkP hinitP hy (g := g) hg (argsL := argsL) (rest := rest) (hlen _ hsigM) hstack hdg
  obtain ⟨v, B, X', hpost, hsteps⟩ := hK m meth c ⟨T.setVm vm₁, locs, cells, slots⟩ { g with stack := rest } (.invokestatic index) mk argsL.toArray X₁ hg hsize hdg hW (X₁.named hnamed) (hpre vm₁ X₁.warmed)
  exact ⟨v, vm₁, B, X₁.warmed, X', hpost, fun target h => hstep₁ _ fun acts => by rw [doInvoke_state]; exact hsteps.trans h⟩
theorem vx_runSW {y : MethodName} {bytes cc : ByteArray} {maxL nL mc ms n index : Nat} {ret : Option FieldType} {hh : List (Nat × Nat × Nat × Nat)} {ws : List Cond} {rm : Room} {Pc : Array Value → State → Prop} {Qc : Array Value → State → Outcome → State → Prop} {free : Addr → Prop} {Ts : List Cond} {own : String} {As rest : List Value} {g : JFrame}
    (S : CallFix p m c cc nL s args Ts own) (hM : Met l y ws rm Pc Qc mc ms free) (cw : vx_CSW R s args own index y bytes maxL ret hh ws rm mc ms n) (hp : PreS s H Pc As)
    (hg : g.method = m) (hn : As.length = n) (hsize : g.locals.size = nL) (hstack : g.stack = As.reverse ++ rest) (hW : 2 * g.monitorRoom + (rest.map fun v => v.category).sum ≤ 8) (hdg : decode cc g.pc = .ok (.invokestatic index, 3)) (hf : cells + mc ≤ R.cells ∧ slots + ms ≤ R.slots) :
    va_Run p l e R s m args below meth c H locs cells slots mc ms g rest (Qc As.toArray) (free) := by
  obtain ⟨⟨hrc, hrs, hfr, hlo, hws, hcw⟩, hcode, hini, hy, hlen, hl, hstt⟩ := cw
  have hK : Back l R p e below s args y 3 8 (PreOf R mc ms Pc) (PostOf Qc mc ms free) := va_backW (hh := hh) (bytes := bytes) (maxL := maxL) (ret := ret) hM hp.1 hrc hrs hfr hlo hws hcw (fun a' U hW => word_at hW (Or.inl (by first | rfl | simp [Cond.onTables, Cond.keeps, Cond.steady])) hini)
  obtain ⟨hx, hb, hml, ho, -⟩ := S
  intro T hT X
  obtain ⟨v, vm₁, ⟨U', l2, c2, s2⟩, hW₁, X', ⟨g', mk, t, L, e1, e2, hq, h1, hL, h2, h3⟩, st⟩ := vx_callSW X hx (hh := hh) (bytes := bytes) (maxL := maxL) (ret := ret) ho hl hstt hini hcode hy hK hg (hsize.trans hml.symm) (argsL := As) (rest := rest) (fun sig h => hn.trans (hlen sig h)) hstack hW (by rw [hb]; exact hdg)
    (fun vm₁ hW₁ => ⟨hf.1, hf.2, hp.2 (T.setVm vm₁) hT hW₁⟩)
  dsimp only [Pt.U, Pt.locs, Pt.cells, Pt.slots] at X' e1 e2 h1 h2 h3 st
  subst h1; subst h2; subst h3
  exact ⟨v, (T.setVm vm₁).calling g' mk As.toArray, t, U', L, hT, X', hL, e1, e2, hq, st⟩
/-- not caught here, past rows that name other classes: it goes on to the caller -/
theorem vx_outP {p : Program} {l : Launch} {e : Env} {R : Room} {s : State} {m : MethodId} {args : Array Value} {below : List Frame} {meth : Method} {c : Code} {H : Heap} {locs : List Loc} {cells slots : Nat} {free : Addr → Prop} {ls : Array Slot} {rest : List Value} {Qc : Array Value → State → Outcome → State → Prop} {XC : String → State → State → Prop}
    {pc : Nat} {own E : String} {ce : Cell} {q : Addr} {mc ms : Nat} (hown : s.vm.findClass own = some m.cls) (hlocks : meth.locks = false)
    (hpass : ∀ z ∈ c.exceptionTable.toList, covers z pc = false ∨ (z.catchType ≠ 0 ∧ ∃ nm : String, (Cond.classLink own z.catchType nm).before args s = true ∧ va_Nc E nm s)) (hcell : H[q]? = some ce) (hv : ce.vm = .none) (hcl : s.vm.findClass E = some ce.cls)
    (hx : ∀ t : State, t.heap = H → s.vm.Alike t.vm → XC E s t) (hf : ∀ z ∈ locs, free z.base) (hc : cells ≤ mc) (hs : slots ≤ ms) :
    vx_W p l e R s m args below meth c H locs cells slots (vx_MQ below Qc XC args s mc ms free) (F0 m pc ls rest) q := by
  intro T hT X
  have hpl : e.platform.magicAccessors = ({} : Platform).magicAccessors := by rw [X.admits.platform]
  obtain ⟨vm', hW', X', st⟩ := Stand.outThrough X hlocks q (g := F0 m pc ls rest) rfl rfl rfl (cell := ce) (by rw [hT]; exact hcell) (by rw [hv]; rfl)
    (by obtain ⟨k9, h9, -⟩ := Vm.findClass_spec hcl; exact ⟨k9, h9⟩) (fun z hz => by
      rcases hpass z hz with h | ⟨hz0, nm, hl1, hn1⟩
      · exact Or.inl h
      · obtain ⟨c6, hc6, hcl6⟩ := Cond.classLink_spec hown hl1 e.platform hpl
        obtain ⟨a8, b8, h1, h2, h3⟩ := hn1
        cases Option.some.inj (h1.symm.trans hcl)
        cases Option.some.inj (h2.symm.trans hc6)
        exact Or.inr ⟨hz0, _, hcl6, h3⟩)
  obtain ⟨g₀, hfr⟩ := X'.frames_eq
  have hcell9 : ((T.setVm vm').setFrames (.throwing q :: below)).heap[q]? = some ce := by
    show T.heap[q]? = some ce
    rw [hT]; exact hcell
  have hend : Ended ((T.setVm vm').setFrames (.throwing q :: below)) below (.threw q) := State.frames_setFrames _ (State.cur_lt_of_frames hfr)
  refine ⟨(T.setVm vm').setFrames (.throwing q :: below), ?_, .threw q, X'.here.running, hend, Or.inr ⟨q, rfl, E, ce, locs, hx _ hT (X'.ends _).1.alike, hcell9, hv, hcl, (X'.ends _).1, (X'.ends _).2.mono hc hs, hf⟩⟩
  rw [X.pushThrowing_eq]
  exact st
/-- a thing of a world lies in the heap -/
theorem vx_lt {D : va_G} {cl : List vw_C} {ws : va_W} {H1 : Heap} (h : va_P D cl ws H1) {k : Nat} {q : Nat × va_E} (hk : ws[k]? = some q) : q.1 < H1.size := (h k q hk).lt
end VXS
/-! ===== END ===== -/
/-! ===== BEGIN methods with a table of their own: called by a name, returning or throwing ===== -/
section VXH
/-! vx_backW, vx_callVX, vx_callSX, vx_callVW, vx_runVW, vx_runVX, vx_runSX, vx_ofWH follow the same proofs as their sisters above (Free/Laws.lean, Shelf42/LK1.lean); vx_outP calls Shelf42/NT130.lean (outThrough). -/
section
variable {l : Launch} {R : Room} {p : Program} {e : Env} {below : List Frame} {s : State} {sargs : Array Value} {y : MethodName} {len W9 : Nat}
theorem vx_backW {ws : List Cond} {rm : Room} {Pc : Array Value → State → Prop} {Qc : Array Value → State → Outcome → State → Prop} {XC : String → State → State → Prop} {mc ms : Nat} {free : Addr → Prop} {bytes : ByteArray} {maxL : Nat} {ret : Option FieldType} {hh : List (Nat × Nat × Nat × Nat)}
    (hM : vx_Met l y ws rm Pc Qc XC mc ms free) (hblind : FrameBlind Pc) (hrc : rm.cells = mc) (hrs : rm.slots = ms)
    (hframes : rm.frames + 1 ≤ R.frames) (hlocals : W9 + (maxL + 11) + rm.locals ≤ R.locals)
    (hws : ∀ w ∈ ws, ∀ a' U, s.WarmedH U.vm → w.before a' U = true) (hcode : Cond.codeWith y bytes maxL ret hh ∈ ws) (hinit : ∀ a' U, s.WarmedH U.vm → (Cond.initialized y.cls).before a' U = true) :
    vx_Back l R p e below s sargs y len W9 (PreOf R mc ms Pc) (PostOf Qc mc ms free) (vx_Post XC mc ms free) := by
  intro m meth c A g ig mk a X hg hsize hdg hW hn hp
  have h1 : (headSpec ws rm).pre.before a A.U = true := atoms_intro fun w hw => hws w hw _ _ X.warmed
  have h2 : (Cond.codeWith y bytes maxL ret hh).before a A.U = true := hws _ hcode _ _ X.warmed
  have h3 : (Cond.initialized y.cls).before a A.U = true := hinit _ _ X.warmed
  have h4 : A.cells + (headSpec ws rm).room.cells ≤ R.cells := by rw [show (headSpec ws rm).room.cells = mc from hrc]; exact hp.1
  have h5 : A.slots + (headSpec ws rm).room.slots ≤ R.slots := by rw [show (headSpec ws rm).room.slots = ms from hrs]; exact hp.2.1
  have hPc : Pc a (A.U.calling g mk a) := hblind _ _ _ _ hp.2.2
  obtain ⟨U, Ls, c0, s0⟩ := A
  dsimp only [Pt.U, Pt.locs, Pt.cells, Pt.slots] at h1 h2 h3 h4 h5 X hn hPc ⊢
  obtain ⟨m9, methY, cY, hn9, hmY, hcY, -, hlY, -⟩ := Cond.codeWith_spec h2
  cases Option.some.inj (hn9.symm.trans hn)
  obtain ⟨kY, hkY, -⟩ := className_of_methodNamed hn
  have hinitY : kY.init = .initialized := Cond.initialized_spec (findClass_of_methodNamed hn) hkY h3
  have h : At U g.method c below := by rw [hg]; exact X.here
  have hlocals9 : W9 + (maxL + 11) + (headSpec ws rm).room.locals ≤ R.locals := hlocals
  have happ : (headSpec ws rm).appliesLoose y e.platform (U.calling g mk a) = true :=
    Spec.appliesLoose_calling (g := g) h hdg hn hkY hinitY
      (X.room_calling (g := g) (R' := (headSpec ws rm).room) hsize hmY hcY hframes (by rw [hlY]; omega) h4 h5) h1
  obtain ⟨mid, hmid⟩ := h.above
  have hfr : (U.setTop g).frames = (.java g :: mid) ++ below := by rw [State.frames_setTop' g h.top, hmid]; rfl
  obtain ⟨o, s₂, hsteps, -, hend, hq⟩ := Steps.callFree hM p X.admits X.cas X.clock (acts := []) hfr happ hPc trivial
  have hq' : vx_Q Qc XC mc ms free a (U.calling g mk a) o s₂ := hq
  rw [State.frames_setTop' g h.top] at hend
  obtain ⟨g₀, hg0⟩ := Option.isSome_iff_exists.mp h.top
  obtain ⟨r, hr⟩ := State.topJava?_eq_some.mp hg0
  have hr' : (({ U with heap := s₂.heap, slotsUsed := s₂.slotsUsed } : State).setVm s₂.vm).frames = .java g₀ :: r := hr
  rcases hq' with ⟨hqc, L, hfe, hL⟩ | ⟨q, rfl, E, ce, L, hx, hce, hcv, hcl, hW₂, hsm, hL⟩
  · obtain ⟨⟨v, rfl⟩, hW₂, e2, q2, q3, q4, q5, q6⟩ := id hfe
    have e3 : s₂ = ({ (U.calling g mk a).setFrames s₂.frames with heap := s₂.heap, slotsUsed := s₂.slotsUsed } : State).setVm s₂.vm := by
      have : s₂ = ({ s₂ with vm := (U.calling g mk a).vm } : State).setVm s₂.vm := rfl
      rw [e2] at this
      exact this
    obtain ⟨c₂, i₂, len₂, hc₂, hd₂, hf₂⟩ := hend
    have hW' : U.WarmedH s₂.vm := hW₂
    have hcc : c₂ = c := by
      have h1 : s₂.code? g.method = U.code? g.method := by
        rw [State.code?_eq, State.code?_eq, hW'.alike.method?]
      exact Option.some.inj (hc₂.symm.trans (h1.trans h.code))
    subst hcc
    have hlen : len₂ = len := by rw [hdg] at hd₂; cases hd₂; rfl
    subst hlen
    have hs₂ : s₂ = (({ U with heap := s₂.heap, slotsUsed := s₂.slotsUsed } : State).setVm s₂.vm).setTop { g with pc := g.pc + len₂, stack := v.toList ++ g.stack } := by
      refine e3.trans ?_
      rw [hf₂, State.calling_eq h.top, State.setFrames_setFrames, State.setTop_of_frames _ hr', hr]
      rfl
    have hsame : U.sameButNew ({ U with heap := s₂.heap, slotsUsed := s₂.slotsUsed } : State) L mc ms := by
      refine ⟨?_, q2, q3, q4, q5, q6⟩
      obtain ⟨t, ht, -⟩ := State.frames_cons hr
      show ({ U with heap := s₂.heap, slotsUsed := s₂.slotsUsed } : State) = { U.setFrames U.frames with heap := s₂.heap, slotsUsed := s₂.slotsUsed }
      rw [State.setFrames_self ht]
    subst hg
    refine Or.inl ⟨v, ⟨(({ U with heap := s₂.heap, slotsUsed := s₂.slotsUsed } : State).setVm s₂.vm), Ls ++ L, c0 + mc, s0 + ms⟩,
      ⟨X.admits, X.cas, X.clock, X.frames, X.room, X.hears, X.method, X.code, (X.here.setHeapUsed s₂.heap s₂.slotsUsed).setVm hW'.alike, X.tail, State.WarmedH.trans X.warmed hW', X.limits, X.bytes, X.same.trans (hsame.setVm s.vm)⟩,
      ⟨g, mk, s₂, L, rfl, rfl, hqc, rfl, hL, rfl, rfl⟩, ?_⟩
    show Steps p.tables e below _ ((({ U with heap := s₂.heap, slotsUsed := s₂.slotsUsed } : State).setVm s₂.vm).setTop { g with pc := g.pc + len₂, stack := v.toList ++ g.stack })
    rw [← hs₂]
    exact hsteps
  · obtain ⟨e2, q2, q3, q4, q5, q6⟩ := id hsm
    have e3 : s₂ = ({ (U.calling g mk a).setFrames s₂.frames with heap := s₂.heap, slotsUsed := s₂.slotsUsed } : State).setVm s₂.vm := by
      have : s₂ = ({ s₂ with vm := (U.calling g mk a).vm } : State).setVm s₂.vm := rfl
      rw [e2] at this
      exact this
    have hf₂ : s₂.frames = .throwing q :: .java g :: U.frames.tail := hend
    have hW' : U.WarmedH s₂.vm := hW₂
    have hs₂ : s₂ = ((({ U with heap := s₂.heap, slotsUsed := s₂.slotsUsed } : State).setVm s₂.vm).setTop g).pushFrame (.throwing q) := by
      refine e3.trans ?_
      rw [hf₂, State.calling_eq h.top, State.setFrames_setFrames, State.pushFrame, State.frames_setTop _ hr', State.setTop_of_frames _ hr', State.setFrames_setFrames, hr]
      rfl
    have hsame : U.sameButNew ({ U with heap := s₂.heap, slotsUsed := s₂.slotsUsed } : State) L mc ms := by
      refine ⟨?_, q2, q3, q4, q5, q6⟩
      obtain ⟨t, ht, -⟩ := State.frames_cons hr
      show ({ U with heap := s₂.heap, slotsUsed := s₂.slotsUsed } : State) = { U.setFrames U.frames with heap := s₂.heap, slotsUsed := s₂.slotsUsed }
      rw [State.setFrames_self ht]
    subst hg
    refine Or.inr ⟨q, ⟨(({ U with heap := s₂.heap, slotsUsed := s₂.slotsUsed } : State).setVm s₂.vm), Ls ++ L, c0 + mc, s0 + ms⟩,
      ⟨X.admits, X.cas, X.clock, X.frames, X.room, X.hears, X.method, X.code, (X.here.setHeapUsed s₂.heap s₂.slotsUsed).setVm hW'.alike, X.tail, State.WarmedH.trans X.warmed hW', X.limits, X.bytes, X.same.trans (hsame.setVm s.vm)⟩,
      ⟨g, mk, s₂, L, E, ce, rfl, rfl, hx, hce, hcv, hcl, rfl, hL, rfl, rfl⟩, ?_⟩
    show Steps p.tables e below _ (((({ U with heap := s₂.heap, slotsUsed := s₂.slotsUsed } : State).setVm s₂.vm).setTop g).pushFrame (.throwing q))
    rw [← hs₂]
    exact hsteps
end
variable {p : Program} {l : Launch} {e : Env} {R : Room} {s : State} {m : MethodId} {args : Array Value} {below : List Frame} {meth : Method} {c : Code} {T : State} {H : Heap} {locs : List Loc} {cells slots : Nat}
theorem vx_callVX (X : Stand p l e R s m args below meth c T locs cells slots) (hexec : p.tables.exec = Jvm.exec) {own C : String} {index : Nat} {y : MethodName} {bytes : ByteArray} {maxL : Nat} {ret : Option FieldType} {hh : List (Nat × Nat × Nat × Nat)}
    (hown : s.vm.findClass own = some m.cls) (hlink : (Cond.methodLink own index y).before args s = true) (hinst : (Cond.instanceMethod y).before args s = true) (hsel : (Cond.selects C y y).before args s = true)
    (hcode : (Cond.codeWith y bytes maxL ret hh).before args s = true) (hy : y.cls ≠ "java/lang/invoke/MethodHandle" ∧ y.cls ≠ "java/lang/invoke/VarHandle")
    {W9 : Nat} {Pre : Pt → Array Value → Prop} {Post : Pt → Array Value → Option Value → Pt → Prop} {PostX : Pt → Array Value → Addr → Pt → Prop} (hK : vx_Back l R p e below s args y 3 W9 Pre Post PostX)
    {b : Addr} {cellB : Cell} (hcell : T.heap[b]? = some cellB) (hobj : cellB.vm.isStatics = false) (hcls : s.vm.findClass C = some cellB.cls)
    {g : JFrame} (hg : g.method = m) (hsize : g.locals.size = c.maxLocals) {argsL rest : List Value} (hlen : ∀ sig, parseMethodDescriptor y.desc = some sig → argsL.length = sig.parameters.length)
    (hstack : g.stack = argsL.reverse ++ .ref b :: rest) (hW : 2 * g.monitorRoom + (rest.map fun v => v.category).sum ≤ W9) (hdg : decode c.code g.pc = .ok (.invokevirtual index, 3))
    (hpre : ∀ vm₁, s.WarmedH vm₁ → Pre ⟨T.setVm vm₁, locs, cells, slots⟩ (Value.ref b :: argsL).toArray) :
    (∃ (v : Option Value) (vm₁ : Vm) (B : Pt), s.WarmedH vm₁ ∧ Stand p l e R s m args below meth c B.U B.locs B.cells B.slots ∧ Post ⟨T.setVm vm₁, locs, cells, slots⟩ (Value.ref b :: argsL).toArray v B ∧
      ∀ target, Steps p.tables e below (B.U.setTop { g with pc := g.pc + 3, stack := v.toList ++ rest }) target → Steps p.tables e below (T.setTop g) target) ∨
    (∃ (q : Addr) (vm₁ : Vm) (B : Pt), s.WarmedH vm₁ ∧ Stand p l e R s m args below meth c B.U B.locs B.cells B.slots ∧ PostX ⟨T.setVm vm₁, locs, cells, slots⟩ (Value.ref b :: argsL).toArray q B ∧
      Steps p.tables e below (T.setTop g) ((B.U.setTop { g with stack := rest }).pushFrame (.throwing q))) := by
  obtain ⟨mk, methM, hnamed, hmethM, hstM, habM⟩ := Cond.instanceMethod_spec hinst
  obtain ⟨m8, methM', cM, hn8, hmethM', -, -, -, -, -, -, hsigM⟩ := Cond.codeWith_spec hcode
  cases Option.some.inj (hn8.symm.trans hnamed)
  cases hmethM.symm.trans hmethM'
  obtain ⟨c2, r2, m2, q1, q2, q3, q4, kP, hkP, hkPi⟩ := Cond.selects_spec hsel
  cases hcls.symm.trans q1
  cases (State.methodFound?_of_named hnamed hy).symm.trans q2
  cases hnamed.symm.trans q3
  have hselP : selectMethod e.platform s.vm cellB.cls mk = .method mk := by rw [Launch.admits_selectMethod X.admits]; exact q4
  obtain ⟨vm₁, X₁, hstep₁⟩ := X.invokevirtual hexec hown hlink hnamed hmethM hstM hkP hkPi hy (a := b) (cell := cellB) hcell
    (fun z h => by rw [h] at hobj; cases hobj) hselP hmethM habM hkP hkPi (g := g) hg (argsL := argsL) (rest := rest) (hlen _ hsigM) hstack hdg
  rcases hK m meth c ⟨T.setVm vm₁, locs, cells, slots⟩ { g with stack := rest } (.invokevirtual index) mk (Value.ref b :: argsL).toArray X₁ hg hsize hdg hW (X₁.named hnamed) (hpre vm₁ X₁.warmed) with ⟨v, B, X', hpost, hsteps⟩ | ⟨q, B, X', hpost, hsteps⟩
  · exact Or.inl ⟨v, vm₁, B, X₁.warmed, X', hpost, fun target h => hstep₁ _ fun acts => by rw [doInvoke_state]; exact hsteps.trans h⟩
  · exact Or.inr ⟨q, vm₁, B, X₁.warmed, X', hpost, hstep₁ _ fun acts => by rw [doInvoke_state]; exact hsteps⟩
theorem vx_callSX (X : Stand p l e R s m args below meth c T locs cells slots) (hexec : p.tables.exec = Jvm.exec) {own : String} {index : Nat} {y : MethodName} {bytes : ByteArray} {maxL : Nat} {ret : Option FieldType} {hh : List (Nat × Nat × Nat × Nat)}
    (hown : s.vm.findClass own = some m.cls) (hlink : (Cond.methodLink own index y).before args s = true) (hstat : (Cond.static y).before args s = true) (hinit : (Cond.initialized y.cls).before args s = true)
    (hcode : (Cond.codeWith y bytes maxL ret hh).before args s = true) (hy : y.cls ≠ "java/lang/invoke/MethodHandle" ∧ y.cls ≠ "java/lang/invoke/VarHandle")
    {W9 : Nat} {Pre : Pt → Array Value → Prop} {Post : Pt → Array Value → Option Value → Pt → Prop} {PostX : Pt → Array Value → Addr → Pt → Prop} (hK : vx_Back l R p e below s args y 3 W9 Pre Post PostX)
    {g : JFrame} (hg : g.method = m) (hsize : g.locals.size = c.maxLocals) {argsL rest : List Value} (hlen : ∀ sig, parseMethodDescriptor y.desc = some sig → argsL.length = sig.parameters.length)
    (hstack : g.stack = argsL.reverse ++ rest) (hW : 2 * g.monitorRoom + (rest.map fun v => v.category).sum ≤ W9) (hdg : decode c.code g.pc = .ok (.invokestatic index, 3))
    (hpre : ∀ vm₁, s.WarmedH vm₁ → Pre ⟨T.setVm vm₁, locs, cells, slots⟩ argsL.toArray) :
    (∃ (v : Option Value) (vm₁ : Vm) (B : Pt), s.WarmedH vm₁ ∧ Stand p l e R s m args below meth c B.U B.locs B.cells B.slots ∧ Post ⟨T.setVm vm₁, locs, cells, slots⟩ argsL.toArray v B ∧
      ∀ target, Steps p.tables e below (B.U.setTop { g with pc := g.pc + 3, stack := v.toList ++ rest }) target → Steps p.tables e below (T.setTop g) target) ∨
    (∃ (q : Addr) (vm₁ : Vm) (B : Pt), s.WarmedH vm₁ ∧ Stand p l e R s m args below meth c B.U B.locs B.cells B.slots ∧ PostX ⟨T.setVm vm₁, locs, cells, slots⟩ argsL.toArray q B ∧
      Steps p.tables e below (T.setTop g) ((B.U.setTop { g with stack := rest }).pushFrame (.throwing q))) := by
  obtain ⟨mk, methM, cM, hnamed, hmethM, -, -, -, -, -, -, hsigM⟩ := Cond.codeWith_spec hcode
  have hstatic : methM.isStatic = true := Cond.static_spec hnamed hmethM hstat
  obtain ⟨kP, hkP, -⟩ := className_of_methodNamed hnamed
  have hinitP : kP.init = .initialized := Cond.initialized_spec (findClass_of_methodNamed hnamed) hkP hinit
  obtain ⟨vm₁, X₁, hstep₁⟩ := X.invokestatic hexec hown hlink hnamed hmethM hstatic hkP hinitP hy (g := g) hg (argsL := argsL) (rest := rest) (hlen _ hsigM) hstack hdg
  rcases hK m meth c ⟨T.setVm vm₁, locs, cells, slots⟩ { g with stack := rest } (.invokestatic index) mk argsL.toArray X₁ hg hsize hdg hW (X₁.named hnamed) (hpre vm₁ X₁.warmed) with ⟨v, B, X', hpost, hsteps⟩ | ⟨q, B, X', hpost, hsteps⟩
  · exact Or.inl ⟨v, vm₁, B, X₁.warmed, X', hpost, fun target h => hstep₁ _ fun acts => by rw [doInvoke_state]; exact hsteps.trans h⟩
  · exact Or.inr ⟨q, vm₁, B, X₁.warmed, X', hpost, hstep₁ _ fun acts => by rw [doInvoke_state]; exact hsteps⟩
theorem vx_callVW (X : Stand p l e R s m args below meth c T locs cells slots) (hexec : p.tables.exec = Jvm.exec) {own C : String} {index : Nat} {y : MethodName} {bytes : ByteArray} {maxL : Nat} {ret : Option FieldType} {hh : List (Nat × Nat × Nat × Nat)}
    (hown : s.vm.findClass own = some m.cls) (hlink : (Cond.methodLink own index y).before args s = true) (hinst : (Cond.instanceMethod y).before args s = true) (hsel : (Cond.selects C y y).before args s = true)
    (hcode : (Cond.codeWith y bytes maxL ret hh).before args s = true) (hy : y.cls ≠ "java/lang/invoke/MethodHandle" ∧ y.cls ≠ "java/lang/invoke/VarHandle")
    {W9 : Nat} {Pre : Pt → Array Value → Prop} {Post : Pt → Array Value → Option Value → Pt → Prop} (hK : Back l R p e below s args y 3 W9 Pre Post)
    {b : Addr} {cellB : Cell} (hcell : T.heap[b]? = some cellB) (hobj : cellB.vm.isStatics = false) (hcls : s.vm.findClass C = some cellB.cls)
    {g : JFrame} (hg : g.method = m) (hsize : g.locals.size = c.maxLocals) {argsL rest : List Value} (hlen : ∀ sig, parseMethodDescriptor y.desc = some sig → argsL.length = sig.parameters.length)
    (hstack : g.stack = argsL.reverse ++ .ref b :: rest) (hW : 2 * g.monitorRoom + (rest.map fun v => v.category).sum ≤ W9) (hdg : decode c.code g.pc = .ok (.invokevirtual index, 3))
    (hpre : ∀ vm₁, s.WarmedH vm₁ → Pre ⟨T.setVm vm₁, locs, cells, slots⟩ (Value.ref b :: argsL).toArray) :
    ∃ (v : Option Value) (vm₁ : Vm) (B : Pt), s.WarmedH vm₁ ∧ Stand p l e R s m args below meth c B.U B.locs B.cells B.slots ∧ Post ⟨T.setVm vm₁, locs, cells, slots⟩ (Value.ref b :: argsL).toArray v B ∧
      ∀ target, Steps p.tables e below (B.U.setTop { g with pc := g.pc + 3, stack := v.toList ++ rest }) target → Steps p.tables e below (T.setTop g) target := by
  obtain ⟨mk, methM, hnamed, hmethM, hstM, habM⟩ := Cond.instanceMethod_spec hinst
  obtain ⟨m8, methM', cM, hn8, hmethM', -, -, -, -, -, -, hsigM⟩ := Cond.codeWith_spec hcode
  cases Option.some.inj (hn8.symm.trans hnamed)
  cases hmethM.symm.trans hmethM'
  obtain ⟨c2, r2, m2, q1, q2, q3, q4, kP, hkP, hkPi⟩ := Cond.selects_spec hsel
  cases hcls.symm.trans q1
  cases (State.methodFound?_of_named hnamed hy).symm.trans q2
  cases hnamed.symm.trans q3
  have hselP : selectMethod e.platform s.vm cellB.cls mk = .method mk := by rw [Launch.admits_selectMethod X.admits]; exact q4
  obtain ⟨vm₁, X₁, hstep₁⟩ := X.invokevirtual hexec hown hlink hnamed hmethM hstM hkP hkPi hy (a := b) (cell := cellB) hcell
    (fun z h => by rw [h] at hobj; cases hobj) hselP hmethM habM hkP hkPi (g := g) hg (argsL := argsL) (rest := rest) (hlen _ hsigM) hstack hdg
  obtain ⟨v, B, X', hpost, hsteps⟩ := hK m meth c ⟨T.setVm vm₁, locs, cells, slots⟩ { g with stack := rest } (.invokevirtual index) mk (Value.ref b :: argsL).toArray X₁ hg hsize hdg hW (X₁.named hnamed) (hpre vm₁ X₁.warmed)
  exact ⟨v, vm₁, B, X₁.warmed, X', hpost, fun target h => hstep₁ _ fun acts => by rw [doInvoke_state]; exact hsteps.trans h⟩
abbrev vx_CVW (R : Room) (s : State) (args : Array Value) (own C : String) (index : Nat) (y : MethodName) (bytes : ByteArray) (maxL : Nat) (ret : Option FieldType) (hh : List (Nat × Nat × Nat × Nat)) (ws : List Cond) (rm : Room) (mc ms n : Nat) : Prop :=
  (rm.cells = mc ∧ rm.slots = ms ∧ rm.frames + 1 ≤ R.frames ∧ 8 + (maxL + 11) + rm.locals ≤ R.locals ∧ (∀ w ∈ ws, ∀ (a' : Array Value) (U : State), s.WarmedH U.vm → w.before a' U = true) ∧ Cond.codeWith y bytes maxL ret hh ∈ ws) ∧
  (Cond.codeWith y bytes maxL ret hh).before args s = true ∧ (Cond.initialized y.cls).before args s = true ∧ (y.cls ≠ "java/lang/invoke/MethodHandle" ∧ y.cls ≠ "java/lang/invoke/VarHandle") ∧
  (∀ sig, parseMethodDescriptor y.desc = some sig → n = sig.parameters.length) ∧ (Cond.methodLink own index y).before args s = true ∧ (Cond.instanceMethod y).before args s = true ∧ (Cond.selects C y y).before args s = true
theorem vx_cwVW {own C : String} {index maxL mc ms : Nat} {y : MethodName} {bytes : ByteArray} {ret : Option FieldType} {hh : List (Nat × Nat × Nat × Nat)} {Ts ws ws' : List Cond} {rm : Room} (n : Nat) (ht : ∀ w ∈ Ts, w.before args s = true) (hT : GoodIn Ts (wsV own index C y ws)) (hw : ws = Cond.codeWith y bytes maxL ret hh :: ws') (hrc : rm.cells = mc) (hrs : rm.slots = ms)
    (hd : y.cls = C ∧ y.cls ≠ "java/lang/invoke/MethodHandle" ∧ y.cls ≠ "java/lang/invoke/VarHandle" ∧ (parseMethodDescriptor y.desc).map (fun d => d.parameters.length) = some n) (hR : rm.frames + 1 ≤ R.frames ∧ 8 + (maxL + 11) + rm.locals ≤ R.locals) :
    vx_CVW R s args own C index y bytes maxL ret hh ws rm mc ms n := by
  obtain ⟨hC, hd⟩ := hd
  subst hC
  have ok : ∀ w ∈ wsV own index y.cls y ws, w.before args s = true := fun w h => ht w (hT w h).1
  have hG : GoodIn Ts ws := fun w h => hT w (by unfold wsV; exact List.mem_append_right _ h)
  have hc : Cond.codeWith y bytes maxL ret hh ∈ ws := by rw [hw]; exact List.mem_cons_self
  refine ⟨⟨hrc, hrs, hR.1, hR.2, pay_in ht hG, hc⟩, ht _ (hG _ hc).1, ok _ (by simp [wsV]), ⟨hd.1, hd.2.1⟩, fun sig h => ?_, ok _ (by simp [wsV]), ok _ (by simp [wsV]), ok _ (by simp [wsV])⟩
  have h2 := hd.2.2
  rw [h] at h2
  exact (Option.some.inj h2).symm
theorem vx_runVW {y : MethodName} {bytes cc : ByteArray} {maxL nL mc ms n index : Nat} {ret : Option FieldType} {hh : List (Nat × Nat × Nat × Nat)} {ws : List Cond} {rm : Room} {Pc : Array Value → State → Prop} {Qc : Array Value → State → Outcome → State → Prop} {free : Addr → Prop} {Ts : List Cond} {own C : String} {b : Addr} {As rest : List Value} {g : JFrame}
    (S : CallFix p m c cc nL s args Ts own) (hM : Met l y ws rm Pc Qc mc ms free) (cw : vx_CVW R s args own C index y bytes maxL ret hh ws rm mc ms n) (hp : PreV s H C b Pc As)
    (hg : g.method = m) (hn : As.length = n) (hsize : g.locals.size = nL) (hstack : g.stack = As.reverse ++ .ref b :: rest) (hW : 2 * g.monitorRoom + (rest.map fun v => v.category).sum ≤ 8) (hdg : decode cc g.pc = .ok (.invokevirtual index, 3)) (hf : cells + mc ≤ R.cells ∧ slots + ms ≤ R.slots) :
    va_Run p l e R s m args below meth c H locs cells slots mc ms g rest (Qc (Value.ref b :: As).toArray) free := by
  obtain ⟨⟨hrc, hrs, hfr, hlo, hws, hcw⟩, hcode, hini, hy, hlen, hl, hin, hse⟩ := cw
  have hK : Back l R p e below s args y 3 8 (PreOf R mc ms Pc) (PostOf Qc mc ms free) := va_backW (hh := hh) (bytes := bytes) (maxL := maxL) (ret := ret) hM hp.1 hrc hrs hfr hlo hws hcw (fun a' U hW => word_at hW (Or.inl (by first | rfl | simp [Cond.onTables, Cond.keeps, Cond.steady])) hini)
  obtain ⟨hx, hb, hml, ho, -⟩ := S
  obtain ⟨-, ⟨cellB, hcB, hoB, hclB⟩, hPc⟩ := hp
  intro T hT X
  obtain ⟨v, vm₁, ⟨U', l2, c2, s2⟩, hW₁, X', ⟨g', mk, t, L, e1, e2, hq, h1, hL, h2, h3⟩, st⟩ := vx_callVW X hx (C := C) (hh := hh) (bytes := bytes) (maxL := maxL) (ret := ret) ho hl hin hse hcode hy hK (by rw [hT]; exact hcB) hoB hclB hg (hsize.trans hml.symm) (argsL := As) (rest := rest) (fun sig h => hn.trans (hlen sig h)) hstack hW (by rw [hb]; exact hdg)
    (fun vm₁ hW₁ => ⟨hf.1, hf.2, hPc (T.setVm vm₁) hT hW₁⟩)
  dsimp only [Pt.U, Pt.locs, Pt.cells, Pt.slots] at X' e1 e2 h1 h2 h3 st
  subst h1; subst h2; subst h3
  exact ⟨v, (T.setVm vm₁).calling g' mk (Value.ref b :: As).toArray, t, U', L, hT, X', hL, e1, e2, hq, st⟩
section
variable {y : MethodName} {bytes cc : ByteArray} {maxL nL mc ms n index : Nat} {ret : Option FieldType} {ws : List Cond} {rm : Room} {Pc : Array Value → State → Prop} {Qc : Array Value → State → Outcome → State → Prop} {XC : String → State → State → Prop} {free : Addr → Prop} {Ts : List Cond} {own C : String} {b : Addr} {As rest : List Value} {g : JFrame}
theorem vx_runVX {hh : List (Nat × Nat × Nat × Nat)} (S : CallFix p m c cc nL s args Ts own) (hM : vx_Met l y ws rm Pc Qc XC mc ms free) (cw : vx_CVW R s args own C index y bytes maxL ret hh ws rm mc ms n) (hp : PreV s H C b Pc As)
    (hg : g.method = m) (hn : As.length = n) (hsize : g.locals.size = nL) (hstack : g.stack = As.reverse ++ .ref b :: rest) (hW : 2 * g.monitorRoom + (rest.map fun v => v.category).sum ≤ 8) (hdg : decode cc g.pc = .ok (.invokevirtual index, 3)) (hf : cells + mc ≤ R.cells ∧ slots + ms ≤ R.slots) :
    vx_Run p l e R s m args below meth c H locs cells slots mc ms g rest (Qc (Value.ref b :: As).toArray) XC free := by
  obtain ⟨⟨hrc, hrs, hfr, hlo, hws, hcw⟩, hcode, hini, hy, hlen, hl, hin, hse⟩ := cw
  have hK : vx_Back l R p e below s args y 3 8 (PreOf R mc ms Pc) (PostOf Qc mc ms free) (vx_Post XC mc ms free) := vx_backW (hh := hh) (bytes := bytes) (maxL := maxL) (ret := ret) hM hp.1 hrc hrs hfr hlo hws hcw (fun a' U hW => word_at hW (Or.inl (by first | rfl | simp [Cond.onTables, Cond.keeps, Cond.steady])) hini)
  obtain ⟨hx, hb, hml, ho, -⟩ := S
  obtain ⟨-, ⟨cellB, hcB, hoB, hclB⟩, hPc⟩ := hp
  intro T hT X
  rcases vx_callVX X hx (C := C) (hh := hh) (bytes := bytes) (maxL := maxL) (ret := ret) ho hl hin hse hcode hy hK (by rw [hT]; exact hcB) hoB hclB hg (hsize.trans hml.symm) (argsL := As) (rest := rest) (fun sig h => hn.trans (hlen sig h)) hstack hW (by rw [hb]; exact hdg)
    (fun vm₁ hW₁ => ⟨hf.1, hf.2, hPc (T.setVm vm₁) hT hW₁⟩) with ⟨v, vm₁, ⟨U', l2, c2, s2⟩, hW₁, X', ⟨g', mk, t, L, e1, e2, hq, h1, hL, h2, h3⟩, st⟩ | ⟨q, vm₁, ⟨U', l2, c2, s2⟩, hW₁, X', ⟨g', mk, t, L, E, ce, e1, e2, hq, hce, hcv, hcl, h1, hL, h2, h3⟩, st⟩
  · dsimp only [Pt.U, Pt.locs, Pt.cells, Pt.slots] at X' e1 e2 h1 h2 h3 st
    subst h1; subst h2; subst h3
    exact Or.inl ⟨v, (T.setVm vm₁).calling g' mk (Value.ref b :: As).toArray, t, U', L, hT, X', hL, e1, e2, hq, st⟩
  · dsimp only [Pt.U, Pt.locs, Pt.cells, Pt.slots] at X' e1 e2 h1 h2 h3 st hcl
    subst h1; subst h2; subst h3
    exact Or.inr ⟨q, (T.setVm vm₁).calling g' mk (Value.ref b :: As).toArray, t, U', L, E, ce, hT, X', hL, e1, e2, hq, hce, hcv, vx_cls hW₁ hcl, st⟩
theorem vx_runSX {hh : List (Nat × Nat × Nat × Nat)} (S : CallFix p m c cc nL s args Ts own) (hM : vx_Met l y ws rm Pc Qc XC mc ms free) (cw : vx_CSW R s args own index y bytes maxL ret hh ws rm mc ms n) (hp : PreS s H Pc As)
    (hg : g.method = m) (hn : As.length = n) (hsize : g.locals.size = nL) (hstack : g.stack = As.reverse ++ rest) (hW : 2 * g.monitorRoom + (rest.map fun v => v.category).sum ≤ 8) (hdg : decode cc g.pc = .ok (.invokestatic index, 3)) (hf : cells + mc ≤ R.cells ∧ slots + ms ≤ R.slots) :
    vx_Run p l e R s m args below meth c H locs cells slots mc ms g rest (Qc As.toArray) XC free := by
  obtain ⟨⟨hrc, hrs, hfr, hlo, hws, hcw⟩, hcode, hini, hy, hlen, hl, hstt⟩ := cw
  have hK : vx_Back l R p e below s args y 3 8 (PreOf R mc ms Pc) (PostOf Qc mc ms free) (vx_Post XC mc ms free) := vx_backW (hh := hh) (bytes := bytes) (maxL := maxL) (ret := ret) hM hp.1 hrc hrs hfr hlo hws hcw (fun a' U hW => word_at hW (Or.inl (by first | rfl | simp [Cond.onTables, Cond.keeps, Cond.steady])) hini)
  obtain ⟨hx, hb, hml, ho, -⟩ := S
  intro T hT X
  rcases vx_callSX X hx (hh := hh) (bytes := bytes) (maxL := maxL) (ret := ret) ho hl hstt hini hcode hy hK hg (hsize.trans hml.symm) (argsL := As) (rest := rest) (fun sig h => hn.trans (hlen sig h)) hstack hW (by rw [hb]; exact hdg)
    (fun vm₁ hW₁ => ⟨hf.1, hf.2, hp.2 (T.setVm vm₁) hT hW₁⟩) with ⟨v, vm₁, ⟨U', l2, c2, s2⟩, hW₁, X', ⟨g', mk, t, L, e1, e2, hq, h1, hL, h2, h3⟩, st⟩ | ⟨q, vm₁, ⟨U', l2, c2, s2⟩, hW₁, X', ⟨g', mk, t, L, E, ce, e1, e2, hq, hce, hcv, hcl, h1, hL, h2, h3⟩, st⟩
  · dsimp only [Pt.U, Pt.locs, Pt.cells, Pt.slots] at X' e1 e2 h1 h2 h3 st
    subst h1; subst h2; subst h3
    exact Or.inl ⟨v, (T.setVm vm₁).calling g' mk As.toArray, t, U', L, hT, X', hL, e1, e2, hq, st⟩
  · dsimp only [Pt.U, Pt.locs, Pt.cells, Pt.slots] at X' e1 e2 h1 h2 h3 st hcl
    subst h1; subst h2; subst h3
    exact Or.inr ⟨q, (T.setVm vm₁).calling g' mk As.toArray, t, U', L, E, ce, hT, X', hL, e1, e2, hq, hce, hcv, vx_cls hW₁ hcl, st⟩
end
end VXH
theorem vx_ofWH {l : Launch} {y : MethodName} {ws ws' : List Cond} {rm : Room} {Pc : Array Value → State → Prop} {Qc : Array Value → State → Outcome → State → Prop} {XC : String → State → State → Prop} {mc ms : Nat} {free : Addr → Prop} {cc : ByteArray} {maxL : Nat} {ret : Option FieldType} {hh : List (Nat × Nat × Nat × Nat)}
    (hy : plainName y.cls = true) (hw : ws = Cond.codeWith y cc maxL ret hh :: ws')
    (body : ∀ p e s m args below meth c s₁, BodyLoose p l y (headSpec ws rm) cc maxL ret e s m args below meth c s₁ → c.maxLocals = maxL → Pc args s →
      W p l e (headSpec ws rm).room s m args below meth c s.heap [] 0 0 (vx_MQ below Qc XC args s mc ms free) (entryFrame m args maxL)) : vx_Met l y ws rm Pc Qc XC mc ms free := by
  refine MetFree.of_bodyS (code := cc) (maxLocals := maxL) (ret := ret) hy ?_ ?_
  · intro args s m h hn
    obtain ⟨m9, meth, c, hn9, h1, h2, h3, h4, -, h5, h6, -⟩ := Cond.codeWith_spec (atoms_spec (ws := ws) h _ (by rw [hw]; exact List.mem_cons_self))
    cases hn.symm.trans hn9
    exact ⟨meth, c, h1, h2, h3, h4, h5, h6⟩
  · intro p e s m args below meth c s₁ B hml hP _
    have hh0 : s₁.heap = s.heap := by rw [B.state]; rfl
    obtain ⟨t, a1, o, b1, b2, b3⟩ := body p e s m args below meth c s₁ B hml hP s₁ hh0 (Stand.of_body B)
    exact ⟨t, o, a1, b1, b2, b3⟩
/-! ===== END ===== -/
end
section
/-! ===== BEGIN printed: names, fields, word lists, decode rows ===== -/
def RX0 : String := "MoodPlayer$Diary"
def TX0 : u_T := fun k => match k with
  | 0 => ("MoodPlayer$Diary", "state", "LMoodPlayer$State;", true)
  | 1 => ("MoodPlayer$Diary", "when", "[J", true)
  | 2 => ("MoodPlayer$Diary", "whats", "[I", true)
  | 3 => ("MoodPlayer$Diary", "numbers", "[I", true)
  | 4 => ("MoodPlayer$Diary", "eldest", "I", false)
  | _ => ("MoodPlayer$Diary", "count", "I", false)
def tyX0 : Nat → FieldType := fun k => match k with
  | 0 => .object "MoodPlayer$State"
  | 1 => .array .long
  | 2 => .array .int
  | 3 => .array .int
  | 4 => .int
  | _ => .int
abbrev wsX00 : List Cond := u_ws RX0 TX0 6
theorem nmX0 : ∀ a, a < 6 → ∀ b, b < 6 → a ≠ b → (TX0 a).2.1 ≠ (TX0 b).2.1 := by decide +kernel
theorem tyX0_ok : ∀ k, k < 6 → parseFieldDescriptor (TX0 k).2.2.1 = some (tyX0 k) := by decide +kernel
abbrev cX0_init : ByteArray := prog_2_method_1_code
def yX0_init : MethodName := ⟨RX0, "<init>", "(LMoodPlayer$State;)V"⟩
abbrev cX0_add : ByteArray := prog_2_method_2_code
def yX0_add : MethodName := ⟨RX0, "add", "(II)V"⟩
abbrev cX0_look : ByteArray := prog_2_method_3_code
def yX0_look : MethodName := ⟨RX0, "look", "(II)J"⟩
def RX1 : String := "MoodPlayer$Guide"
def TX1 : u_T := fun k => match k with
  | 0 => ("MoodPlayer$Guide", "score", "LMoodPlayer$Score;", true)
  | 1 => ("MoodPlayer$Guide", "state", "LMoodPlayer$State;", true)
  | 2 => ("MoodPlayer$Guide", "table", "LMoodPlayer$Table;", true)
  | 3 => ("MoodPlayer$Guide", "tableMood", "I", false)
  | 4 => ("MoodPlayer$Guide", "steps", "[I", true)
  | 5 => ("MoodPlayer$Guide", "length", "I", false)
  | _ => ("MoodPlayer$Guide", "taken", "I", false)
def tyX1 : Nat → FieldType := fun k => match k with
  | 0 => .object "MoodPlayer$Score"
  | 1 => .object "MoodPlayer$State"
  | 2 => .object "MoodPlayer$Table"
  | 3 => .int
  | 4 => .array .int
  | 5 => .int
  | _ => .int
abbrev wsX10 : List Cond := u_ws RX1 TX1 7
theorem nmX1 : ∀ a, a < 7 → ∀ b, b < 7 → a ≠ b → (TX1 a).2.1 ≠ (TX1 b).2.1 := by decide +kernel
theorem tyX1_ok : ∀ k, k < 7 → parseFieldDescriptor (TX1 k).2.2.1 = some (tyX1 k) := by decide +kernel
abbrev cX1_init : ByteArray := prog_3_method_1_code
def yX1_init : MethodName := ⟨RX1, "<init>", "(LMoodPlayer$Score;LMoodPlayer$State;)V"⟩
abbrev cX1_left : ByteArray := prog_3_method_2_code
def yX1_left : MethodName := ⟨RX1, "left", "()I"⟩
abbrev cX1_stepAt : ByteArray := prog_3_method_3_code
def yX1_stepAt : MethodName := ⟨RX1, "stepAt", "(I)I"⟩
abbrev cX1_stepTaken : ByteArray := prog_3_method_4_code
def yX1_stepTaken : MethodName := ⟨RX1, "stepTaken", "()V"⟩
abbrev cX1_forget : ByteArray := prog_3_method_5_code
def yX1_forget : MethodName := ⟨RX1, "forget", "()V"⟩
abbrev cX1_scoreChanged : ByteArray := prog_3_method_6_code
def yX1_scoreChanged : MethodName := ⟨RX1, "scoreChanged", "()V"⟩
abbrev cX1_costLeft : ByteArray := prog_3_method_7_code
def yX1_costLeft : MethodName := ⟨RX1, "costLeft", "()J"⟩
abbrev cX1_findWay : ByteArray := prog_3_method_8_code
def yX1_findWay : MethodName := ⟨RX1, "findWay", "()V"⟩
abbrev cX1_addStep : ByteArray := prog_3_method_9_code
def yX1_addStep : MethodName := ⟨RX1, "addStep", "(I)V"⟩
abbrev cX1_firstStep : ByteArray := prog_3_method_10_code
def yX1_firstStep : MethodName := ⟨RX1, "firstStep", "()I"⟩
abbrev cX1_isOpen : ByteArray := prog_3_method_11_code
def yX1_isOpen : MethodName := ⟨RX1, "isOpen", "(I)Z"⟩
abbrev cX1_pieceBehind : ByteArray := prog_3_method_12_code
def yX1_pieceBehind : MethodName := ⟨RX1, "pieceBehind", "(I)I"⟩
abbrev cX1_costBy : ByteArray := prog_3_method_13_code
def yX1_costBy : MethodName := ⟨RX1, "costBy", "(I)J"⟩
abbrev cX1_followTable : ByteArray := prog_3_method_14_code
def yX1_followTable : MethodName := ⟨RX1, "followTable", "(I)V"⟩
abbrev cX1_firstOnTable : ByteArray := prog_3_method_15_code
def yX1_firstOnTable : MethodName := ⟨RX1, "firstOnTable", "(I)I"⟩
def RX2 : String := "MoodPlayer$Score"
def TX2 : u_T := fun k => match k with
  | 0 => ("MoodPlayer$Score", "kind", "[I", true)
  | 1 => ("MoodPlayer$Score", "beats", "[I", true)
  | 2 => ("MoodPlayer$Score", "beat", "[I", true)
  | 3 => ("MoodPlayer$Score", "moods", "[I", true)
  | 4 => ("MoodPlayer$Score", "most", "[I", true)
  | 5 => ("MoodPlayer$Score", "pieces", "I", false)
  | 6 => ("MoodPlayer$Score", "from", "[I", true)
  | 7 => ("MoodPlayer$Score", "behind", "[I", true)
  | 8 => ("MoodPlayer$Score", "to", "[I", true)
  | 9 => ("MoodPlayer$Score", "cost", "[I", true)
  | 10 => ("MoodPlayer$Score", "joints", "I", false)
  | _ => ("MoodPlayer$Score", "prices", "[I", true)
def tyX2 : Nat → FieldType := fun k => match k with
  | 0 => .array .int
  | 1 => .array .int
  | 2 => .array .int
  | 3 => .array .int
  | 4 => .array .int
  | 5 => .int
  | 6 => .array .int
  | 7 => .array .int
  | 8 => .array .int
  | 9 => .array .int
  | 10 => .int
  | _ => .array .int
abbrev wsX20 : List Cond := u_ws RX2 TX2 12
theorem nmX2 : ∀ a, a < 12 → ∀ b, b < 12 → a ≠ b → (TX2 a).2.1 ≠ (TX2 b).2.1 := by decide +kernel
theorem tyX2_ok : ∀ k, k < 12 → parseFieldDescriptor (TX2 k).2.2.1 = some (tyX2 k) := by decide +kernel
abbrev cX2_init : ByteArray := prog_4_method_1_code
def yX2_init : MethodName := ⟨RX2, "<init>", "()V"⟩
abbrev cX2_addPiece : ByteArray := prog_4_method_2_code
def yX2_addPiece : MethodName := ⟨RX2, "addPiece", "(IIIII)I"⟩
abbrev cX2_addJoint : ByteArray := prog_4_method_3_code
def yX2_addJoint : MethodName := ⟨RX2, "addJoint", "(IIII)I"⟩
abbrev cX2_isPiece : ByteArray := prog_4_method_4_code
def yX2_isPiece : MethodName := ⟨RX2, "isPiece", "(I)Z"⟩
abbrev cX2_canPlay : ByteArray := prog_4_method_5_code
def yX2_canPlay : MethodName := ⟨RX2, "canPlay", "(I)Z"⟩
abbrev cX2_hasMood : ByteArray := prog_4_method_6_code
def yX2_hasMood : MethodName := ⟨RX2, "hasMood", "(II)Z"⟩
abbrev cX2_isMultiple : ByteArray := prog_4_method_7_code
def yX2_isMultiple : MethodName := ⟨RX2, "isMultiple", "(II)Z"⟩
abbrev cX2_length : ByteArray := prog_4_method_8_code
def yX2_length : MethodName := ⟨RX2, "length", "(I)J"⟩
abbrev cX2_timeTo : ByteArray := prog_4_method_9_code
def yX2_timeTo : MethodName := ⟨RX2, "timeTo", "(I)J"⟩
abbrev cX2_cheapestAtEnd : ByteArray := prog_4_method_10_code
def yX2_cheapestAtEnd : MethodName := ⟨RX2, "cheapestAtEnd", "(I)I"⟩
abbrev cX2_firstWithMood : ByteArray := prog_4_method_11_code
def yX2_firstWithMood : MethodName := ⟨RX2, "firstWithMood", "(I)I"⟩
abbrev cX2_firstComeTo : ByteArray := prog_4_method_12_code
def yX2_firstComeTo : MethodName := ⟨RX2, "firstComeTo", "(I)I"⟩
abbrev cX2_isJoint : ByteArray := prog_4_method_13_code
def yX2_isJoint : MethodName := ⟨RX2, "isJoint", "(III)Z"⟩
def RX3 : String := "MoodPlayer$State"
def TX3 : u_T := fun k => match k with
  | 0 => ("MoodPlayer$State", "filled", "Z", false)
  | 1 => ("MoodPlayer$State", "time", "J", false)
  | 2 => ("MoodPlayer$State", "plays", "I", false)
  | 3 => ("MoodPlayer$State", "done", "I", false)
  | 4 => ("MoodPlayer$State", "turns", "I", false)
  | 5 => ("MoodPlayer$State", "beatBegan", "J", false)
  | 6 => ("MoodPlayer$State", "mood", "I", false)
  | 7 => ("MoodPlayer$State", "tops", "[I", true)
  | 8 => ("MoodPlayer$State", "levels", "[I", true)
  | 9 => ("MoodPlayer$State", "waiting", "[I", true)
  | 10 => ("MoodPlayer$State", "waits", "I", false)
  | 11 => ("MoodPlayer$State", "sounds", "I", false)
  | _ => ("MoodPlayer$State", "soundsUntil", "J", false)
def tyX3 : Nat → FieldType := fun k => match k with
  | 0 => .boolean
  | 1 => .long
  | 2 => .int
  | 3 => .int
  | 4 => .int
  | 5 => .long
  | 6 => .int
  | 7 => .array .int
  | 8 => .array .int
  | 9 => .array .int
  | 10 => .int
  | 11 => .int
  | _ => .long
abbrev wsX30 : List Cond := u_ws RX3 TX3 13
theorem nmX3 : ∀ a, a < 13 → ∀ b, b < 13 → a ≠ b → (TX3 a).2.1 ≠ (TX3 b).2.1 := by decide +kernel
theorem tyX3_ok : ∀ k, k < 13 → parseFieldDescriptor (TX3 k).2.2.1 = some (tyX3 k) := by decide +kernel
abbrev cX3_init : ByteArray := prog_5_method_1_code
def yX3_init : MethodName := ⟨RX3, "<init>", "()V"⟩
abbrev cX3_copyFrom : ByteArray := prog_5_method_2_code
def yX3_copyFrom : MethodName := ⟨RX3, "copyFrom", "(LMoodPlayer$State;)V"⟩
abbrev cX3_beatOver : ByteArray := prog_5_method_3_code
def yX3_beatOver : MethodName := ⟨RX3, "beatOver", "()J"⟩
abbrev cX3_levelsTogether : ByteArray := prog_5_method_4_code
def yX3_levelsTogether : MethodName := ⟨RX3, "levelsTogether", "()I"⟩
abbrev cX3_moveLevel : ByteArray := prog_5_method_5_code
def yX3_moveLevel : MethodName := ⟨RX3, "moveLevel", "(II)I"⟩
abbrev cX3_shiftWaiting : ByteArray := prog_5_method_6_code
def yX3_shiftWaiting : MethodName := ⟨RX3, "shiftWaiting", "()V"⟩
def RX4 : String := "MoodPlayer$Table"
def TX4 : u_T := fun k => match k with
  | 0 => ("MoodPlayer$Table", "least", "[J", true)
  | _ => ("MoodPlayer$Table", "steps", "[I", true)
def tyX4 : Nat → FieldType := fun k => match k with
  | 0 => .array .long
  | _ => .array .int
abbrev wsX40 : List Cond := u_ws RX4 TX4 2
theorem nmX4 : ∀ a, a < 2 → ∀ b, b < 2 → a ≠ b → (TX4 a).2.1 ≠ (TX4 b).2.1 := by decide +kernel
theorem tyX4_ok : ∀ k, k < 2 → parseFieldDescriptor (TX4 k).2.2.1 = some (tyX4 k) := by decide +kernel
abbrev cX4_init : ByteArray := prog_6_method_1_code
def yX4_init : MethodName := ⟨RX4, "<init>", "()V"⟩
abbrev cX4_fill : ByteArray := prog_6_method_2_code
def yX4_fill : MethodName := ⟨RX4, "fill", "(LMoodPlayer$Score;III)V"⟩
abbrev cX4_improve : ByteArray := prog_6_method_3_code
def yX4_improve : MethodName := ⟨RX4, "improve", "(LMoodPlayer$Score;II)Z"⟩
abbrev cX4_isBetter : ByteArray := prog_6_method_4_code
def yX4_isBetter : MethodName := ⟨RX4, "isBetter", "(JIJI)Z"⟩
def RX5 : String := "MoodPlayer"
def TX5 : u_T := fun k => match k with
  | 0 => ("MoodPlayer", "score", "LMoodPlayer$Score;", true)
  | 1 => ("MoodPlayer", "state", "LMoodPlayer$State;", true)
  | 2 => ("MoodPlayer", "slots", "[LMoodPlayer$State;", true)
  | 3 => ("MoodPlayer", "diary", "LMoodPlayer$Diary;", true)
  | 4 => ("MoodPlayer", "times", "LMoodPlayer$Table;", true)
  | _ => ("MoodPlayer", "guide", "LMoodPlayer$Guide;", true)
def tyX5 : Nat → FieldType := fun k => match k with
  | 0 => .object "MoodPlayer$Score"
  | 1 => .object "MoodPlayer$State"
  | 2 => .array (.object "MoodPlayer$State")
  | 3 => .object "MoodPlayer$Diary"
  | 4 => .object "MoodPlayer$Table"
  | _ => .object "MoodPlayer$Guide"
abbrev wsX50 : List Cond := u_ws RX5 TX5 6
theorem nmX5 : ∀ a, a < 6 → ∀ b, b < 6 → a ≠ b → (TX5 a).2.1 ≠ (TX5 b).2.1 := by decide +kernel
theorem tyX5_ok : ∀ k, k < 6 → parseFieldDescriptor (TX5 k).2.2.1 = some (tyX5 k) := by decide +kernel
abbrev cX5_init : ByteArray := prog_1_method_1_code
def yX5_init : MethodName := ⟨RX5, "<init>", "()V"⟩
abbrev cX5_piece : ByteArray := prog_1_method_2_code
def yX5_piece : MethodName := ⟨RX5, "piece", "(IIIII)I"⟩
abbrev cX5_joint : ByteArray := prog_1_method_3_code
def yX5_joint : MethodName := ⟨RX5, "joint", "(IIII)I"⟩
abbrev cX5_price : ByteArray := prog_1_method_4_code
def yX5_price : MethodName := ⟨RX5, "price", "(II)I"⟩
abbrev cX5_play : ByteArray := prog_1_method_5_code
def yX5_play : MethodName := ⟨RX5, "play", "(I)Z"⟩
abbrev cX5_ask : ByteArray := prog_1_method_6_code
def yX5_ask : MethodName := ⟨RX5, "ask", "(I)I"⟩
abbrev cX5_leave : ByteArray := prog_1_method_7_code
def yX5_leave : MethodName := ⟨RX5, "leave", "()I"⟩
abbrev cX5_way : ByteArray := prog_1_method_8_code
def yX5_way : MethodName := ⟨RX5, "way", "(I)I"⟩
abbrev cX5_cost : ByteArray := prog_1_method_9_code
def yX5_cost : MethodName := ⟨RX5, "cost", "()J"⟩
abbrev cX5_reach : ByteArray := prog_1_method_10_code
def yX5_reach : MethodName := ⟨RX5, "reach", "(II)J"⟩
abbrev cX5_lacks : ByteArray := prog_1_method_11_code
def yX5_lacks : MethodName := ⟨RX5, "lacks", "(II)I"⟩
abbrev cX5_layer : ByteArray := prog_1_method_12_code
def yX5_layer : MethodName := ⟨RX5, "layer", "(II)I"⟩
abbrev cX5_sting : ByteArray := prog_1_method_13_code
def yX5_sting : MethodName := ⟨RX5, "sting", "(I)I"⟩
abbrev cX5_go : ByteArray := prog_1_method_14_code
def yX5_go : MethodName := ⟨RX5, "go", "(I)J"⟩
abbrev cX5_now : ByteArray := prog_1_method_15_code
def yX5_now : MethodName := ⟨RX5, "now", "(I)I"⟩
abbrev cX5_level : ByteArray := prog_1_method_16_code
def yX5_level : MethodName := ⟨RX5, "level", "(I)I"⟩
abbrev cX5_log : ByteArray := prog_1_method_17_code
def yX5_log : MethodName := ⟨RX5, "log", "(II)J"⟩
abbrev cX5_keep : ByteArray := prog_1_method_18_code
def yX5_keep : MethodName := ⟨RX5, "keep", "(I)Z"⟩
abbrev cX5_goOn : ByteArray := prog_1_method_19_code
def yX5_goOn : MethodName := ⟨RX5, "goOn", "(I)Z"⟩
abbrev cX5_checkPiece : ByteArray := prog_1_method_20_code
def yX5_checkPiece : MethodName := ⟨RX5, "checkPiece", "(I)V"⟩
abbrev cX5_checkPlayable : ByteArray := prog_1_method_21_code
def yX5_checkPlayable : MethodName := ⟨RX5, "checkPlayable", "(I)V"⟩
abbrev cX5_checkMood : ByteArray := prog_1_method_22_code
def yX5_checkMood : MethodName := ⟨RX5, "checkMood", "(I)V"⟩
abbrev cX5_slotAt : ByteArray := prog_1_method_23_code
def yX5_slotAt : MethodName := ⟨RX5, "slotAt", "(I)LMoodPlayer$State;"⟩
abbrev cX5_stepsLeft : ByteArray := prog_1_method_24_code
def yX5_stepsLeft : MethodName := ⟨RX5, "stepsLeft", "()I"⟩
abbrev cX5_beatEnd : ByteArray := prog_1_method_25_code
def yX5_beatEnd : MethodName := ⟨RX5, "beatEnd", "()J"⟩
abbrev cX5_nextMoment : ByteArray := prog_1_method_26_code
def yX5_nextMoment : MethodName := ⟨RX5, "nextMoment", "()J"⟩
abbrev cX5_endBeat : ByteArray := prog_1_method_27_code
def yX5_endBeat : MethodName := ⟨RX5, "endBeat", "()V"⟩
abbrev cX5_isDue : ByteArray := prog_1_method_28_code
def yX5_isDue : MethodName := ⟨RX5, "isDue", "(IZ)Z"⟩
abbrev cX5_endPiece : ByteArray := prog_1_method_29_code
def yX5_endPiece : MethodName := ⟨RX5, "endPiece", "()V"⟩
abbrev cX5_stepAtEnd : ByteArray := prog_1_method_30_code
def yX5_stepAtEnd : MethodName := ⟨RX5, "stepAtEnd", "()I"⟩
abbrev cX5_takeStep : ByteArray := prog_1_method_31_code
def yX5_takeStep : MethodName := ⟨RX5, "takeStep", "(II)V"⟩
abbrev cX5_begin : ByteArray := prog_1_method_32_code
def yX5_begin : MethodName := ⟨RX5, "begin", "(II)V"⟩
abbrev cX5_meetMood : ByteArray := prog_1_method_33_code
def yX5_meetMood : MethodName := ⟨RX5, "meetMood", "()Z"⟩
abbrev cX5_fallSilent : ByteArray := prog_1_method_34_code
def yX5_fallSilent : MethodName := ⟨RX5, "fallSilent", "()V"⟩
abbrev cX5_moveLayers : ByteArray := prog_1_method_35_code
def yX5_moveLayers : MethodName := ⟨RX5, "moveLayers", "()V"⟩
abbrev cX5_beginSting : ByteArray := prog_1_method_36_code
def yX5_beginSting : MethodName := ⟨RX5, "beginSting", "()V"⟩
abbrev cX5_endSting : ByteArray := prog_1_method_37_code
def yX5_endSting : MethodName := ⟨RX5, "endSting", "()V"⟩
def RX6 : String := "MoodPlayerModel"
def TX6 : u_T := fun k => match k with
  | 0 => ("MoodPlayerModel", "thrown", "I", false)
  | 1 => ("MoodPlayerModel", "pieces", "I", false)
  | 2 => ("MoodPlayerModel", "joints", "I", false)
  | 3 => ("MoodPlayerModel", "kind", "[I", true)
  | 4 => ("MoodPlayerModel", "beats", "[I", true)
  | 5 => ("MoodPlayerModel", "beat", "[I", true)
  | 6 => ("MoodPlayerModel", "moods", "[I", true)
  | 7 => ("MoodPlayerModel", "most", "[I", true)
  | 8 => ("MoodPlayerModel", "from", "[I", true)
  | 9 => ("MoodPlayerModel", "behind", "[I", true)
  | 10 => ("MoodPlayerModel", "to", "[I", true)
  | 11 => ("MoodPlayerModel", "cost", "[I", true)
  | 12 => ("MoodPlayerModel", "prices", "[I", true)
  | 13 => ("MoodPlayerModel", "state", "[J", true)
  | 14 => ("MoodPlayerModel", "kept", "[J", true)
  | 15 => ("MoodPlayerModel", "time", "J", false)
  | 16 => ("MoodPlayerModel", "soundsTo", "J", false)
  | 17 => ("MoodPlayerModel", "keptTime", "[J", true)
  | 18 => ("MoodPlayerModel", "keptSounds", "[J", true)
  | 19 => ("MoodPlayerModel", "isKept", "[Z", true)
  | 20 => ("MoodPlayerModel", "hasWay", "Z", false)
  | 21 => ("MoodPlayerModel", "waySize", "I", false)
  | 22 => ("MoodPlayerModel", "wayAt", "I", false)
  | 23 => ("MoodPlayerModel", "way", "[I", true)
  | 24 => ("MoodPlayerModel", "logTime", "[J", true)
  | 25 => ("MoodPlayerModel", "logWhat", "[I", true)
  | 26 => ("MoodPlayerModel", "logNumber", "[I", true)
  | 27 => ("MoodPlayerModel", "logs", "I", false)
  | 28 => ("MoodPlayerModel", "least", "[J", true)
  | 29 => ("MoodPlayerModel", "few", "[I", true)
  | _ => ("MoodPlayerModel", "comes", "[Z", true)
def tyX6 : Nat → FieldType := fun k => match k with
  | 0 => .int
  | 1 => .int
  | 2 => .int
  | 3 => .array .int
  | 4 => .array .int
  | 5 => .array .int
  | 6 => .array .int
  | 7 => .array .int
  | 8 => .array .int
  | 9 => .array .int
  | 10 => .array .int
  | 11 => .array .int
  | 12 => .array .int
  | 13 => .array .long
  | 14 => .array .long
  | 15 => .long
  | 16 => .long
  | 17 => .array .long
  | 18 => .array .long
  | 19 => .array .boolean
  | 20 => .boolean
  | 21 => .int
  | 22 => .int
  | 23 => .array .int
  | 24 => .array .long
  | 25 => .array .int
  | 26 => .array .int
  | 27 => .int
  | 28 => .array .long
  | 29 => .array .int
  | _ => .array .boolean
abbrev wsX60 : List Cond := u_ws RX6 TX6 31
theorem nmX6 : ∀ a, a < 31 → ∀ b, b < 31 → a ≠ b → (TX6 a).2.1 ≠ (TX6 b).2.1 := by decide +kernel
theorem tyX6_ok : ∀ k, k < 31 → parseFieldDescriptor (TX6 k).2.2.1 = some (tyX6 k) := by decide +kernel
abbrev cX6_init : ByteArray := prog_8_method_1_code
def yX6_init : MethodName := ⟨RX6, "<init>", "()V"⟩
abbrev cX6_thrown : ByteArray := prog_8_method_2_code
def yX6_thrown : MethodName := ⟨RX6, "thrown", "()I"⟩
abbrev cX6_right : ByteArray := prog_8_method_3_code
def yX6_right : MethodName := ⟨RX6, "right", "(ZI)Z"⟩
abbrev cX6_isPiece : ByteArray := prog_8_method_4_code
def yX6_isPiece : MethodName := ⟨RX6, "isPiece", "(I)Z"⟩
abbrev cX6_get : ByteArray := prog_8_method_5_code
def yX6_get : MethodName := ⟨RX6, "get", "(I)I"⟩
abbrev cX6_isMain : ByteArray := prog_8_method_6_code
def yX6_isMain : MethodName := ⟨RX6, "isMain", "(I)Z"⟩
abbrev cX6_has : ByteArray := prog_8_method_7_code
def yX6_has : MethodName := ⟨RX6, "has", "(II)Z"⟩
abbrev cX6_piece : ByteArray := prog_8_method_8_code
def yX6_piece : MethodName := ⟨RX6, "piece", "(IIIII)I"⟩
abbrev cX6_joint : ByteArray := prog_8_method_9_code
def yX6_joint : MethodName := ⟨RX6, "joint", "(IIII)I"⟩
abbrev cX6_price : ByteArray := prog_8_method_10_code
def yX6_price : MethodName := ⟨RX6, "price", "(II)I"⟩
abbrev cX6_reckons : ByteArray := prog_8_method_11_code
def yX6_reckons : MethodName := ⟨RX6, "reckons", "(IZ)V"⟩
abbrev cX6_until : ByteArray := prog_8_method_12_code
def yX6_until : MethodName := ⟨RX6, "until", "(IIII)J"⟩
abbrev cX6_stepCost : ByteArray := prog_8_method_13_code
def yX6_stepCost : MethodName := ⟨RX6, "stepCost", "(IIII)J"⟩
abbrev cX6_isStep : ByteArray := prog_8_method_14_code
def yX6_isStep : MethodName := ⟨RX6, "isStep", "(III)Z"⟩
abbrev cX6_leads : ByteArray := prog_8_method_15_code
def yX6_leads : MethodName := ⟨RX6, "leads", "(II)I"⟩
abbrev cX6_finds : ByteArray := prog_8_method_16_code
def yX6_finds : MethodName := ⟨RX6, "finds", "()V"⟩
abbrev cX6_ask : ByteArray := prog_8_method_17_code
def yX6_ask : MethodName := ⟨RX6, "ask", "(I)I"⟩
abbrev cX6_leave : ByteArray := prog_8_method_18_code
def yX6_leave : MethodName := ⟨RX6, "leave", "()I"⟩
abbrev cX6_way : ByteArray := prog_8_method_19_code
def yX6_way : MethodName := ⟨RX6, "way", "(I)I"⟩
abbrev cX6_cost : ByteArray := prog_8_method_20_code
def yX6_cost : MethodName := ⟨RX6, "cost", "()J"⟩
abbrev cX6_isAsked : ByteArray := prog_8_method_21_code
def yX6_isAsked : MethodName := ⟨RX6, "isAsked", "(II)Z"⟩
abbrev cX6_reach : ByteArray := prog_8_method_22_code
def yX6_reach : MethodName := ⟨RX6, "reach", "(II)J"⟩
abbrev cX6_lacks : ByteArray := prog_8_method_23_code
def yX6_lacks : MethodName := ⟨RX6, "lacks", "(II)I"⟩
abbrev cX6_logs : ByteArray := prog_8_method_24_code
def yX6_logs : MethodName := ⟨RX6, "logs", "(II)V"⟩
abbrev cX6_met : ByteArray := prog_8_method_25_code
def yX6_met : MethodName := ⟨RX6, "met", "()V"⟩
abbrev cX6_begins : ByteArray := prog_8_method_26_code
def yX6_begins : MethodName := ⟨RX6, "begins", "(IIZ)V"⟩
abbrev cX6_play : ByteArray := prog_8_method_27_code
def yX6_play : MethodName := ⟨RX6, "play", "(I)Z"⟩
abbrev cX6_takes : ByteArray := prog_8_method_28_code
def yX6_takes : MethodName := ⟨RX6, "takes", "(IZ)V"⟩
abbrev cX6_goesAgain : ByteArray := prog_8_method_29_code
def yX6_goesAgain : MethodName := ⟨RX6, "goesAgain", "(Z)V"⟩
abbrev cX6_cheapest : ByteArray := prog_8_method_30_code
def yX6_cheapest : MethodName := ⟨RX6, "cheapest", "(I)I"⟩
abbrev cX6_silence : ByteArray := prog_8_method_31_code
def yX6_silence : MethodName := ⟨RX6, "silence", "()V"⟩
abbrev cX6_isDone : ByteArray := prog_8_method_32_code
def yX6_isDone : MethodName := ⟨RX6, "isDone", "()V"⟩
abbrev cX6_levels : ByteArray := prog_8_method_33_code
def yX6_levels : MethodName := ⟨RX6, "levels", "()I"⟩
abbrev cX6_layers : ByteArray := prog_8_method_34_code
def yX6_layers : MethodName := ⟨RX6, "layers", "()V"⟩
abbrev cX6_stings : ByteArray := prog_8_method_35_code
def yX6_stings : MethodName := ⟨RX6, "stings", "()V"⟩
abbrev cX6_layer : ByteArray := prog_8_method_36_code
def yX6_layer : MethodName := ⟨RX6, "layer", "(II)I"⟩
abbrev cX6_sting : ByteArray := prog_8_method_37_code
def yX6_sting : MethodName := ⟨RX6, "sting", "(I)I"⟩
abbrev cX6_go : ByteArray := prog_8_method_38_code
def yX6_go : MethodName := ⟨RX6, "go", "(I)J"⟩
abbrev cX6_now : ByteArray := prog_8_method_39_code
def yX6_now : MethodName := ⟨RX6, "now", "(I)I"⟩
abbrev cX6_level : ByteArray := prog_8_method_40_code
def yX6_level : MethodName := ⟨RX6, "level", "(I)I"⟩
abbrev cX6_log : ByteArray := prog_8_method_41_code
def yX6_log : MethodName := ⟨RX6, "log", "(II)J"⟩
abbrev cX6_isSlot : ByteArray := prog_8_method_42_code
def yX6_isSlot : MethodName := ⟨RX6, "isSlot", "(I)Z"⟩
abbrev cX6_keep : ByteArray := prog_8_method_43_code
def yX6_keep : MethodName := ⟨RX6, "keep", "(I)Z"⟩
abbrev cX6_goOn : ByteArray := prog_8_method_44_code
def yX6_goOn : MethodName := ⟨RX6, "goOn", "(I)Z"⟩
def RJ9 : String := "java/lang/Math"
def TJ9 : u_T := fun k => match k with
  | _ => ("", "", "", false)
def tyJ9 : Nat → FieldType := fun k => match k with
  | _ => .int
abbrev wsJ90 : List Cond := u_ws RJ9 TJ9 0
theorem nmJ9 : ∀ a, a < 0 → ∀ b, b < 0 → a ≠ b → (TJ9 a).2.1 ≠ (TJ9 b).2.1 := by decide +kernel
theorem tyJ9_ok : ∀ k, k < 0 → parseFieldDescriptor (TJ9 k).2.2.1 = some (tyJ9 k) := by decide +kernel
abbrev cJ9_min_f86c9 : ByteArray := prog_11_method_70_code
def yJ9_min_f86c9 : MethodName := ⟨RJ9, "min", "(JJ)J"⟩
def RJ0 : String := "java/lang/String"
def TJ0 : u_T := fun k => match k with
  | _ => ("", "", "", false)
def tyJ0 : Nat → FieldType := fun k => match k with
  | _ => .int
abbrev wsJ00 : List Cond := u_ws RJ0 TJ0 0
theorem nmJ0 : ∀ a, a < 0 → ∀ b, b < 0 → a ≠ b → (TJ0 a).2.1 ≠ (TJ0 b).2.1 := by decide +kernel
theorem tyJ0_ok : ∀ k, k < 0 → parseFieldDescriptor (TJ0 k).2.2.1 = some (tyJ0 k) := by decide +kernel
def RJ10 : String := "java/lang/System"
def TJ10 : u_T := fun k => match k with
  | _ => ("", "", "", false)
def tyJ10 : Nat → FieldType := fun k => match k with
  | _ => .int
abbrev wsJ100 : List Cond := u_ws RJ10 TJ10 0
theorem nmJ10 : ∀ a, a < 0 → ∀ b, b < 0 → a ≠ b → (TJ10 a).2.1 ≠ (TJ10 b).2.1 := by decide +kernel
theorem tyJ10_ok : ∀ k, k < 0 → parseFieldDescriptor (TJ10 k).2.2.1 = some (tyJ10 k) := by decide +kernel
def RJ7 : String := "java/util/Arrays"
def TJ7 : u_T := fun k => match k with
  | _ => ("", "", "", false)
def tyJ7 : Nat → FieldType := fun k => match k with
  | _ => .int
abbrev wsJ70 : List Cond := u_ws RJ7 TJ7 0
theorem nmJ7 : ∀ a, a < 0 → ∀ b, b < 0 → a ≠ b → (TJ7 a).2.1 ≠ (TJ7 b).2.1 := by decide +kernel
theorem tyJ7_ok : ∀ k, k < 0 → parseFieldDescriptor (TJ7 k).2.2.1 = some (tyJ7 k) := by decide +kernel
abbrev cJ7_fill_53178 : ByteArray := prog_16_method_103_code
def yJ7_fill_53178 : MethodName := ⟨RJ7, "fill", "([II)V"⟩
def RL : String := "MoodPlayerLaw"
abbrev cL_joint : ByteArray := method_3_code
def yL_joint : MethodName := ⟨RL, "joint", "(LMoodPlayer;IIII[J)I"⟩
abbrev cL_price : ByteArray := method_4_code
def yL_price : MethodName := ⟨RL, "price", "(LMoodPlayer;II[J)I"⟩
abbrev cL_play : ByteArray := method_5_code
def yL_play : MethodName := ⟨RL, "play", "(LMoodPlayer;I[J)I"⟩
abbrev cL_ask : ByteArray := method_6_code
def yL_ask : MethodName := ⟨RL, "ask", "(LMoodPlayer;I[J)I"⟩
abbrev cL_way : ByteArray := method_7_code
def yL_way : MethodName := ⟨RL, "way", "(LMoodPlayer;I[J)I"⟩
abbrev cL_reach : ByteArray := method_8_code
def yL_reach : MethodName := ⟨RL, "reach", "(LMoodPlayer;II[J)I"⟩
abbrev cL_lacks : ByteArray := method_9_code
def yL_lacks : MethodName := ⟨RL, "lacks", "(LMoodPlayer;II[J)I"⟩
abbrev cL_layer : ByteArray := method_10_code
def yL_layer : MethodName := ⟨RL, "layer", "(LMoodPlayer;II[J)I"⟩
abbrev cL_sting : ByteArray := method_11_code
def yL_sting : MethodName := ⟨RL, "sting", "(LMoodPlayer;I[J)I"⟩
abbrev cL_go : ByteArray := method_12_code
def yL_go : MethodName := ⟨RL, "go", "(LMoodPlayer;I[J)I"⟩
abbrev cL_now : ByteArray := method_13_code
def yL_now : MethodName := ⟨RL, "now", "(LMoodPlayer;I[J)I"⟩
abbrev cL_level : ByteArray := method_14_code
def yL_level : MethodName := ⟨RL, "level", "(LMoodPlayer;I[J)I"⟩
abbrev cL_log : ByteArray := method_15_code
def yL_log : MethodName := ⟨RL, "log", "(LMoodPlayer;II[J)I"⟩
abbrev cL_keep : ByteArray := method_16_code
def yL_keep : MethodName := ⟨RL, "keep", "(LMoodPlayer;I[J)I"⟩
abbrev cL_goOn : ByteArray := method_17_code
def yL_goOn : MethodName := ⟨RL, "goOn", "(LMoodPlayer;I[J)I"⟩
abbrev cL_law : ByteArray := code
def yL_law : MethodName := ⟨RL, "law", "([I)Z"⟩
abbrev vwCl : List vw_C := [(RX0, TX0, 6), (RX1, TX1, 7), (RX2, TX2, 12), (RX3, TX3, 13), (RX4, TX4, 2), (RX5, TX5, 6), (RX6, TX6, 31)]

/-! the one list of words that every method of ours is proved under: the tables' words that are good -/
def WW : List Cond := lw_tbl.filter goodWord
theorem mpw_in {w : Cond} (h : w ∈ lw_tbl) (g : goodWord w = true) : w ∈ WW := List.mem_filter.mpr ⟨h, g⟩
theorem mpw0 {w : Cond} (i : Nat) (h : (k2_sels lw_privs)[i]? = some w) (g : goodWord w = true) : w ∈ WW := mpw_in (List.mem_append_left _ (List.mem_of_getElem? h)) g
theorem mpw1 {w : Cond} (i : Nat) (h : tables_1_1[i]? = some w) (g : goodWord w = true) : w ∈ WW := mpw_in (List.mem_append_right _ (List.mem_append_left _ (List.mem_of_getElem? h))) g
theorem mpw2 {w : Cond} (i : Nat) (h : tables_1_2[i]? = some w) (g : goodWord w = true) : w ∈ WW := mpw_in (List.mem_append_right _ (List.mem_append_right _ (List.mem_append_left _ (List.mem_of_getElem? h)))) g
theorem mpw3 {w : Cond} (i : Nat) (h : tables_1_3[i]? = some w) (g : goodWord w = true) : w ∈ WW := mpw_in (List.mem_append_right _ (List.mem_append_right _ (List.mem_append_right _ (List.mem_append_left _ (List.mem_of_getElem? h))))) g
theorem mpw4 {w : Cond} (i : Nat) (h : tables_1_4[i]? = some w) (g : goodWord w = true) : w ∈ WW := mpw_in (List.mem_append_right _ (List.mem_append_right _ (List.mem_append_right _ (List.mem_append_right _ (List.mem_append_left _ (List.mem_of_getElem? h)))))) g
theorem mpw5 {w : Cond} (i : Nat) (h : tables_1_5[i]? = some w) (g : goodWord w = true) : w ∈ WW := mpw_in (List.mem_append_right _ (List.mem_append_right _ (List.mem_append_right _ (List.mem_append_right _ (List.mem_append_right _ (List.mem_of_getElem? h)))))) g
theorem mpw_good : GoodIn lw_tbl WW := fun w h => ⟨(List.mem_filter.mp h).1, good_of_word (List.mem_filter.mp h).2⟩
theorem mpw_goodWW : GoodIn WW WW := fun w h => ⟨h, good_of_word (List.mem_filter.mp h).2⟩
theorem mN_L : Cond.initialized RL ∈ WW := mpw1 0 rfl rfl
theorem mN_X5 : Cond.initialized RX5 ∈ WW := mpw1 1 rfl rfl
theorem mN_X2 : Cond.initialized RX2 ∈ WW := mpw1 2 rfl rfl
theorem mN_X3 : Cond.initialized RX3 ∈ WW := mpw1 3 rfl rfl
theorem mN_X0 : Cond.initialized RX0 ∈ WW := mpw1 4 rfl rfl
theorem mN_X4 : Cond.initialized RX4 ∈ WW := mpw1 5 rfl rfl
theorem mN_X1 : Cond.initialized RX1 ∈ WW := mpw1 6 rfl rfl
theorem mN_X6 : Cond.initialized RX6 ∈ WW := mpw1 7 rfl rfl
theorem mN_Throwable : Cond.initialized "java/lang/Throwable" ∈ WW := mpw1 8 rfl rfl
theorem mN_Exception : Cond.initialized "java/lang/Exception" ∈ WW := mpw1 9 rfl rfl
theorem mN_RuntimeException : Cond.initialized "java/lang/RuntimeException" ∈ WW := mpw1 10 rfl rfl
theorem mN_NoSuchElementException : Cond.initialized "java/util/NoSuchElementException" ∈ WW := mpw1 11 rfl rfl
theorem mN_IllegalArgumentException : Cond.initialized "java/lang/IllegalArgumentException" ∈ WW := mpw1 12 rfl rfl
theorem mN_J9 : Cond.initialized RJ9 ∈ WW := mpw1 13 rfl rfl
theorem mN_J7 : Cond.initialized RJ7 ∈ WW := mpw1 14 rfl rfl
theorem mN_J10 : Cond.initialized RJ10 ∈ WW := mpw1 15 rfl rfl
theorem mG_L_8 : Cond.classLink RL 8 "MoodPlayer" ∈ WW := mpw1 16 rfl rfl
theorem mA_X5 : Cond.instantiable RX5 6 ∈ WW := mpw1 17 rfl rfl
theorem mM_L_64 : Cond.methodLink RL 64 yX5_init ∈ WW := mpw1 18 rfl rfl
theorem mI_X5_init : Cond.instanceMethod yX5_init ∈ WW := mpw1 19 rfl rfl
theorem mC_X5_init : Cond.code yX5_init cX5_init 2 none ∈ WW := mpw1 20 rfl rfl
theorem mM_X5_3 : Cond.methodLink RX5 3 ⟨"java/lang/Object", "<init>", "()V"⟩ ∈ WW := mpw1 21 rfl rfl
theorem mI_Object__init___V : Cond.instanceMethod ⟨"java/lang/Object", "<init>", "()V"⟩ ∈ WW := mpw1 22 rfl rfl
theorem mC_Object__init___V : Cond.code ({ cls := "java/lang/Object", name := "<init>", desc := "()V" } : Jvm.MethodName) object_method_1_code (1 : Nat) (Option.none : Option Jvm.ClassFile.FieldType) ∈ WW := mpw1 23 rfl rfl
theorem mG_X5_9 : Cond.classLink RX5 9 "MoodPlayer$Score" ∈ WW := mpw1 24 rfl rfl
theorem mA_X2 : Cond.instantiable RX2 12 ∈ WW := mpw1 25 rfl rfl
theorem mM_X5_11 : Cond.methodLink RX5 11 yX2_init ∈ WW := mpw1 26 rfl rfl
theorem mI_X2_init : Cond.instanceMethod yX2_init ∈ WW := mpw1 27 rfl rfl
theorem mC_X2_init : Cond.code yX2_init cX2_init 1 none ∈ WW := mpw1 28 rfl rfl
theorem mM_X2_3 : Cond.methodLink RX2 3 ⟨"java/lang/Object", "<init>", "()V"⟩ ∈ WW := mpw1 29 rfl rfl
theorem mF_X2_9 : Cond.fieldLink RX2 9 "MoodPlayer$Score" "kind" "[I" ∈ WW := mpw1 30 rfl rfl
theorem mF_X1_99 : Cond.fieldLink RX1 99 "MoodPlayer$Score" "kind" "[I" ∈ WW := mpw1 31 rfl rfl
theorem mF_X5_145 : Cond.fieldLink RX5 145 "MoodPlayer$Score" "kind" "[I" ∈ WW := mpw1 32 rfl rfl
theorem mF_X2_15 : Cond.fieldLink RX2 15 "MoodPlayer$Score" "beats" "[I" ∈ WW := mpw1 33 rfl rfl
theorem mF_X1_121 : Cond.fieldLink RX1 121 "MoodPlayer$Score" "beats" "[I" ∈ WW := mpw1 34 rfl rfl
theorem mF_X5_254 : Cond.fieldLink RX5 254 "MoodPlayer$Score" "beats" "[I" ∈ WW := mpw1 35 rfl rfl
theorem mF_X2_18 : Cond.fieldLink RX2 18 "MoodPlayer$Score" "beat" "[I" ∈ WW := mpw1 36 rfl rfl
theorem mF_X1_124 : Cond.fieldLink RX1 124 "MoodPlayer$Score" "beat" "[I" ∈ WW := mpw1 37 rfl rfl
theorem mF_X5_241 : Cond.fieldLink RX5 241 "MoodPlayer$Score" "beat" "[I" ∈ WW := mpw1 38 rfl rfl
theorem mF_X2_21 : Cond.fieldLink RX2 21 "MoodPlayer$Score" "moods" "[I" ∈ WW := mpw1 39 rfl rfl
theorem mF_X2_24 : Cond.fieldLink RX2 24 "MoodPlayer$Score" "most" "[I" ∈ WW := mpw1 40 rfl rfl
theorem mF_X5_288 : Cond.fieldLink RX5 288 "MoodPlayer$Score" "most" "[I" ∈ WW := mpw1 41 rfl rfl
theorem mF_X4_19 : Cond.fieldLink RX4 19 "MoodPlayer$Score" "pieces" "I" ∈ WW := mpw1 42 rfl rfl
theorem mF_X2_42 : Cond.fieldLink RX2 42 "MoodPlayer$Score" "pieces" "I" ∈ WW := mpw1 43 rfl rfl
theorem mF_X5_199 : Cond.fieldLink RX5 199 "MoodPlayer$Score" "pieces" "I" ∈ WW := mpw1 44 rfl rfl
theorem mF_X2_27 : Cond.fieldLink RX2 27 "MoodPlayer$Score" "from" "[I" ∈ WW := mpw1 45 rfl rfl
theorem mF_X4_38 : Cond.fieldLink RX4 38 "MoodPlayer$Score" "from" "[I" ∈ WW := mpw1 46 rfl rfl
theorem mF_X1_102 : Cond.fieldLink RX1 102 "MoodPlayer$Score" "from" "[I" ∈ WW := mpw1 47 rfl rfl
theorem mF_X2_30 : Cond.fieldLink RX2 30 "MoodPlayer$Score" "behind" "[I" ∈ WW := mpw1 48 rfl rfl
theorem mF_X1_105 : Cond.fieldLink RX1 105 "MoodPlayer$Score" "behind" "[I" ∈ WW := mpw1 49 rfl rfl
theorem mF_X5_276 : Cond.fieldLink RX5 276 "MoodPlayer$Score" "behind" "[I" ∈ WW := mpw1 50 rfl rfl
theorem mF_X2_33 : Cond.fieldLink RX2 33 "MoodPlayer$Score" "to" "[I" ∈ WW := mpw1 51 rfl rfl
theorem mF_X4_41 : Cond.fieldLink RX4 41 "MoodPlayer$Score" "to" "[I" ∈ WW := mpw1 52 rfl rfl
theorem mF_X1_111 : Cond.fieldLink RX1 111 "MoodPlayer$Score" "to" "[I" ∈ WW := mpw1 53 rfl rfl
theorem mF_X5_291 : Cond.fieldLink RX5 291 "MoodPlayer$Score" "to" "[I" ∈ WW := mpw1 54 rfl rfl
theorem mF_X2_36 : Cond.fieldLink RX2 36 "MoodPlayer$Score" "cost" "[I" ∈ WW := mpw1 55 rfl rfl
theorem mF_X4_44 : Cond.fieldLink RX4 44 "MoodPlayer$Score" "cost" "[I" ∈ WW := mpw1 56 rfl rfl
theorem mF_X1_118 : Cond.fieldLink RX1 118 "MoodPlayer$Score" "cost" "[I" ∈ WW := mpw1 57 rfl rfl
theorem mF_X4_35 : Cond.fieldLink RX4 35 "MoodPlayer$Score" "joints" "I" ∈ WW := mpw1 58 rfl rfl
theorem mF_X2_50 : Cond.fieldLink RX2 50 "MoodPlayer$Score" "joints" "I" ∈ WW := mpw1 59 rfl rfl
theorem mF_X1_87 : Cond.fieldLink RX1 87 "MoodPlayer$Score" "joints" "I" ∈ WW := mpw1 60 rfl rfl
theorem mF_X5_202 : Cond.fieldLink RX5 202 "MoodPlayer$Score" "joints" "I" ∈ WW := mpw1 61 rfl rfl
theorem mF_X2_39 : Cond.fieldLink RX2 39 "MoodPlayer$Score" "prices" "[I" ∈ WW := mpw1 62 rfl rfl
theorem mF_X5_74 : Cond.fieldLink RX5 74 "MoodPlayer$Score" "prices" "[I" ∈ WW := mpw1 63 rfl rfl
theorem mF_X1_64 : Cond.fieldLink RX1 64 "MoodPlayer$Score" "prices" "[I" ∈ WW := mpw1 64 rfl rfl
theorem mY_X2_kind : Cond.laysFinal RX2 "MoodPlayer$Score" "kind" "[I" ∈ WW := mpw1 65 rfl rfl
theorem mY_X2_beats : Cond.laysFinal RX2 "MoodPlayer$Score" "beats" "[I" ∈ WW := mpw1 67 rfl rfl
theorem mY_X2_beat : Cond.laysFinal RX2 "MoodPlayer$Score" "beat" "[I" ∈ WW := mpw1 69 rfl rfl
theorem mY_X2_moods : Cond.laysFinal RX2 "MoodPlayer$Score" "moods" "[I" ∈ WW := mpw1 71 rfl rfl
theorem mY_X2_most : Cond.laysFinal RX2 "MoodPlayer$Score" "most" "[I" ∈ WW := mpw1 73 rfl rfl
theorem mY_X2_pieces : Cond.lays RX2 "MoodPlayer$Score" "pieces" "I" ∈ WW := mpw1 75 rfl rfl
theorem mY_X2_from : Cond.laysFinal RX2 "MoodPlayer$Score" "from" "[I" ∈ WW := mpw1 77 rfl rfl
theorem mY_X2_behind : Cond.laysFinal RX2 "MoodPlayer$Score" "behind" "[I" ∈ WW := mpw1 79 rfl rfl
theorem mY_X2_to : Cond.laysFinal RX2 "MoodPlayer$Score" "to" "[I" ∈ WW := mpw1 81 rfl rfl
theorem mY_X2_cost : Cond.laysFinal RX2 "MoodPlayer$Score" "cost" "[I" ∈ WW := mpw1 83 rfl rfl
theorem mY_X2_joints : Cond.lays RX2 "MoodPlayer$Score" "joints" "I" ∈ WW := mpw1 85 rfl rfl
theorem mY_X2_prices : Cond.laysFinal RX2 "MoodPlayer$Score" "prices" "[I" ∈ WW := mpw1 87 rfl rfl
theorem mG_X5_16 : Cond.classLink RX5 16 "MoodPlayer$State" ∈ WW := mpw1 91 rfl rfl
theorem mA_X3 : Cond.instantiable RX3 13 ∈ WW := mpw1 92 rfl rfl
theorem mI_X3_init : Cond.instanceMethod yX3_init ∈ WW := mpw1 94 rfl rfl
theorem mC_X3_init : Cond.code yX3_init cX3_init 1 none ∈ WW := mpw1 95 rfl rfl
theorem mM_X3_3 : Cond.methodLink RX3 3 ⟨"java/lang/Object", "<init>", "()V"⟩ ∈ WW := mpw1 96 rfl rfl
theorem mF_X5_220 : Cond.fieldLink RX5 220 "MoodPlayer$State" "filled" "Z" ∈ WW := mpw1 97 rfl rfl
theorem mF_X3_31 : Cond.fieldLink RX3 31 "MoodPlayer$State" "time" "J" ∈ WW := mpw1 98 rfl rfl
theorem mF_X0_33 : Cond.fieldLink RX0 33 "MoodPlayer$State" "time" "J" ∈ WW := mpw1 99 rfl rfl
theorem mF_X5_159 : Cond.fieldLink RX5 159 "MoodPlayer$State" "time" "J" ∈ WW := mpw1 100 rfl rfl
theorem mF_X3_9 : Cond.fieldLink RX3 9 "MoodPlayer$State" "plays" "I" ∈ WW := mpw1 101 rfl rfl
theorem mF_X1_56 : Cond.fieldLink RX1 56 "MoodPlayer$State" "plays" "I" ∈ WW := mpw1 102 rfl rfl
theorem mF_X5_175 : Cond.fieldLink RX5 175 "MoodPlayer$State" "plays" "I" ∈ WW := mpw1 103 rfl rfl
theorem mF_X3_35 : Cond.fieldLink RX3 35 "MoodPlayer$State" "done" "I" ∈ WW := mpw1 104 rfl rfl
theorem mF_X1_108 : Cond.fieldLink RX1 108 "MoodPlayer$State" "done" "I" ∈ WW := mpw1 105 rfl rfl
theorem mF_X5_184 : Cond.fieldLink RX5 184 "MoodPlayer$State" "done" "I" ∈ WW := mpw1 106 rfl rfl
theorem mF_X3_38 : Cond.fieldLink RX3 38 "MoodPlayer$State" "turns" "I" ∈ WW := mpw1 107 rfl rfl
theorem mF_X5_187 : Cond.fieldLink RX5 187 "MoodPlayer$State" "turns" "I" ∈ WW := mpw1 108 rfl rfl
theorem mF_X3_41 : Cond.fieldLink RX3 41 "MoodPlayer$State" "beatBegan" "J" ∈ WW := mpw1 109 rfl rfl
theorem mF_X5_238 : Cond.fieldLink RX5 238 "MoodPlayer$State" "beatBegan" "J" ∈ WW := mpw1 110 rfl rfl
theorem mF_X3_15 : Cond.fieldLink RX3 15 "MoodPlayer$State" "mood" "I" ∈ WW := mpw1 111 rfl rfl
theorem mF_X5_95 : Cond.fieldLink RX5 95 "MoodPlayer$State" "mood" "I" ∈ WW := mpw1 112 rfl rfl
theorem mF_X1_61 : Cond.fieldLink RX1 61 "MoodPlayer$State" "mood" "I" ∈ WW := mpw1 113 rfl rfl
theorem mF_X3_18 : Cond.fieldLink RX3 18 "MoodPlayer$State" "tops" "[I" ∈ WW := mpw1 114 rfl rfl
theorem mF_X5_148 : Cond.fieldLink RX5 148 "MoodPlayer$State" "tops" "[I" ∈ WW := mpw1 115 rfl rfl
theorem mF_X3_22 : Cond.fieldLink RX3 22 "MoodPlayer$State" "levels" "[I" ∈ WW := mpw1 116 rfl rfl
theorem mF_X5_207 : Cond.fieldLink RX5 207 "MoodPlayer$State" "levels" "[I" ∈ WW := mpw1 117 rfl rfl
theorem mF_X3_25 : Cond.fieldLink RX3 25 "MoodPlayer$State" "waiting" "[I" ∈ WW := mpw1 118 rfl rfl
theorem mF_X5_154 : Cond.fieldLink RX5 154 "MoodPlayer$State" "waiting" "[I" ∈ WW := mpw1 119 rfl rfl
theorem mF_X3_50 : Cond.fieldLink RX3 50 "MoodPlayer$State" "waits" "I" ∈ WW := mpw1 120 rfl rfl
theorem mF_X5_151 : Cond.fieldLink RX5 151 "MoodPlayer$State" "waits" "I" ∈ WW := mpw1 121 rfl rfl
theorem mF_X3_28 : Cond.fieldLink RX3 28 "MoodPlayer$State" "sounds" "I" ∈ WW := mpw1 122 rfl rfl
theorem mF_X5_166 : Cond.fieldLink RX5 166 "MoodPlayer$State" "sounds" "I" ∈ WW := mpw1 123 rfl rfl
theorem mF_X3_53 : Cond.fieldLink RX3 53 "MoodPlayer$State" "soundsUntil" "J" ∈ WW := mpw1 124 rfl rfl
theorem mF_X5_169 : Cond.fieldLink RX5 169 "MoodPlayer$State" "soundsUntil" "J" ∈ WW := mpw1 125 rfl rfl
theorem mY_X3_filled : Cond.lays RX3 "MoodPlayer$State" "filled" "Z" ∈ WW := mpw1 126 rfl rfl
theorem mY_X3_time : Cond.lays RX3 "MoodPlayer$State" "time" "J" ∈ WW := mpw1 128 rfl rfl
theorem mY_X3_plays : Cond.lays RX3 "MoodPlayer$State" "plays" "I" ∈ WW := mpw1 130 rfl rfl
theorem mY_X3_done : Cond.lays RX3 "MoodPlayer$State" "done" "I" ∈ WW := mpw1 132 rfl rfl
theorem mY_X3_turns : Cond.lays RX3 "MoodPlayer$State" "turns" "I" ∈ WW := mpw1 134 rfl rfl
theorem mY_X3_beatBegan : Cond.lays RX3 "MoodPlayer$State" "beatBegan" "J" ∈ WW := mpw1 136 rfl rfl
theorem mY_X3_mood : Cond.lays RX3 "MoodPlayer$State" "mood" "I" ∈ WW := mpw1 138 rfl rfl
theorem mY_X3_tops : Cond.laysFinal RX3 "MoodPlayer$State" "tops" "[I" ∈ WW := mpw1 140 rfl rfl
theorem mY_X3_levels : Cond.laysFinal RX3 "MoodPlayer$State" "levels" "[I" ∈ WW := mpw1 142 rfl rfl
theorem mY_X3_waiting : Cond.laysFinal RX3 "MoodPlayer$State" "waiting" "[I" ∈ WW := mpw1 144 rfl rfl
theorem mY_X3_waits : Cond.lays RX3 "MoodPlayer$State" "waits" "I" ∈ WW := mpw1 146 rfl rfl
theorem mY_X3_sounds : Cond.lays RX3 "MoodPlayer$State" "sounds" "I" ∈ WW := mpw1 148 rfl rfl
theorem mY_X3_soundsUntil : Cond.lays RX3 "MoodPlayer$State" "soundsUntil" "J" ∈ WW := mpw1 150 rfl rfl
theorem mG_X5_27 : Cond.classLink RX5 27 "MoodPlayer$Diary" ∈ WW := mpw1 154 rfl rfl
theorem mA_X0 : Cond.instantiable RX0 6 ∈ WW := mpw1 155 rfl rfl
theorem mM_X5_29 : Cond.methodLink RX5 29 yX0_init ∈ WW := mpw1 156 rfl rfl
theorem mI_X0_init : Cond.instanceMethod yX0_init ∈ WW := mpw1 157 rfl rfl
theorem mC_X0_init : Cond.code yX0_init cX0_init 2 none ∈ WW := mpw1 158 rfl rfl
theorem mM_X0_3 : Cond.methodLink RX0 3 ⟨"java/lang/Object", "<init>", "()V"⟩ ∈ WW := mpw1 159 rfl rfl
theorem mF_X0_22 : Cond.fieldLink RX0 22 "MoodPlayer$Diary" "state" "LMoodPlayer$State;" ∈ WW := mpw1 160 rfl rfl
theorem mF_X0_9 : Cond.fieldLink RX0 9 "MoodPlayer$Diary" "when" "[J" ∈ WW := mpw1 161 rfl rfl
theorem mF_X0_15 : Cond.fieldLink RX0 15 "MoodPlayer$Diary" "whats" "[I" ∈ WW := mpw1 162 rfl rfl
theorem mF_X0_19 : Cond.fieldLink RX0 19 "MoodPlayer$Diary" "numbers" "[I" ∈ WW := mpw1 163 rfl rfl
theorem mF_X0_26 : Cond.fieldLink RX0 26 "MoodPlayer$Diary" "eldest" "I" ∈ WW := mpw1 164 rfl rfl
theorem mF_X0_30 : Cond.fieldLink RX0 30 "MoodPlayer$Diary" "count" "I" ∈ WW := mpw1 165 rfl rfl
theorem mF_X5_196 : Cond.fieldLink RX5 196 "MoodPlayer$Diary" "count" "I" ∈ WW := mpw1 166 rfl rfl
theorem mY_X0_state : Cond.laysFinal RX0 "MoodPlayer$Diary" "state" "LMoodPlayer$State;" ∈ WW := mpw1 167 rfl rfl
theorem mY_X0_when : Cond.laysFinal RX0 "MoodPlayer$Diary" "when" "[J" ∈ WW := mpw1 169 rfl rfl
theorem mY_X0_whats : Cond.laysFinal RX0 "MoodPlayer$Diary" "whats" "[I" ∈ WW := mpw1 171 rfl rfl
theorem mY_X0_numbers : Cond.laysFinal RX0 "MoodPlayer$Diary" "numbers" "[I" ∈ WW := mpw1 173 rfl rfl
theorem mY_X0_eldest : Cond.lays RX0 "MoodPlayer$Diary" "eldest" "I" ∈ WW := mpw1 175 rfl rfl
theorem mY_X0_count : Cond.lays RX0 "MoodPlayer$Diary" "count" "I" ∈ WW := mpw1 177 rfl rfl
theorem mG_X5_36 : Cond.classLink RX5 36 "MoodPlayer$Table" ∈ WW := mpw1 181 rfl rfl
theorem mA_X4 : Cond.instantiable RX4 2 ∈ WW := mpw1 182 rfl rfl
theorem mI_X4_init : Cond.instanceMethod yX4_init ∈ WW := mpw1 184 rfl rfl
theorem mC_X4_init : Cond.code yX4_init cX4_init 1 none ∈ WW := mpw1 185 rfl rfl
theorem mM_X4_3 : Cond.methodLink RX4 3 ⟨"java/lang/Object", "<init>", "()V"⟩ ∈ WW := mpw1 186 rfl rfl
theorem mF_X4_9 : Cond.fieldLink RX4 9 "MoodPlayer$Table" "least" "[J" ∈ WW := mpw1 187 rfl rfl
theorem mF_X5_133 : Cond.fieldLink RX5 133 "MoodPlayer$Table" "least" "[J" ∈ WW := mpw1 188 rfl rfl
theorem mF_X1_114 : Cond.fieldLink RX1 114 "MoodPlayer$Table" "least" "[J" ∈ WW := mpw1 189 rfl rfl
theorem mF_X4_15 : Cond.fieldLink RX4 15 "MoodPlayer$Table" "steps" "[I" ∈ WW := mpw1 190 rfl rfl
theorem mF_X1_94 : Cond.fieldLink RX1 94 "MoodPlayer$Table" "steps" "[I" ∈ WW := mpw1 191 rfl rfl
theorem mY_X4_least : Cond.laysFinal RX4 "MoodPlayer$Table" "least" "[J" ∈ WW := mpw1 192 rfl rfl
theorem mY_X4_steps : Cond.laysFinal RX4 "MoodPlayer$Table" "steps" "[I" ∈ WW := mpw1 194 rfl rfl
theorem mG_X5_43 : Cond.classLink RX5 43 "MoodPlayer$Guide" ∈ WW := mpw1 197 rfl rfl
theorem mA_X1 : Cond.instantiable RX1 7 ∈ WW := mpw1 198 rfl rfl
theorem mM_X5_45 : Cond.methodLink RX5 45 yX1_init ∈ WW := mpw1 199 rfl rfl
theorem mI_X1_init : Cond.instanceMethod yX1_init ∈ WW := mpw1 200 rfl rfl
theorem mC_X1_init : Cond.code yX1_init cX1_init 3 none ∈ WW := mpw1 201 rfl rfl
theorem mM_X1_3 : Cond.methodLink RX1 3 ⟨"java/lang/Object", "<init>", "()V"⟩ ∈ WW := mpw1 202 rfl rfl
theorem mG_X1_9 : Cond.classLink RX1 9 "MoodPlayer$Table" ∈ WW := mpw1 203 rfl rfl
theorem mF_X1_26 : Cond.fieldLink RX1 26 "MoodPlayer$Guide" "score" "LMoodPlayer$Score;" ∈ WW := mpw1 205 rfl rfl
theorem mF_X1_30 : Cond.fieldLink RX1 30 "MoodPlayer$Guide" "state" "LMoodPlayer$State;" ∈ WW := mpw1 206 rfl rfl
theorem mF_X1_12 : Cond.fieldLink RX1 12 "MoodPlayer$Guide" "table" "LMoodPlayer$Table;" ∈ WW := mpw1 207 rfl rfl
theorem mF_X1_18 : Cond.fieldLink RX1 18 "MoodPlayer$Guide" "tableMood" "I" ∈ WW := mpw1 208 rfl rfl
theorem mF_X1_22 : Cond.fieldLink RX1 22 "MoodPlayer$Guide" "steps" "[I" ∈ WW := mpw1 209 rfl rfl
theorem mF_X1_34 : Cond.fieldLink RX1 34 "MoodPlayer$Guide" "length" "I" ∈ WW := mpw1 210 rfl rfl
theorem mF_X1_37 : Cond.fieldLink RX1 37 "MoodPlayer$Guide" "taken" "I" ∈ WW := mpw1 211 rfl rfl
theorem mY_X1_score : Cond.laysFinal RX1 "MoodPlayer$Guide" "score" "LMoodPlayer$Score;" ∈ WW := mpw1 212 rfl rfl
theorem mY_X1_state : Cond.laysFinal RX1 "MoodPlayer$Guide" "state" "LMoodPlayer$State;" ∈ WW := mpw1 214 rfl rfl
theorem mY_X1_table : Cond.laysFinal RX1 "MoodPlayer$Guide" "table" "LMoodPlayer$Table;" ∈ WW := mpw1 216 rfl rfl
theorem mY_X1_tableMood : Cond.lays RX1 "MoodPlayer$Guide" "tableMood" "I" ∈ WW := mpw1 218 rfl rfl
theorem mY_X1_steps : Cond.laysFinal RX1 "MoodPlayer$Guide" "steps" "[I" ∈ WW := mpw1 220 rfl rfl
theorem mY_X1_length : Cond.lays RX1 "MoodPlayer$Guide" "length" "I" ∈ WW := mpw1 222 rfl rfl
theorem mY_X1_taken : Cond.lays RX1 "MoodPlayer$Guide" "taken" "I" ∈ WW := mpw1 224 rfl rfl
theorem mF_X5_12 : Cond.fieldLink RX5 12 "MoodPlayer" "score" "LMoodPlayer$Score;" ∈ WW := mpw1 227 rfl rfl
theorem mF_X5_19 : Cond.fieldLink RX5 19 "MoodPlayer" "state" "LMoodPlayer$State;" ∈ WW := mpw1 228 rfl rfl
theorem mF_X5_23 : Cond.fieldLink RX5 23 "MoodPlayer" "slots" "[LMoodPlayer$State;" ∈ WW := mpw1 229 rfl rfl
theorem mF_X5_32 : Cond.fieldLink RX5 32 "MoodPlayer" "diary" "LMoodPlayer$Diary;" ∈ WW := mpw1 230 rfl rfl
theorem mF_X5_39 : Cond.fieldLink RX5 39 "MoodPlayer" "times" "LMoodPlayer$Table;" ∈ WW := mpw1 231 rfl rfl
theorem mF_X5_48 : Cond.fieldLink RX5 48 "MoodPlayer" "guide" "LMoodPlayer$Guide;" ∈ WW := mpw1 232 rfl rfl
theorem mY_X5_score : Cond.laysFinal RX5 "MoodPlayer" "score" "LMoodPlayer$Score;" ∈ WW := mpw1 233 rfl rfl
theorem mY_X5_state : Cond.laysFinal RX5 "MoodPlayer" "state" "LMoodPlayer$State;" ∈ WW := mpw1 235 rfl rfl
theorem mY_X5_slots : Cond.laysFinal RX5 "MoodPlayer" "slots" "[LMoodPlayer$State;" ∈ WW := mpw1 237 rfl rfl
theorem mY_X5_diary : Cond.laysFinal RX5 "MoodPlayer" "diary" "LMoodPlayer$Diary;" ∈ WW := mpw1 239 rfl rfl
theorem mY_X5_times : Cond.laysFinal RX5 "MoodPlayer" "times" "LMoodPlayer$Table;" ∈ WW := mpw2 1 rfl rfl
theorem mY_X5_guide : Cond.laysFinal RX5 "MoodPlayer" "guide" "LMoodPlayer$Guide;" ∈ WW := mpw2 3 rfl rfl
theorem mM_L_68 : Cond.methodLink RL 68 yX5_piece ∈ WW := mpw2 6 rfl rfl
theorem mI_X5_piece : Cond.instanceMethod yX5_piece ∈ WW := mpw2 7 rfl rfl
theorem mS_X5_piece : Cond.selects RX5 yX5_piece yX5_piece ∈ WW := mpw2 8 rfl rfl
theorem mC_X5_piece : Cond.code yX5_piece cX5_piece 7 (some .int) ∈ WW := mpw2 9 rfl rfl
theorem mM_X5_52 : Cond.methodLink RX5 52 yX2_addPiece ∈ WW := mpw2 10 rfl rfl
theorem mI_X2_addPiece : Cond.instanceMethod yX2_addPiece ∈ WW := mpw2 11 rfl rfl
theorem mS_X2_addPiece : Cond.selects RX2 yX2_addPiece yX2_addPiece ∈ WW := mpw2 12 rfl rfl
theorem mC_X2_addPiece : Cond.code yX2_addPiece cX2_addPiece 8 (some .int) ∈ WW := mpw2 13 rfl rfl
theorem mM_X5_56 : Cond.methodLink RX5 56 yX1_scoreChanged ∈ WW := mpw2 14 rfl rfl
theorem mI_X1_scoreChanged : Cond.instanceMethod yX1_scoreChanged ∈ WW := mpw2 15 rfl rfl
theorem mS_X1_scoreChanged : Cond.selects RX1 yX1_scoreChanged yX1_scoreChanged ∈ WW := mpw2 16 rfl rfl
theorem mC_X1_scoreChanged : Cond.code yX1_scoreChanged cX1_scoreChanged 1 none ∈ WW := mpw2 17 rfl rfl
theorem mM_X1_40 : Cond.methodLink RX1 40 yX1_findWay ∈ WW := mpw2 18 rfl rfl
theorem mI_X1_findWay : Cond.instanceMethod yX1_findWay ∈ WW := mpw2 19 rfl rfl
theorem mS_X1_findWay : Cond.selects RX1 yX1_findWay yX1_findWay ∈ WW := mpw2 20 rfl rfl
theorem mC_X1_findWay : Cond.code yX1_findWay cX1_findWay 2 none ∈ WW := mpw2 21 rfl rfl
theorem mM_X1_53 : Cond.methodLink RX1 53 yX1_forget ∈ WW := mpw2 22 rfl rfl
theorem mI_X1_forget : Cond.instanceMethod yX1_forget ∈ WW := mpw2 23 rfl rfl
theorem mS_X1_forget : Cond.selects RX1 yX1_forget yX1_forget ∈ WW := mpw2 24 rfl rfl
theorem mC_X1_forget : Cond.code yX1_forget cX1_forget 1 none ∈ WW := mpw2 25 rfl rfl
theorem mM_X1_69 : Cond.methodLink RX1 69 yX4_fill ∈ WW := mpw2 26 rfl rfl
theorem mI_X4_fill : Cond.instanceMethod yX4_fill ∈ WW := mpw2 27 rfl rfl
theorem mS_X4_fill : Cond.selects RX4 yX4_fill yX4_fill ∈ WW := mpw2 28 rfl rfl
theorem mC_X4_fill : Cond.code yX4_fill cX4_fill 7 none ∈ WW := mpw2 29 rfl rfl
theorem mM_X4_25 : Cond.methodLink RX4 25 yX2_hasMood ∈ WW := mpw2 30 rfl rfl
theorem mI_X2_hasMood : Cond.instanceMethod yX2_hasMood ∈ WW := mpw2 31 rfl rfl
theorem mS_X2_hasMood : Cond.selects RX2 yX2_hasMood yX2_hasMood ∈ WW := mpw2 32 rfl rfl
theorem mC_X2_hasMood : Cond.code yX2_hasMood cX2_hasMood 3 (some .boolean) ∈ WW := mpw2 33 rfl rfl
theorem mK_X4_29 : Cond.constantLong RX4 29 (-1) ∈ WW := mpw2 34 rfl rfl
theorem mM_X4_31 : Cond.methodLink RX4 31 yX4_improve ∈ WW := mpw2 35 rfl rfl
theorem mI_X4_improve : Cond.instanceMethod yX4_improve ∈ WW := mpw2 37 rfl rfl
theorem mC_X4_improve : Cond.code yX4_improve cX4_improve 10 (some .boolean) ∈ WW := mpw2 38 rfl rfl
theorem mM_X4_47 : Cond.methodLink RX4 47 yX2_timeTo ∈ WW := mpw2 39 rfl rfl
theorem mI_X2_timeTo : Cond.instanceMethod yX2_timeTo ∈ WW := mpw2 40 rfl rfl
theorem mS_X2_timeTo : Cond.selects RX2 yX2_timeTo yX2_timeTo ∈ WW := mpw2 41 rfl rfl
theorem mC_X2_timeTo : Cond.code yX2_timeTo cX2_timeTo 2 (some .long) ∈ WW := mpw2 42 rfl rfl
theorem mM_X4_51 : Cond.methodLink RX4 51 yX4_isBetter ∈ WW := mpw2 43 rfl rfl
theorem mT_X4_isBetter : Cond.static yX4_isBetter ∈ WW := mpw2 44 rfl rfl
theorem mC_X4_isBetter : Cond.code yX4_isBetter cX4_isBetter 6 (some .boolean) ∈ WW := mpw2 45 rfl rfl
theorem mM_X1_73 : Cond.methodLink RX1 73 yX1_firstStep ∈ WW := mpw2 46 rfl rfl
theorem mI_X1_firstStep : Cond.instanceMethod yX1_firstStep ∈ WW := mpw2 48 rfl rfl
theorem mC_X1_firstStep : Cond.code yX1_firstStep cX1_firstStep 10 (some .int) ∈ WW := mpw2 49 rfl rfl
theorem mK_X1_47 : Cond.constantLong RX1 47 (-1) ∈ WW := mpw2 50 rfl rfl
theorem mM_X1_90 : Cond.methodLink RX1 90 yX1_isOpen ∈ WW := mpw2 51 rfl rfl
theorem mI_X1_isOpen : Cond.instanceMethod yX1_isOpen ∈ WW := mpw2 53 rfl rfl
theorem mC_X1_isOpen : Cond.code yX1_isOpen cX1_isOpen 2 (some .boolean) ∈ WW := mpw2 54 rfl rfl
theorem mM_X1_49 : Cond.methodLink RX1 49 yX1_costBy ∈ WW := mpw2 55 rfl rfl
theorem mI_X1_costBy : Cond.instanceMethod yX1_costBy ∈ WW := mpw2 57 rfl rfl
theorem mC_X1_costBy : Cond.code yX1_costBy cX1_costBy 10 (some .long) ∈ WW := mpw2 58 rfl rfl
theorem mM_X1_81 : Cond.methodLink RX1 81 yX1_pieceBehind ∈ WW := mpw2 59 rfl rfl
theorem mI_X1_pieceBehind : Cond.instanceMethod yX1_pieceBehind ∈ WW := mpw2 61 rfl rfl
theorem mC_X1_pieceBehind : Cond.code yX1_pieceBehind cX1_pieceBehind 2 (some .int) ∈ WW := mpw2 62 rfl rfl
theorem mM_X1_127 : Cond.methodLink RX1 127 yX3_beatOver ∈ WW := mpw2 63 rfl rfl
theorem mI_X3_beatOver : Cond.instanceMethod yX3_beatOver ∈ WW := mpw2 64 rfl rfl
theorem mS_X3_beatOver : Cond.selects RX3 yX3_beatOver yX3_beatOver ∈ WW := mpw2 65 rfl rfl
theorem mC_X3_beatOver : Cond.code yX3_beatOver cX3_beatOver 1 (some .long) ∈ WW := mpw2 66 rfl rfl
theorem mM_X1_95 : Cond.methodLink RX1 95 yX4_isBetter ∈ WW := mpw2 67 rfl rfl
theorem mM_X1_77 : Cond.methodLink RX1 77 yX1_addStep ∈ WW := mpw2 68 rfl rfl
theorem mI_X1_addStep : Cond.instanceMethod yX1_addStep ∈ WW := mpw2 70 rfl rfl
theorem mC_X1_addStep : Cond.code yX1_addStep cX1_addStep 2 none ∈ WW := mpw2 71 rfl rfl
theorem mM_X1_84 : Cond.methodLink RX1 84 yX1_followTable ∈ WW := mpw2 72 rfl rfl
theorem mI_X1_followTable : Cond.instanceMethod yX1_followTable ∈ WW := mpw2 74 rfl rfl
theorem mC_X1_followTable : Cond.code yX1_followTable cX1_followTable 5 none ∈ WW := mpw2 75 rfl rfl
theorem mM_X1_131 : Cond.methodLink RX1 131 yX1_firstOnTable ∈ WW := mpw2 76 rfl rfl
theorem mI_X1_firstOnTable : Cond.instanceMethod yX1_firstOnTable ∈ WW := mpw2 78 rfl rfl
theorem mC_X1_firstOnTable : Cond.code yX1_firstOnTable cX1_firstOnTable 6 (some .int) ∈ WW := mpw2 79 rfl rfl
theorem mM_X1_134 : Cond.methodLink RX1 134 yX2_timeTo ∈ WW := mpw2 80 rfl rfl
theorem mM_L_94 : Cond.methodLink RL 94 yX5_leave ∈ WW := mpw2 81 rfl rfl
theorem mI_X5_leave : Cond.instanceMethod yX5_leave ∈ WW := mpw2 82 rfl rfl
theorem mS_X5_leave : Cond.selects RX5 yX5_leave yX5_leave ∈ WW := mpw2 83 rfl rfl
theorem mC_X5_leave : Cond.code yX5_leave cX5_leave 2 (some .int) ∈ WW := mpw2 84 rfl rfl
theorem mM_X5_107 : Cond.methodLink RX5 107 yX1_forget ∈ WW := mpw2 85 rfl rfl
theorem mM_L_101 : Cond.methodLink RL 101 yX5_cost ∈ WW := mpw2 86 rfl rfl
theorem mI_X5_cost : Cond.instanceMethod yX5_cost ∈ WW := mpw2 87 rfl rfl
theorem mS_X5_cost : Cond.selects RX5 yX5_cost yX5_cost ∈ WW := mpw2 88 rfl rfl
theorem mC_X5_cost : Cond.code yX5_cost cX5_cost 1 (some .long) ∈ WW := mpw2 89 rfl rfl
theorem mM_X5_122 : Cond.methodLink RX5 122 yX1_costLeft ∈ WW := mpw2 90 rfl rfl
theorem mI_X1_costLeft : Cond.instanceMethod yX1_costLeft ∈ WW := mpw2 91 rfl rfl
theorem mS_X1_costLeft : Cond.selects RX1 yX1_costLeft yX1_costLeft ∈ WW := mpw2 92 rfl rfl
theorem mC_X1_costLeft : Cond.code yX1_costLeft cX1_costLeft 2 (some .long) ∈ WW := mpw2 93 rfl rfl
theorem mM_X1_43 : Cond.methodLink RX1 43 yX1_stepAt ∈ WW := mpw2 94 rfl rfl
theorem mI_X1_stepAt : Cond.instanceMethod yX1_stepAt ∈ WW := mpw2 95 rfl rfl
theorem mS_X1_stepAt : Cond.selects RX1 yX1_stepAt yX1_stepAt ∈ WW := mpw2 96 rfl rfl
theorem mC_X1_stepAt : Cond.code yX1_stepAt cX1_stepAt 3 (some .int) ∈ WW := mpw2 97 rfl rfl
theorem mM_L_73 : Cond.methodLink RL 73 yL_joint ∈ WW := mpw2 98 rfl rfl
theorem mT_L_joint : Cond.static yL_joint ∈ WW := mpw2 99 rfl rfl
theorem mG_L_13 : Cond.classLink RL 13 "java/util/NoSuchElementException" ∈ WW := mpw2 101 rfl rfl
theorem mM_L_7 : Cond.methodLink RL 7 yX5_joint ∈ WW := mpw2 102 rfl rfl
theorem mI_X5_joint : Cond.instanceMethod yX5_joint ∈ WW := mpw2 103 rfl rfl
theorem mS_X5_joint : Cond.selects RX5 yX5_joint yX5_joint ∈ WW := mpw2 104 rfl rfl
theorem mC_X5_joint : Cond.code yX5_joint cX5_joint 6 (some .int) ∈ WW := mpw2 105 rfl rfl
theorem mM_X5_59 : Cond.methodLink RX5 59 yX5_checkPiece ∈ WW := mpw2 106 rfl rfl
theorem mI_X5_checkPiece : Cond.instanceMethod yX5_checkPiece ∈ WW := mpw2 108 rfl rfl
theorem mC_X5_checkPiece : Cond.code yX5_checkPiece cX5_checkPiece 2 none ∈ WW := mpw2 109 rfl rfl
theorem mM_X5_227 : Cond.methodLink RX5 227 yX2_isPiece ∈ WW := mpw2 110 rfl rfl
theorem mI_X2_isPiece : Cond.instanceMethod yX2_isPiece ∈ WW := mpw2 111 rfl rfl
theorem mS_X2_isPiece : Cond.selects RX2 yX2_isPiece yX2_isPiece ∈ WW := mpw2 112 rfl rfl
theorem mC_X2_isPiece : Cond.code yX2_isPiece cX2_isPiece 2 (some .boolean) ∈ WW := mpw2 113 rfl rfl
theorem mG_X5_113 : Cond.classLink RX5 113 "java/util/NoSuchElementException" ∈ WW := mpw2 114 rfl rfl
theorem mI_Throwable__init___V : Cond.instanceMethod ⟨"java/lang/Throwable", "<init>", "()V"⟩ ∈ WW := mpw2 137 rfl rfl
theorem mC_Throwable__init___V : Cond.code ({ cls := "java/lang/Throwable", name := "<init>", desc := "()V" } : Jvm.MethodName) prog_15_method_1_code (1 : Nat) (Option.none : Option Jvm.ClassFile.FieldType) ∈ WW := mpw2 138 rfl rfl
theorem mI_Throwable_fillInStackTrace__Ljava_lang_Throwable : Cond.instanceMethod ⟨"java/lang/Throwable", "fillInStackTrace", "()Ljava/lang/Throwable;"⟩ ∈ WW := mpw2 145 rfl rfl
theorem mI_Throwable_fillInStackTrace_I_Ljava_lang_Throwable : Cond.instanceMethod ⟨"java/lang/Throwable", "fillInStackTrace", "(I)Ljava/lang/Throwable;"⟩ ∈ WW := mpw2 151 rfl rfl
theorem mV_Throwable_fillInStackTrace_I_Ljava_lang_Throwable : Cond.native ⟨"java/lang/Throwable", "fillInStackTrace", "(I)Ljava/lang/Throwable;"⟩ ∈ WW := mpw2 153 rfl rfl
theorem mM_X5_117 : Cond.methodLink RX5 117 ⟨"java/util/NoSuchElementException", "<init>", "(Ljava/lang/String;)V"⟩ ∈ WW := mpw2 155 rfl rfl
theorem mI_NoSuchElementException__init__Ljava_lang_String__V : Cond.instanceMethod ⟨"java/util/NoSuchElementException", "<init>", "(Ljava/lang/String;)V"⟩ ∈ WW := mpw2 156 rfl rfl
theorem mC_NoSuchElementException__init__Ljava_lang_String__V : Cond.code ({ cls := "java/util/NoSuchElementException", name := "<init>", desc := "(Ljava/lang/String;)V" } : Jvm.MethodName) prog_17_method_4_code (2 : Nat) (Option.none : Option Jvm.ClassFile.FieldType) ∈ WW := mpw2 157 rfl rfl
theorem mI_RuntimeException__init__Ljava_lang_String__V : Cond.instanceMethod ⟨"java/lang/RuntimeException", "<init>", "(Ljava/lang/String;)V"⟩ ∈ WW := mpw2 159 rfl rfl
theorem mC_RuntimeException__init__Ljava_lang_String__V : Cond.code ({ cls := "java/lang/RuntimeException", name := "<init>", desc := "(Ljava/lang/String;)V" } : Jvm.MethodName) prog_12_method_2_code (2 : Nat) (Option.none : Option Jvm.ClassFile.FieldType) ∈ WW := mpw2 160 rfl rfl
theorem mI_Exception__init__Ljava_lang_String__V : Cond.instanceMethod ⟨"java/lang/Exception", "<init>", "(Ljava/lang/String;)V"⟩ ∈ WW := mpw2 162 rfl rfl
theorem mC_Exception__init__Ljava_lang_String__V : Cond.code ({ cls := "java/lang/Exception", name := "<init>", desc := "(Ljava/lang/String;)V" } : Jvm.MethodName) prog_9_method_2_code (2 : Nat) (Option.none : Option Jvm.ClassFile.FieldType) ∈ WW := mpw2 163 rfl rfl
theorem mI_Throwable__init__Ljava_lang_String__V : Cond.instanceMethod ⟨"java/lang/Throwable", "<init>", "(Ljava/lang/String;)V"⟩ ∈ WW := mpw2 165 rfl rfl
theorem mC_Throwable__init__Ljava_lang_String__V : Cond.code ({ cls := "java/lang/Throwable", name := "<init>", desc := "(Ljava/lang/String;)V" } : Jvm.MethodName) prog_15_method_2_code (2 : Nat) (Option.none : Option Jvm.ClassFile.FieldType) ∈ WW := mpw2 166 rfl rfl
theorem mM_X5_63 : Cond.methodLink RX5 63 yX2_addJoint ∈ WW := mpw2 181 rfl rfl
theorem mI_X2_addJoint : Cond.instanceMethod yX2_addJoint ∈ WW := mpw2 182 rfl rfl
theorem mS_X2_addJoint : Cond.selects RX2 yX2_addJoint yX2_addJoint ∈ WW := mpw2 183 rfl rfl
theorem mC_X2_addJoint : Cond.code yX2_addJoint cX2_addJoint 6 (some .int) ∈ WW := mpw2 184 rfl rfl
theorem mM_X2_46 : Cond.methodLink RX2 46 yX2_canPlay ∈ WW := mpw2 185 rfl rfl
theorem mI_X2_canPlay : Cond.instanceMethod yX2_canPlay ∈ WW := mpw2 186 rfl rfl
theorem mS_X2_canPlay : Cond.selects RX2 yX2_canPlay yX2_canPlay ∈ WW := mpw2 187 rfl rfl
theorem mC_X2_canPlay : Cond.code yX2_canPlay cX2_canPlay 2 (some .boolean) ∈ WW := mpw2 188 rfl rfl
theorem mM_X2_57 : Cond.methodLink RX2 57 yX2_isPiece ∈ WW := mpw2 189 rfl rfl
theorem mM_X2_53 : Cond.methodLink RX2 53 yX2_isJoint ∈ WW := mpw2 190 rfl rfl
theorem mI_X2_isJoint : Cond.instanceMethod yX2_isJoint ∈ WW := mpw2 192 rfl rfl
theorem mC_X2_isJoint : Cond.code yX2_isJoint cX2_isJoint 5 (some .boolean) ∈ WW := mpw2 193 rfl rfl
theorem mM_L_83 : Cond.methodLink RL 83 yL_price ∈ WW := mpw2 194 rfl rfl
theorem mT_L_price : Cond.static yL_price ∈ WW := mpw2 195 rfl rfl
theorem mG_L_19 : Cond.classLink RL 19 "java/lang/IllegalArgumentException" ∈ WW := mpw2 197 rfl rfl
theorem mM_L_15 : Cond.methodLink RL 15 yX5_price ∈ WW := mpw2 198 rfl rfl
theorem mI_X5_price : Cond.instanceMethod yX5_price ∈ WW := mpw2 199 rfl rfl
theorem mS_X5_price : Cond.selects RX5 yX5_price yX5_price ∈ WW := mpw2 200 rfl rfl
theorem mC_X5_price : Cond.code yX5_price cX5_price 4 (some .int) ∈ WW := mpw2 201 rfl rfl
theorem mG_X5_67 : Cond.classLink RX5 67 "java/lang/IllegalArgumentException" ∈ WW := mpw2 202 rfl rfl
theorem mM_X5_71 : Cond.methodLink RX5 71 ⟨"java/lang/IllegalArgumentException", "<init>", "(Ljava/lang/String;)V"⟩ ∈ WW := mpw2 212 rfl rfl
theorem mI_IllegalArgumentException__init__Ljava_lang_String__V : Cond.instanceMethod ⟨"java/lang/IllegalArgumentException", "<init>", "(Ljava/lang/String;)V"⟩ ∈ WW := mpw2 213 rfl rfl
theorem mC_IllegalArgumentException__init__Ljava_lang_String__V : Cond.code ({ cls := "java/lang/IllegalArgumentException", name := "<init>", desc := "(Ljava/lang/String;)V" } : Jvm.MethodName) prog_10_method_2_code (2 : Nat) (Option.none : Option Jvm.ClassFile.FieldType) ∈ WW := mpw2 214 rfl rfl
theorem mM_L_87 : Cond.methodLink RL 87 yL_play ∈ WW := mpw2 218 rfl rfl
theorem mT_L_play : Cond.static yL_play ∈ WW := mpw2 219 rfl rfl
theorem mM_L_21 : Cond.methodLink RL 21 yX5_play ∈ WW := mpw2 221 rfl rfl
theorem mI_X5_play : Cond.instanceMethod yX5_play ∈ WW := mpw2 222 rfl rfl
theorem mS_X5_play : Cond.selects RX5 yX5_play yX5_play ∈ WW := mpw2 223 rfl rfl
theorem mC_X5_play : Cond.code yX5_play cX5_play 2 (some .boolean) ∈ WW := mpw2 224 rfl rfl
theorem mM_X5_78 : Cond.methodLink RX5 78 yX2_canPlay ∈ WW := mpw2 225 rfl rfl
theorem mM_X5_82 : Cond.methodLink RX5 82 yX0_add ∈ WW := mpw2 226 rfl rfl
theorem mI_X0_add : Cond.instanceMethod yX0_add ∈ WW := mpw2 227 rfl rfl
theorem mS_X0_add : Cond.selects RX0 yX0_add yX0_add ∈ WW := mpw2 228 rfl rfl
theorem mC_X0_add : Cond.code yX0_add cX0_add 4 none ∈ WW := mpw2 229 rfl rfl
theorem mM_X5_86 : Cond.methodLink RX5 86 yX5_begin ∈ WW := mpw2 230 rfl rfl
theorem mI_X5_begin : Cond.instanceMethod yX5_begin ∈ WW := mpw2 232 rfl rfl
theorem mC_X5_begin : Cond.code yX5_begin cX5_begin 3 none ∈ WW := mpw2 233 rfl rfl
theorem mM_X5_99 : Cond.methodLink RX5 99 yX5_meetMood ∈ WW := mpw2 234 rfl rfl
theorem mI_X5_meetMood : Cond.instanceMethod yX5_meetMood ∈ WW := mpw2 236 rfl rfl
theorem mC_X5_meetMood : Cond.code yX5_meetMood cX5_meetMood 1 (some .boolean) ∈ WW := mpw2 237 rfl rfl
theorem mM_X5_294 : Cond.methodLink RX5 294 yX2_hasMood ∈ WW := mpw2 238 rfl rfl
theorem mM_X5_89 : Cond.methodLink RX5 89 yX1_findWay ∈ WW := mpw2 239 rfl rfl
theorem mM_L_91 : Cond.methodLink RL 91 yL_ask ∈ WW := mpw3 0 rfl rfl
theorem mT_L_ask : Cond.static yL_ask ∈ WW := mpw3 1 rfl rfl
theorem mM_L_25 : Cond.methodLink RL 25 yX5_ask ∈ WW := mpw3 3 rfl rfl
theorem mI_X5_ask : Cond.instanceMethod yX5_ask ∈ WW := mpw3 4 rfl rfl
theorem mS_X5_ask : Cond.selects RX5 yX5_ask yX5_ask ∈ WW := mpw3 5 rfl rfl
theorem mC_X5_ask : Cond.code yX5_ask cX5_ask 2 (some .int) ∈ WW := mpw3 6 rfl rfl
theorem mM_X5_92 : Cond.methodLink RX5 92 yX5_checkMood ∈ WW := mpw3 7 rfl rfl
theorem mI_X5_checkMood : Cond.instanceMethod yX5_checkMood ∈ WW := mpw3 9 rfl rfl
theorem mC_X5_checkMood : Cond.code yX5_checkMood cX5_checkMood 2 none ∈ WW := mpw3 10 rfl rfl
theorem mM_X5_103 : Cond.methodLink RX5 103 yX5_stepsLeft ∈ WW := mpw3 12 rfl rfl
theorem mI_X5_stepsLeft : Cond.instanceMethod yX5_stepsLeft ∈ WW := mpw3 14 rfl rfl
theorem mC_X5_stepsLeft : Cond.code yX5_stepsLeft cX5_stepsLeft 2 (some .int) ∈ WW := mpw3 15 rfl rfl
theorem mM_X5_110 : Cond.methodLink RX5 110 yX1_left ∈ WW := mpw3 16 rfl rfl
theorem mI_X1_left : Cond.instanceMethod yX1_left ∈ WW := mpw3 17 rfl rfl
theorem mS_X1_left : Cond.selects RX1 yX1_left yX1_left ∈ WW := mpw3 18 rfl rfl
theorem mC_X1_left : Cond.code yX1_left cX1_left 1 (some .int) ∈ WW := mpw3 19 rfl rfl
theorem mM_L_98 : Cond.methodLink RL 98 yL_way ∈ WW := mpw3 20 rfl rfl
theorem mT_L_way : Cond.static yL_way ∈ WW := mpw3 21 rfl rfl
theorem mM_L_29 : Cond.methodLink RL 29 yX5_way ∈ WW := mpw3 23 rfl rfl
theorem mI_X5_way : Cond.instanceMethod yX5_way ∈ WW := mpw3 24 rfl rfl
theorem mS_X5_way : Cond.selects RX5 yX5_way yX5_way ∈ WW := mpw3 25 rfl rfl
theorem mC_X5_way : Cond.code yX5_way cX5_way 2 (some .int) ∈ WW := mpw3 26 rfl rfl
theorem mM_X5_118 : Cond.methodLink RX5 118 yX1_stepAt ∈ WW := mpw3 28 rfl rfl
theorem mM_L_106 : Cond.methodLink RL 106 yL_reach ∈ WW := mpw3 29 rfl rfl
theorem mT_L_reach : Cond.static yL_reach ∈ WW := mpw3 30 rfl rfl
theorem mM_L_32 : Cond.methodLink RL 32 yX5_reach ∈ WW := mpw3 32 rfl rfl
theorem mI_X5_reach : Cond.instanceMethod yX5_reach ∈ WW := mpw3 33 rfl rfl
theorem mS_X5_reach : Cond.selects RX5 yX5_reach yX5_reach ∈ WW := mpw3 34 rfl rfl
theorem mC_X5_reach : Cond.code yX5_reach cX5_reach 3 (some .long) ∈ WW := mpw3 35 rfl rfl
theorem mM_X5_126 : Cond.methodLink RX5 126 yX5_checkPlayable ∈ WW := mpw3 36 rfl rfl
theorem mI_X5_checkPlayable : Cond.instanceMethod yX5_checkPlayable ∈ WW := mpw3 38 rfl rfl
theorem mC_X5_checkPlayable : Cond.code yX5_checkPlayable cX5_checkPlayable 2 none ∈ WW := mpw3 39 rfl rfl
theorem mM_X5_129 : Cond.methodLink RX5 129 yX4_fill ∈ WW := mpw3 41 rfl rfl
theorem mM_L_109 : Cond.methodLink RL 109 yL_lacks ∈ WW := mpw3 42 rfl rfl
theorem mT_L_lacks : Cond.static yL_lacks ∈ WW := mpw3 43 rfl rfl
theorem mM_L_36 : Cond.methodLink RL 36 yX5_lacks ∈ WW := mpw3 45 rfl rfl
theorem mI_X5_lacks : Cond.instanceMethod yX5_lacks ∈ WW := mpw3 46 rfl rfl
theorem mS_X5_lacks : Cond.selects RX5 yX5_lacks yX5_lacks ∈ WW := mpw3 47 rfl rfl
theorem mC_X5_lacks : Cond.code yX5_lacks cX5_lacks 4 (some .int) ∈ WW := mpw3 48 rfl rfl
theorem mM_X5_137 : Cond.methodLink RX5 137 yX2_firstWithMood ∈ WW := mpw3 49 rfl rfl
theorem mI_X2_firstWithMood : Cond.instanceMethod yX2_firstWithMood ∈ WW := mpw3 50 rfl rfl
theorem mS_X2_firstWithMood : Cond.selects RX2 yX2_firstWithMood yX2_firstWithMood ∈ WW := mpw3 51 rfl rfl
theorem mC_X2_firstWithMood : Cond.code yX2_firstWithMood cX2_firstWithMood 3 (some .int) ∈ WW := mpw3 52 rfl rfl
theorem mM_X2_60 : Cond.methodLink RX2 60 yX2_hasMood ∈ WW := mpw3 53 rfl rfl
theorem mK_X5_140 : Cond.constantLong RX5 140 (-1) ∈ WW := mpw3 54 rfl rfl
theorem mM_X5_142 : Cond.methodLink RX5 142 yX2_firstComeTo ∈ WW := mpw3 55 rfl rfl
theorem mI_X2_firstComeTo : Cond.instanceMethod yX2_firstComeTo ∈ WW := mpw3 56 rfl rfl
theorem mS_X2_firstComeTo : Cond.selects RX2 yX2_firstComeTo yX2_firstComeTo ∈ WW := mpw3 57 rfl rfl
theorem mC_X2_firstComeTo : Cond.code yX2_firstComeTo cX2_firstComeTo 7 (some .int) ∈ WW := mpw3 58 rfl rfl
theorem mM_L_112 : Cond.methodLink RL 112 yL_layer ∈ WW := mpw3 59 rfl rfl
theorem mT_L_layer : Cond.static yL_layer ∈ WW := mpw3 60 rfl rfl
theorem mM_L_39 : Cond.methodLink RL 39 yX5_layer ∈ WW := mpw3 62 rfl rfl
theorem mI_X5_layer : Cond.instanceMethod yX5_layer ∈ WW := mpw3 63 rfl rfl
theorem mS_X5_layer : Cond.selects RX5 yX5_layer yX5_layer ∈ WW := mpw3 64 rfl rfl
theorem mC_X5_layer : Cond.code yX5_layer cX5_layer 4 (some .int) ∈ WW := mpw3 65 rfl rfl
theorem mM_L_115 : Cond.methodLink RL 115 yL_sting ∈ WW := mpw3 66 rfl rfl
theorem mT_L_sting : Cond.static yL_sting ∈ WW := mpw3 67 rfl rfl
theorem mM_L_42 : Cond.methodLink RL 42 yX5_sting ∈ WW := mpw3 69 rfl rfl
theorem mI_X5_sting : Cond.instanceMethod yX5_sting ∈ WW := mpw3 70 rfl rfl
theorem mS_X5_sting : Cond.selects RX5 yX5_sting yX5_sting ∈ WW := mpw3 71 rfl rfl
theorem mC_X5_sting : Cond.code yX5_sting cX5_sting 2 (some .int) ∈ WW := mpw3 72 rfl rfl
theorem mM_L_118 : Cond.methodLink RL 118 yL_go ∈ WW := mpw3 73 rfl rfl
theorem mT_L_go : Cond.static yL_go ∈ WW := mpw3 74 rfl rfl
theorem mM_L_45 : Cond.methodLink RL 45 yX5_go ∈ WW := mpw3 76 rfl rfl
theorem mI_X5_go : Cond.instanceMethod yX5_go ∈ WW := mpw3 77 rfl rfl
theorem mS_X5_go : Cond.selects RX5 yX5_go yX5_go ∈ WW := mpw3 78 rfl rfl
theorem mC_X5_go : Cond.code yX5_go cX5_go 7 (some .long) ∈ WW := mpw3 79 rfl rfl
theorem mM_X5_163 : Cond.methodLink RX5 163 yX5_nextMoment ∈ WW := mpw3 81 rfl rfl
theorem mI_X5_nextMoment : Cond.instanceMethod yX5_nextMoment ∈ WW := mpw3 83 rfl rfl
theorem mC_X5_nextMoment : Cond.code yX5_nextMoment cX5_nextMoment 3 (some .long) ∈ WW := mpw3 84 rfl rfl
theorem mK_X5_246 : Cond.constantLong RX5 246 (9223372036854775807) ∈ WW := mpw3 85 rfl rfl
theorem mM_X5_178 : Cond.methodLink RX5 178 yX5_beatEnd ∈ WW := mpw3 86 rfl rfl
theorem mI_X5_beatEnd : Cond.instanceMethod yX5_beatEnd ∈ WW := mpw3 88 rfl rfl
theorem mC_X5_beatEnd : Cond.code yX5_beatEnd cX5_beatEnd 1 (some .long) ∈ WW := mpw3 89 rfl rfl
theorem mM_X5_248 : Cond.methodLink RX5 248 yJ9_min_f86c9 ∈ WW := mpw3 90 rfl rfl
theorem mT_J9_min_f86c9 : Cond.static yJ9_min_f86c9 ∈ WW := mpw3 91 rfl rfl
theorem mC_J9_min_f86c9 : Cond.code yJ9_min_f86c9 cJ9_min_f86c9 4 (some .long) ∈ WW := mpw3 92 rfl rfl
theorem mM_X5_172 : Cond.methodLink RX5 172 yX5_endSting ∈ WW := mpw3 93 rfl rfl
theorem mI_X5_endSting : Cond.instanceMethod yX5_endSting ∈ WW := mpw3 95 rfl rfl
theorem mC_X5_endSting : Cond.code yX5_endSting cX5_endSting 1 none ∈ WW := mpw3 96 rfl rfl
theorem mM_X5_181 : Cond.methodLink RX5 181 yX5_endBeat ∈ WW := mpw3 97 rfl rfl
theorem mI_X5_endBeat : Cond.instanceMethod yX5_endBeat ∈ WW := mpw3 99 rfl rfl
theorem mC_X5_endBeat : Cond.code yX5_endBeat cX5_endBeat 3 none ∈ WW := mpw3 100 rfl rfl
theorem mM_X5_257 : Cond.methodLink RX5 257 yX5_isDue ∈ WW := mpw3 101 rfl rfl
theorem mI_X5_isDue : Cond.instanceMethod yX5_isDue ∈ WW := mpw3 103 rfl rfl
theorem mC_X5_isDue : Cond.code yX5_isDue cX5_isDue 3 (some .boolean) ∈ WW := mpw3 104 rfl rfl
theorem mM_X5_261 : Cond.methodLink RX5 261 yX1_stepTaken ∈ WW := mpw3 105 rfl rfl
theorem mI_X1_stepTaken : Cond.instanceMethod yX1_stepTaken ∈ WW := mpw3 106 rfl rfl
theorem mS_X1_stepTaken : Cond.selects RX1 yX1_stepTaken yX1_stepTaken ∈ WW := mpw3 107 rfl rfl
theorem mC_X1_stepTaken : Cond.code yX1_stepTaken cX1_stepTaken 1 none ∈ WW := mpw3 108 rfl rfl
theorem mM_X5_264 : Cond.methodLink RX5 264 yX5_takeStep ∈ WW := mpw3 109 rfl rfl
theorem mI_X5_takeStep : Cond.instanceMethod yX5_takeStep ∈ WW := mpw3 111 rfl rfl
theorem mC_X5_takeStep : Cond.code yX5_takeStep cX5_takeStep 5 none ∈ WW := mpw3 112 rfl rfl
theorem mM_X5_267 : Cond.methodLink RX5 267 yX5_endPiece ∈ WW := mpw3 113 rfl rfl
theorem mI_X5_endPiece : Cond.instanceMethod yX5_endPiece ∈ WW := mpw3 115 rfl rfl
theorem mC_X5_endPiece : Cond.code yX5_endPiece cX5_endPiece 2 none ∈ WW := mpw3 116 rfl rfl
theorem mM_X5_279 : Cond.methodLink RX5 279 yX5_stepAtEnd ∈ WW := mpw3 117 rfl rfl
theorem mI_X5_stepAtEnd : Cond.instanceMethod yX5_stepAtEnd ∈ WW := mpw3 119 rfl rfl
theorem mC_X5_stepAtEnd : Cond.code yX5_stepAtEnd cX5_stepAtEnd 4 (some .int) ∈ WW := mpw3 120 rfl rfl
theorem mM_X5_285 : Cond.methodLink RX5 285 yX2_cheapestAtEnd ∈ WW := mpw3 121 rfl rfl
theorem mI_X2_cheapestAtEnd : Cond.instanceMethod yX2_cheapestAtEnd ∈ WW := mpw3 122 rfl rfl
theorem mS_X2_cheapestAtEnd : Cond.selects RX2 yX2_cheapestAtEnd yX2_cheapestAtEnd ∈ WW := mpw3 123 rfl rfl
theorem mC_X2_cheapestAtEnd : Cond.code yX2_cheapestAtEnd cX2_cheapestAtEnd 5 (some .int) ∈ WW := mpw3 124 rfl rfl
theorem mM_X5_282 : Cond.methodLink RX5 282 yX5_fallSilent ∈ WW := mpw3 125 rfl rfl
theorem mI_X5_fallSilent : Cond.instanceMethod yX5_fallSilent ∈ WW := mpw3 127 rfl rfl
theorem mC_X5_fallSilent : Cond.code yX5_fallSilent cX5_fallSilent 1 none ∈ WW := mpw3 128 rfl rfl
theorem mM_X5_270 : Cond.methodLink RX5 270 yX5_moveLayers ∈ WW := mpw3 129 rfl rfl
theorem mI_X5_moveLayers : Cond.instanceMethod yX5_moveLayers ∈ WW := mpw3 131 rfl rfl
theorem mC_X5_moveLayers : Cond.code yX5_moveLayers cX5_moveLayers 3 none ∈ WW := mpw3 132 rfl rfl
theorem mM_X5_298 : Cond.methodLink RX5 298 yJ7_fill_53178 ∈ WW := mpw3 133 rfl rfl
theorem mT_J7_fill_53178 : Cond.static yJ7_fill_53178 ∈ WW := mpw3 134 rfl rfl
theorem mC_J7_fill_53178 : Cond.code yJ7_fill_53178 cJ7_fill_53178 4 none ∈ WW := mpw3 135 rfl rfl
theorem mM_X5_193 : Cond.methodLink RX5 193 yX3_levelsTogether ∈ WW := mpw3 136 rfl rfl
theorem mI_X3_levelsTogether : Cond.instanceMethod yX3_levelsTogether ∈ WW := mpw3 137 rfl rfl
theorem mS_X3_levelsTogether : Cond.selects RX3 yX3_levelsTogether yX3_levelsTogether ∈ WW := mpw3 138 rfl rfl
theorem mC_X3_levelsTogether : Cond.code yX3_levelsTogether cX3_levelsTogether 3 (some .int) ∈ WW := mpw3 139 rfl rfl
theorem mM_X5_303 : Cond.methodLink RX5 303 yX2_isMultiple ∈ WW := mpw3 140 rfl rfl
theorem mI_X2_isMultiple : Cond.instanceMethod yX2_isMultiple ∈ WW := mpw3 141 rfl rfl
theorem mS_X2_isMultiple : Cond.selects RX2 yX2_isMultiple yX2_isMultiple ∈ WW := mpw3 142 rfl rfl
theorem mC_X2_isMultiple : Cond.code yX2_isMultiple cX2_isMultiple 3 (some .boolean) ∈ WW := mpw3 143 rfl rfl
theorem mM_X5_306 : Cond.methodLink RX5 306 yX3_moveLevel ∈ WW := mpw3 144 rfl rfl
theorem mI_X3_moveLevel : Cond.instanceMethod yX3_moveLevel ∈ WW := mpw3 145 rfl rfl
theorem mS_X3_moveLevel : Cond.selects RX3 yX3_moveLevel yX3_moveLevel ∈ WW := mpw3 146 rfl rfl
theorem mC_X3_moveLevel : Cond.code yX3_moveLevel cX3_moveLevel 4 (some .int) ∈ WW := mpw3 147 rfl rfl
theorem mM_X5_273 : Cond.methodLink RX5 273 yX5_beginSting ∈ WW := mpw3 148 rfl rfl
theorem mI_X5_beginSting : Cond.instanceMethod yX5_beginSting ∈ WW := mpw3 150 rfl rfl
theorem mC_X5_beginSting : Cond.code yX5_beginSting cX5_beginSting 2 none ∈ WW := mpw3 151 rfl rfl
theorem mM_X5_310 : Cond.methodLink RX5 310 yX3_shiftWaiting ∈ WW := mpw3 152 rfl rfl
theorem mI_X3_shiftWaiting : Cond.instanceMethod yX3_shiftWaiting ∈ WW := mpw3 153 rfl rfl
theorem mS_X3_shiftWaiting : Cond.selects RX3 yX3_shiftWaiting yX3_shiftWaiting ∈ WW := mpw3 154 rfl rfl
theorem mC_X3_shiftWaiting : Cond.code yX3_shiftWaiting cX3_shiftWaiting 2 none ∈ WW := mpw3 155 rfl rfl
theorem mM_X5_313 : Cond.methodLink RX5 313 yX2_length ∈ WW := mpw3 156 rfl rfl
theorem mI_X2_length : Cond.instanceMethod yX2_length ∈ WW := mpw3 157 rfl rfl
theorem mS_X2_length : Cond.selects RX2 yX2_length yX2_length ∈ WW := mpw3 158 rfl rfl
theorem mC_X2_length : Cond.code yX2_length cX2_length 2 (some .long) ∈ WW := mpw3 159 rfl rfl
theorem mM_L_121 : Cond.methodLink RL 121 yL_now ∈ WW := mpw3 160 rfl rfl
theorem mT_L_now : Cond.static yL_now ∈ WW := mpw3 161 rfl rfl
theorem mM_L_49 : Cond.methodLink RL 49 yX5_now ∈ WW := mpw3 163 rfl rfl
theorem mI_X5_now : Cond.instanceMethod yX5_now ∈ WW := mpw3 164 rfl rfl
theorem mS_X5_now : Cond.selects RX5 yX5_now yX5_now ∈ WW := mpw3 165 rfl rfl
theorem mC_X5_now : Cond.code yX5_now cX5_now 2 (some .int) ∈ WW := mpw3 166 rfl rfl
theorem mM_X5_190 : Cond.methodLink RX5 190 yX3_beatOver ∈ WW := mpw3 167 rfl rfl
theorem mM_L_124 : Cond.methodLink RL 124 yL_level ∈ WW := mpw3 169 rfl rfl
theorem mT_L_level : Cond.static yL_level ∈ WW := mpw3 170 rfl rfl
theorem mM_L_52 : Cond.methodLink RL 52 yX5_level ∈ WW := mpw3 172 rfl rfl
theorem mI_X5_level : Cond.instanceMethod yX5_level ∈ WW := mpw3 173 rfl rfl
theorem mS_X5_level : Cond.selects RX5 yX5_level yX5_level ∈ WW := mpw3 174 rfl rfl
theorem mC_X5_level : Cond.code yX5_level cX5_level 2 (some .int) ∈ WW := mpw3 175 rfl rfl
theorem mM_L_127 : Cond.methodLink RL 127 yL_log ∈ WW := mpw3 176 rfl rfl
theorem mT_L_log : Cond.static yL_log ∈ WW := mpw3 177 rfl rfl
theorem mM_L_55 : Cond.methodLink RL 55 yX5_log ∈ WW := mpw3 179 rfl rfl
theorem mI_X5_log : Cond.instanceMethod yX5_log ∈ WW := mpw3 180 rfl rfl
theorem mS_X5_log : Cond.selects RX5 yX5_log yX5_log ∈ WW := mpw3 181 rfl rfl
theorem mC_X5_log : Cond.code yX5_log cX5_log 3 (some .long) ∈ WW := mpw3 182 rfl rfl
theorem mM_X5_212 : Cond.methodLink RX5 212 yX0_look ∈ WW := mpw3 184 rfl rfl
theorem mI_X0_look : Cond.instanceMethod yX0_look ∈ WW := mpw3 185 rfl rfl
theorem mS_X0_look : Cond.selects RX0 yX0_look yX0_look ∈ WW := mpw3 186 rfl rfl
theorem mC_X0_look : Cond.code yX0_look cX0_look 4 (some .long) ∈ WW := mpw3 187 rfl rfl
theorem mM_L_130 : Cond.methodLink RL 130 yL_keep ∈ WW := mpw3 188 rfl rfl
theorem mT_L_keep : Cond.static yL_keep ∈ WW := mpw3 189 rfl rfl
theorem mM_L_58 : Cond.methodLink RL 58 yX5_keep ∈ WW := mpw3 191 rfl rfl
theorem mI_X5_keep : Cond.instanceMethod yX5_keep ∈ WW := mpw3 192 rfl rfl
theorem mS_X5_keep : Cond.selects RX5 yX5_keep yX5_keep ∈ WW := mpw3 193 rfl rfl
theorem mC_X5_keep : Cond.code yX5_keep cX5_keep 4 (some .boolean) ∈ WW := mpw3 194 rfl rfl
theorem mM_X5_216 : Cond.methodLink RX5 216 yX5_slotAt ∈ WW := mpw3 195 rfl rfl
theorem mI_X5_slotAt : Cond.instanceMethod yX5_slotAt ∈ WW := mpw3 197 rfl rfl
theorem mC_X5_slotAt : Cond.code yX5_slotAt cX5_slotAt 2 (some (.object "MoodPlayer$State")) ∈ WW := mpw3 198 rfl rfl
theorem mM_X5_224 : Cond.methodLink RX5 224 yX3_copyFrom ∈ WW := mpw3 200 rfl rfl
theorem mI_X3_copyFrom : Cond.instanceMethod yX3_copyFrom ∈ WW := mpw3 201 rfl rfl
theorem mS_X3_copyFrom : Cond.selects RX3 yX3_copyFrom yX3_copyFrom ∈ WW := mpw3 202 rfl rfl
theorem mC_X3_copyFrom : Cond.code yX3_copyFrom cX3_copyFrom 2 none ∈ WW := mpw3 203 rfl rfl
theorem mM_X3_44 : Cond.methodLink RX3 44 ⟨"java/lang/System", "arraycopy", "(Ljava/lang/Object;ILjava/lang/Object;II)V"⟩ ∈ WW := mpw3 204 rfl rfl
theorem mT_System_arraycopy_Ljava_lang_Object_ILjava_lang_Object_II_V : Cond.static ⟨"java/lang/System", "arraycopy", "(Ljava/lang/Object;ILjava/lang/Object;II)V"⟩ ∈ WW := mpw3 205 rfl rfl
theorem mV_System_arraycopy_Ljava_lang_Object_ILjava_lang_Object_II_V : Cond.native ⟨"java/lang/System", "arraycopy", "(Ljava/lang/Object;ILjava/lang/Object;II)V"⟩ ∈ WW := mpw3 206 rfl rfl
theorem mM_L_133 : Cond.methodLink RL 133 yL_goOn ∈ WW := mpw3 207 rfl rfl
theorem mT_L_goOn : Cond.static yL_goOn ∈ WW := mpw3 208 rfl rfl
theorem mM_L_61 : Cond.methodLink RL 61 yX5_goOn ∈ WW := mpw3 210 rfl rfl
theorem mI_X5_goOn : Cond.instanceMethod yX5_goOn ∈ WW := mpw3 211 rfl rfl
theorem mS_X5_goOn : Cond.selects RX5 yX5_goOn yX5_goOn ∈ WW := mpw3 212 rfl rfl
theorem mC_X5_goOn : Cond.code yX5_goOn cX5_goOn 3 (some .boolean) ∈ WW := mpw3 213 rfl rfl
theorem mG_L_65 : Cond.classLink RL 65 "MoodPlayerModel" ∈ WW := mpw3 214 rfl rfl
theorem mA_X6 : Cond.instantiable RX6 31 ∈ WW := mpw3 215 rfl rfl
theorem mM_L_67 : Cond.methodLink RL 67 yX6_init ∈ WW := mpw3 216 rfl rfl
theorem mI_X6_init : Cond.instanceMethod yX6_init ∈ WW := mpw3 217 rfl rfl
theorem mC_X6_init : Cond.code yX6_init cX6_init 1 none ∈ WW := mpw3 218 rfl rfl
theorem mM_X6_1 : Cond.methodLink RX6 1 ⟨"java/lang/Object", "<init>", "()V"⟩ ∈ WW := mpw3 219 rfl rfl
theorem mK_X6_78 : Cond.constantLong RX6 78 (-1) ∈ WW := mpw3 220 rfl rfl
theorem mF_X6_80 : Cond.fieldLink RX6 80 "MoodPlayerModel" "thrown" "I" ∈ WW := mpw3 221 rfl rfl
theorem mF_X6_84 : Cond.fieldLink RX6 84 "MoodPlayerModel" "pieces" "I" ∈ WW := mpw3 222 rfl rfl
theorem mF_X6_98 : Cond.fieldLink RX6 98 "MoodPlayerModel" "joints" "I" ∈ WW := mpw3 223 rfl rfl
theorem mF_X6_7 : Cond.fieldLink RX6 7 "MoodPlayerModel" "kind" "[I" ∈ WW := mpw3 224 rfl rfl
theorem mF_X6_13 : Cond.fieldLink RX6 13 "MoodPlayerModel" "beats" "[I" ∈ WW := mpw3 225 rfl rfl
theorem mF_X6_16 : Cond.fieldLink RX6 16 "MoodPlayerModel" "beat" "[I" ∈ WW := mpw3 226 rfl rfl
theorem mF_X6_19 : Cond.fieldLink RX6 19 "MoodPlayerModel" "moods" "[I" ∈ WW := mpw3 227 rfl rfl
theorem mF_X6_22 : Cond.fieldLink RX6 22 "MoodPlayerModel" "most" "[I" ∈ WW := mpw3 228 rfl rfl
theorem mF_X6_25 : Cond.fieldLink RX6 25 "MoodPlayerModel" "from" "[I" ∈ WW := mpw3 229 rfl rfl
theorem mF_X6_28 : Cond.fieldLink RX6 28 "MoodPlayerModel" "behind" "[I" ∈ WW := mpw3 230 rfl rfl
theorem mF_X6_31 : Cond.fieldLink RX6 31 "MoodPlayerModel" "to" "[I" ∈ WW := mpw3 231 rfl rfl
theorem mF_X6_34 : Cond.fieldLink RX6 34 "MoodPlayerModel" "cost" "[I" ∈ WW := mpw3 232 rfl rfl
theorem mF_X6_37 : Cond.fieldLink RX6 37 "MoodPlayerModel" "prices" "[I" ∈ WW := mpw3 233 rfl rfl
theorem mF_X6_40 : Cond.fieldLink RX6 40 "MoodPlayerModel" "state" "[J" ∈ WW := mpw3 234 rfl rfl
theorem mF_X6_44 : Cond.fieldLink RX6 44 "MoodPlayerModel" "kept" "[J" ∈ WW := mpw3 235 rfl rfl
theorem mF_X6_154 : Cond.fieldLink RX6 154 "MoodPlayerModel" "time" "J" ∈ WW := mpw3 236 rfl rfl
theorem mF_X6_188 : Cond.fieldLink RX6 188 "MoodPlayerModel" "soundsTo" "J" ∈ WW := mpw3 237 rfl rfl
theorem mF_X6_47 : Cond.fieldLink RX6 47 "MoodPlayerModel" "keptTime" "[J" ∈ WW := mpw3 238 rfl rfl
theorem mF_X6_50 : Cond.fieldLink RX6 50 "MoodPlayerModel" "keptSounds" "[J" ∈ WW := mpw3 239 rfl rfl
theorem mF_X6_53 : Cond.fieldLink RX6 53 "MoodPlayerModel" "isKept" "[Z" ∈ WW := mpw4 0 rfl rfl
theorem mF_X6_116 : Cond.fieldLink RX6 116 "MoodPlayerModel" "hasWay" "Z" ∈ WW := mpw4 1 rfl rfl
theorem mF_X6_120 : Cond.fieldLink RX6 120 "MoodPlayerModel" "waySize" "I" ∈ WW := mpw4 2 rfl rfl
theorem mF_X6_123 : Cond.fieldLink RX6 123 "MoodPlayerModel" "wayAt" "I" ∈ WW := mpw4 3 rfl rfl
theorem mF_X6_57 : Cond.fieldLink RX6 57 "MoodPlayerModel" "way" "[I" ∈ WW := mpw4 4 rfl rfl
theorem mF_X6_60 : Cond.fieldLink RX6 60 "MoodPlayerModel" "logTime" "[J" ∈ WW := mpw4 5 rfl rfl
theorem mF_X6_63 : Cond.fieldLink RX6 63 "MoodPlayerModel" "logWhat" "[I" ∈ WW := mpw4 6 rfl rfl
theorem mF_X6_66 : Cond.fieldLink RX6 66 "MoodPlayerModel" "logNumber" "[I" ∈ WW := mpw4 7 rfl rfl
theorem mF_X6_151 : Cond.fieldLink RX6 151 "MoodPlayerModel" "logs" "I" ∈ WW := mpw4 8 rfl rfl
theorem mF_X6_69 : Cond.fieldLink RX6 69 "MoodPlayerModel" "least" "[J" ∈ WW := mpw4 9 rfl rfl
theorem mF_X6_72 : Cond.fieldLink RX6 72 "MoodPlayerModel" "few" "[I" ∈ WW := mpw4 10 rfl rfl
theorem mF_X6_75 : Cond.fieldLink RX6 75 "MoodPlayerModel" "comes" "[Z" ∈ WW := mpw4 11 rfl rfl
theorem mY_X6_thrown : Cond.lays RX6 "MoodPlayerModel" "thrown" "I" ∈ WW := mpw4 12 rfl rfl
theorem mY_X6_pieces : Cond.lays RX6 "MoodPlayerModel" "pieces" "I" ∈ WW := mpw4 14 rfl rfl
theorem mY_X6_joints : Cond.lays RX6 "MoodPlayerModel" "joints" "I" ∈ WW := mpw4 16 rfl rfl
theorem mY_X6_kind : Cond.laysFinal RX6 "MoodPlayerModel" "kind" "[I" ∈ WW := mpw4 18 rfl rfl
theorem mY_X6_beats : Cond.laysFinal RX6 "MoodPlayerModel" "beats" "[I" ∈ WW := mpw4 20 rfl rfl
theorem mY_X6_beat : Cond.laysFinal RX6 "MoodPlayerModel" "beat" "[I" ∈ WW := mpw4 22 rfl rfl
theorem mY_X6_moods : Cond.laysFinal RX6 "MoodPlayerModel" "moods" "[I" ∈ WW := mpw4 24 rfl rfl
theorem mY_X6_most : Cond.laysFinal RX6 "MoodPlayerModel" "most" "[I" ∈ WW := mpw4 26 rfl rfl
theorem mY_X6_from : Cond.laysFinal RX6 "MoodPlayerModel" "from" "[I" ∈ WW := mpw4 28 rfl rfl
theorem mY_X6_behind : Cond.laysFinal RX6 "MoodPlayerModel" "behind" "[I" ∈ WW := mpw4 30 rfl rfl
theorem mY_X6_to : Cond.laysFinal RX6 "MoodPlayerModel" "to" "[I" ∈ WW := mpw4 32 rfl rfl
theorem mY_X6_cost : Cond.laysFinal RX6 "MoodPlayerModel" "cost" "[I" ∈ WW := mpw4 34 rfl rfl
theorem mY_X6_prices : Cond.laysFinal RX6 "MoodPlayerModel" "prices" "[I" ∈ WW := mpw4 36 rfl rfl
theorem mY_X6_state : Cond.laysFinal RX6 "MoodPlayerModel" "state" "[J" ∈ WW := mpw4 38 rfl rfl
theorem mY_X6_kept : Cond.laysFinal RX6 "MoodPlayerModel" "kept" "[J" ∈ WW := mpw4 40 rfl rfl
theorem mY_X6_time : Cond.lays RX6 "MoodPlayerModel" "time" "J" ∈ WW := mpw4 42 rfl rfl
theorem mY_X6_soundsTo : Cond.lays RX6 "MoodPlayerModel" "soundsTo" "J" ∈ WW := mpw4 44 rfl rfl
theorem mY_X6_keptTime : Cond.laysFinal RX6 "MoodPlayerModel" "keptTime" "[J" ∈ WW := mpw4 46 rfl rfl
theorem mY_X6_keptSounds : Cond.laysFinal RX6 "MoodPlayerModel" "keptSounds" "[J" ∈ WW := mpw4 48 rfl rfl
theorem mY_X6_isKept : Cond.laysFinal RX6 "MoodPlayerModel" "isKept" "[Z" ∈ WW := mpw4 50 rfl rfl
theorem mY_X6_hasWay : Cond.lays RX6 "MoodPlayerModel" "hasWay" "Z" ∈ WW := mpw4 52 rfl rfl
theorem mY_X6_waySize : Cond.lays RX6 "MoodPlayerModel" "waySize" "I" ∈ WW := mpw4 54 rfl rfl
theorem mY_X6_wayAt : Cond.lays RX6 "MoodPlayerModel" "wayAt" "I" ∈ WW := mpw4 56 rfl rfl
theorem mY_X6_way : Cond.laysFinal RX6 "MoodPlayerModel" "way" "[I" ∈ WW := mpw4 58 rfl rfl
theorem mY_X6_logTime : Cond.laysFinal RX6 "MoodPlayerModel" "logTime" "[J" ∈ WW := mpw4 60 rfl rfl
theorem mY_X6_logWhat : Cond.laysFinal RX6 "MoodPlayerModel" "logWhat" "[I" ∈ WW := mpw4 62 rfl rfl
theorem mY_X6_logNumber : Cond.laysFinal RX6 "MoodPlayerModel" "logNumber" "[I" ∈ WW := mpw4 64 rfl rfl
theorem mY_X6_logs : Cond.lays RX6 "MoodPlayerModel" "logs" "I" ∈ WW := mpw4 66 rfl rfl
theorem mY_X6_least : Cond.laysFinal RX6 "MoodPlayerModel" "least" "[J" ∈ WW := mpw4 68 rfl rfl
theorem mY_X6_few : Cond.laysFinal RX6 "MoodPlayerModel" "few" "[I" ∈ WW := mpw4 70 rfl rfl
theorem mY_X6_comes : Cond.laysFinal RX6 "MoodPlayerModel" "comes" "[Z" ∈ WW := mpw4 72 rfl rfl
theorem mM_L_79 : Cond.methodLink RL 79 yX6_thrown ∈ WW := mpw4 76 rfl rfl
theorem mI_X6_thrown : Cond.instanceMethod yX6_thrown ∈ WW := mpw4 77 rfl rfl
theorem mS_X6_thrown : Cond.selects RX6 yX6_thrown yX6_thrown ∈ WW := mpw4 78 rfl rfl
theorem mC_X6_thrown : Cond.code yX6_thrown cX6_thrown 1 (some .int) ∈ WW := mpw4 79 rfl rfl
theorem mM_L_72 : Cond.methodLink RL 72 yX6_piece ∈ WW := mpw4 80 rfl rfl
theorem mI_X6_piece : Cond.instanceMethod yX6_piece ∈ WW := mpw4 81 rfl rfl
theorem mS_X6_piece : Cond.selects RX6 yX6_piece yX6_piece ∈ WW := mpw4 82 rfl rfl
theorem mC_X6_piece : Cond.code yX6_piece cX6_piece 6 (some .int) ∈ WW := mpw4 83 rfl rfl
theorem mM_X6_91 : Cond.methodLink RX6 91 yX6_finds ∈ WW := mpw4 84 rfl rfl
theorem mI_X6_finds : Cond.instanceMethod yX6_finds ∈ WW := mpw4 86 rfl rfl
theorem mC_X6_finds : Cond.code yX6_finds cX6_finds 11 none ∈ WW := mpw4 87 rfl rfl
theorem mM_X6_126 : Cond.methodLink RX6 126 yX6_get ∈ WW := mpw4 88 rfl rfl
theorem mI_X6_get : Cond.instanceMethod yX6_get ∈ WW := mpw4 90 rfl rfl
theorem mC_X6_get : Cond.code yX6_get cX6_get 2 (some .int) ∈ WW := mpw4 91 rfl rfl
theorem mM_X6_130 : Cond.methodLink RX6 130 yX6_reckons ∈ WW := mpw4 92 rfl rfl
theorem mI_X6_reckons : Cond.instanceMethod yX6_reckons ∈ WW := mpw4 94 rfl rfl
theorem mC_X6_reckons : Cond.code yX6_reckons cX6_reckons 11 none ∈ WW := mpw4 95 rfl rfl
theorem mM_X6_104 : Cond.methodLink RX6 104 yX6_has ∈ WW := mpw4 96 rfl rfl
theorem mI_X6_has : Cond.instanceMethod yX6_has ∈ WW := mpw4 98 rfl rfl
theorem mC_X6_has : Cond.code yX6_has cX6_has 3 (some .boolean) ∈ WW := mpw4 99 rfl rfl
theorem mK_X6_108 : Cond.constantLong RX6 108 (1000000000000) ∈ WW := mpw4 100 rfl rfl
theorem mK_X6_110 : Cond.constantLong RX6 110 (24) ∈ WW := mpw4 101 rfl rfl
theorem mM_X6_134 : Cond.methodLink RX6 134 yX6_isStep ∈ WW := mpw4 102 rfl rfl
theorem mI_X6_isStep : Cond.instanceMethod yX6_isStep ∈ WW := mpw4 104 rfl rfl
theorem mC_X6_isStep : Cond.code yX6_isStep cX6_isStep 4 (some .boolean) ∈ WW := mpw4 105 rfl rfl
theorem mM_X6_138 : Cond.methodLink RX6 138 yX6_leads ∈ WW := mpw4 106 rfl rfl
theorem mI_X6_leads : Cond.instanceMethod yX6_leads ∈ WW := mpw4 108 rfl rfl
theorem mC_X6_leads : Cond.code yX6_leads cX6_leads 3 (some .int) ∈ WW := mpw4 109 rfl rfl
theorem mM_X6_142 : Cond.methodLink RX6 142 yX6_stepCost ∈ WW := mpw4 110 rfl rfl
theorem mI_X6_stepCost : Cond.instanceMethod yX6_stepCost ∈ WW := mpw4 112 rfl rfl
theorem mC_X6_stepCost : Cond.code yX6_stepCost cX6_stepCost 5 (some .long) ∈ WW := mpw4 113 rfl rfl
theorem mM_X6_112 : Cond.methodLink RX6 112 yX6_until ∈ WW := mpw4 114 rfl rfl
theorem mI_X6_until : Cond.instanceMethod yX6_until ∈ WW := mpw4 116 rfl rfl
theorem mC_X6_until : Cond.code yX6_until cX6_until 5 (some .long) ∈ WW := mpw4 117 rfl rfl
theorem mM_L_78 : Cond.methodLink RL 78 yX6_joint ∈ WW := mpw4 118 rfl rfl
theorem mI_X6_joint : Cond.instanceMethod yX6_joint ∈ WW := mpw4 119 rfl rfl
theorem mS_X6_joint : Cond.selects RX6 yX6_joint yX6_joint ∈ WW := mpw4 120 rfl rfl
theorem mC_X6_joint : Cond.code yX6_joint cX6_joint 6 (some .int) ∈ WW := mpw4 121 rfl rfl
theorem mM_X6_94 : Cond.methodLink RX6 94 yX6_isPiece ∈ WW := mpw4 122 rfl rfl
theorem mI_X6_isPiece : Cond.instanceMethod yX6_isPiece ∈ WW := mpw4 124 rfl rfl
theorem mC_X6_isPiece : Cond.code yX6_isPiece cX6_isPiece 2 (some .boolean) ∈ WW := mpw4 125 rfl rfl
theorem mM_X6_87 : Cond.methodLink RX6 87 yX6_right ∈ WW := mpw4 126 rfl rfl
theorem mI_X6_right : Cond.instanceMethod yX6_right ∈ WW := mpw4 128 rfl rfl
theorem mC_X6_right : Cond.code yX6_right cX6_right 3 (some .boolean) ∈ WW := mpw4 129 rfl rfl
theorem mM_X6_101 : Cond.methodLink RX6 101 yX6_isMain ∈ WW := mpw4 130 rfl rfl
theorem mI_X6_isMain : Cond.instanceMethod yX6_isMain ∈ WW := mpw4 132 rfl rfl
theorem mC_X6_isMain : Cond.code yX6_isMain cX6_isMain 2 (some .boolean) ∈ WW := mpw4 133 rfl rfl
theorem mM_L_86 : Cond.methodLink RL 86 yX6_price ∈ WW := mpw4 134 rfl rfl
theorem mI_X6_price : Cond.instanceMethod yX6_price ∈ WW := mpw4 135 rfl rfl
theorem mS_X6_price : Cond.selects RX6 yX6_price yX6_price ∈ WW := mpw4 136 rfl rfl
theorem mC_X6_price : Cond.code yX6_price cX6_price 4 (some .int) ∈ WW := mpw4 137 rfl rfl
theorem mM_L_93 : Cond.methodLink RL 93 yX6_ask ∈ WW := mpw4 138 rfl rfl
theorem mI_X6_ask : Cond.instanceMethod yX6_ask ∈ WW := mpw4 139 rfl rfl
theorem mS_X6_ask : Cond.selects RX6 yX6_ask yX6_ask ∈ WW := mpw4 140 rfl rfl
theorem mC_X6_ask : Cond.code yX6_ask cX6_ask 2 (some .int) ∈ WW := mpw4 141 rfl rfl
theorem mM_X6_145 : Cond.methodLink RX6 145 yX6_met ∈ WW := mpw4 142 rfl rfl
theorem mI_X6_met : Cond.instanceMethod yX6_met ∈ WW := mpw4 144 rfl rfl
theorem mC_X6_met : Cond.code yX6_met cX6_met 1 none ∈ WW := mpw4 145 rfl rfl
theorem mM_X6_158 : Cond.methodLink RX6 158 yX6_logs ∈ WW := mpw4 146 rfl rfl
theorem mI_X6_logs : Cond.instanceMethod yX6_logs ∈ WW := mpw4 148 rfl rfl
theorem mC_X6_logs : Cond.code yX6_logs cX6_logs 4 none ∈ WW := mpw4 149 rfl rfl
theorem mM_L_97 : Cond.methodLink RL 97 yX6_leave ∈ WW := mpw4 150 rfl rfl
theorem mI_X6_leave : Cond.instanceMethod yX6_leave ∈ WW := mpw4 151 rfl rfl
theorem mS_X6_leave : Cond.selects RX6 yX6_leave yX6_leave ∈ WW := mpw4 152 rfl rfl
theorem mC_X6_leave : Cond.code yX6_leave cX6_leave 2 (some .int) ∈ WW := mpw4 153 rfl rfl
theorem mM_L_100 : Cond.methodLink RL 100 yX6_way ∈ WW := mpw4 154 rfl rfl
theorem mI_X6_way : Cond.instanceMethod yX6_way ∈ WW := mpw4 155 rfl rfl
theorem mS_X6_way : Cond.selects RX6 yX6_way yX6_way ∈ WW := mpw4 156 rfl rfl
theorem mC_X6_way : Cond.code yX6_way cX6_way 3 (some .int) ∈ WW := mpw4 157 rfl rfl
theorem mM_L_105 : Cond.methodLink RL 105 yX6_cost ∈ WW := mpw4 158 rfl rfl
theorem mI_X6_cost : Cond.instanceMethod yX6_cost ∈ WW := mpw4 159 rfl rfl
theorem mS_X6_cost : Cond.selects RX6 yX6_cost yX6_cost ∈ WW := mpw4 160 rfl rfl
theorem mC_X6_cost : Cond.code yX6_cost cX6_cost 7 (some .long) ∈ WW := mpw4 161 rfl rfl
theorem mM_L_108 : Cond.methodLink RL 108 yX6_reach ∈ WW := mpw4 162 rfl rfl
theorem mI_X6_reach : Cond.instanceMethod yX6_reach ∈ WW := mpw4 163 rfl rfl
theorem mS_X6_reach : Cond.selects RX6 yX6_reach yX6_reach ∈ WW := mpw4 164 rfl rfl
theorem mC_X6_reach : Cond.code yX6_reach cX6_reach 3 (some .long) ∈ WW := mpw4 165 rfl rfl
theorem mM_X6_148 : Cond.methodLink RX6 148 yX6_isAsked ∈ WW := mpw4 166 rfl rfl
theorem mI_X6_isAsked : Cond.instanceMethod yX6_isAsked ∈ WW := mpw4 168 rfl rfl
theorem mC_X6_isAsked : Cond.code yX6_isAsked cX6_isAsked 3 (some .boolean) ∈ WW := mpw4 169 rfl rfl
theorem mM_L_111 : Cond.methodLink RL 111 yX6_lacks ∈ WW := mpw4 170 rfl rfl
theorem mI_X6_lacks : Cond.instanceMethod yX6_lacks ∈ WW := mpw4 171 rfl rfl
theorem mS_X6_lacks : Cond.selects RX6 yX6_lacks yX6_lacks ∈ WW := mpw4 172 rfl rfl
theorem mC_X6_lacks : Cond.code yX6_lacks cX6_lacks 6 (some .int) ∈ WW := mpw4 173 rfl rfl
theorem mM_L_90 : Cond.methodLink RL 90 yX6_play ∈ WW := mpw4 174 rfl rfl
theorem mI_X6_play : Cond.instanceMethod yX6_play ∈ WW := mpw4 175 rfl rfl
theorem mS_X6_play : Cond.selects RX6 yX6_play yX6_play ∈ WW := mpw4 176 rfl rfl
theorem mC_X6_play : Cond.code yX6_play cX6_play 2 (some .boolean) ∈ WW := mpw4 177 rfl rfl
theorem mM_X6_161 : Cond.methodLink RX6 161 yX6_begins ∈ WW := mpw4 178 rfl rfl
theorem mI_X6_begins : Cond.instanceMethod yX6_begins ∈ WW := mpw4 180 rfl rfl
theorem mC_X6_begins : Cond.code yX6_begins cX6_begins 4 none ∈ WW := mpw4 181 rfl rfl
theorem mM_L_114 : Cond.methodLink RL 114 yX6_layer ∈ WW := mpw4 182 rfl rfl
theorem mI_X6_layer : Cond.instanceMethod yX6_layer ∈ WW := mpw4 183 rfl rfl
theorem mS_X6_layer : Cond.selects RX6 yX6_layer yX6_layer ∈ WW := mpw4 184 rfl rfl
theorem mC_X6_layer : Cond.code yX6_layer cX6_layer 4 (some .int) ∈ WW := mpw4 185 rfl rfl
theorem mM_L_117 : Cond.methodLink RL 117 yX6_sting ∈ WW := mpw4 186 rfl rfl
theorem mI_X6_sting : Cond.instanceMethod yX6_sting ∈ WW := mpw4 187 rfl rfl
theorem mS_X6_sting : Cond.selects RX6 yX6_sting yX6_sting ∈ WW := mpw4 188 rfl rfl
theorem mC_X6_sting : Cond.code yX6_sting cX6_sting 2 (some .int) ∈ WW := mpw4 189 rfl rfl
theorem mM_L_120 : Cond.methodLink RL 120 yX6_go ∈ WW := mpw4 190 rfl rfl
theorem mI_X6_go : Cond.instanceMethod yX6_go ∈ WW := mpw4 191 rfl rfl
theorem mS_X6_go : Cond.selects RX6 yX6_go yX6_go ∈ WW := mpw4 192 rfl rfl
theorem mC_X6_go : Cond.code yX6_go cX6_go 14 (some .long) ∈ WW := mpw4 193 rfl rfl
theorem mM_X6_191 : Cond.methodLink RX6 191 yX6_isDone ∈ WW := mpw4 194 rfl rfl
theorem mI_X6_isDone : Cond.instanceMethod yX6_isDone ∈ WW := mpw4 196 rfl rfl
theorem mC_X6_isDone : Cond.code yX6_isDone cX6_isDone 6 none ∈ WW := mpw4 197 rfl rfl
theorem mM_X6_165 : Cond.methodLink RX6 165 yX6_goesAgain ∈ WW := mpw4 198 rfl rfl
theorem mI_X6_goesAgain : Cond.instanceMethod yX6_goesAgain ∈ WW := mpw4 200 rfl rfl
theorem mC_X6_goesAgain : Cond.code yX6_goesAgain cX6_goesAgain 2 none ∈ WW := mpw4 201 rfl rfl
theorem mM_X6_169 : Cond.methodLink RX6 169 yX6_takes ∈ WW := mpw4 202 rfl rfl
theorem mI_X6_takes : Cond.instanceMethod yX6_takes ∈ WW := mpw4 204 rfl rfl
theorem mC_X6_takes : Cond.code yX6_takes cX6_takes 3 none ∈ WW := mpw4 205 rfl rfl
theorem mM_X6_172 : Cond.methodLink RX6 172 yX6_cheapest ∈ WW := mpw4 206 rfl rfl
theorem mI_X6_cheapest : Cond.instanceMethod yX6_cheapest ∈ WW := mpw4 208 rfl rfl
theorem mC_X6_cheapest : Cond.code yX6_cheapest cX6_cheapest 4 (some .int) ∈ WW := mpw4 209 rfl rfl
theorem mM_X6_175 : Cond.methodLink RX6 175 yX6_silence ∈ WW := mpw4 210 rfl rfl
theorem mI_X6_silence : Cond.instanceMethod yX6_silence ∈ WW := mpw4 212 rfl rfl
theorem mC_X6_silence : Cond.code yX6_silence cX6_silence 2 none ∈ WW := mpw4 213 rfl rfl
theorem mM_X6_178 : Cond.methodLink RX6 178 yX6_layers ∈ WW := mpw4 214 rfl rfl
theorem mI_X6_layers : Cond.instanceMethod yX6_layers ∈ WW := mpw4 216 rfl rfl
theorem mC_X6_layers : Cond.code yX6_layers cX6_layers 4 none ∈ WW := mpw4 217 rfl rfl
theorem mM_X6_184 : Cond.methodLink RX6 184 yX6_levels ∈ WW := mpw4 218 rfl rfl
theorem mI_X6_levels : Cond.instanceMethod yX6_levels ∈ WW := mpw4 220 rfl rfl
theorem mC_X6_levels : Cond.code yX6_levels cX6_levels 3 (some .int) ∈ WW := mpw4 221 rfl rfl
theorem mM_X6_181 : Cond.methodLink RX6 181 yX6_stings ∈ WW := mpw4 222 rfl rfl
theorem mI_X6_stings : Cond.instanceMethod yX6_stings ∈ WW := mpw4 224 rfl rfl
theorem mC_X6_stings : Cond.code yX6_stings cX6_stings 3 none ∈ WW := mpw4 225 rfl rfl
theorem mM_L_123 : Cond.methodLink RL 123 yX6_now ∈ WW := mpw4 226 rfl rfl
theorem mI_X6_now : Cond.instanceMethod yX6_now ∈ WW := mpw4 227 rfl rfl
theorem mS_X6_now : Cond.selects RX6 yX6_now yX6_now ∈ WW := mpw4 228 rfl rfl
theorem mC_X6_now : Cond.code yX6_now cX6_now 2 (some .int) ∈ WW := mpw4 229 rfl rfl
theorem mM_L_126 : Cond.methodLink RL 126 yX6_level ∈ WW := mpw4 230 rfl rfl
theorem mI_X6_level : Cond.instanceMethod yX6_level ∈ WW := mpw4 231 rfl rfl
theorem mS_X6_level : Cond.selects RX6 yX6_level yX6_level ∈ WW := mpw4 232 rfl rfl
theorem mC_X6_level : Cond.code yX6_level cX6_level 2 (some .int) ∈ WW := mpw4 233 rfl rfl
theorem mM_L_129 : Cond.methodLink RL 129 yX6_log ∈ WW := mpw4 234 rfl rfl
theorem mI_X6_log : Cond.instanceMethod yX6_log ∈ WW := mpw4 235 rfl rfl
theorem mS_X6_log : Cond.selects RX6 yX6_log yX6_log ∈ WW := mpw4 236 rfl rfl
theorem mC_X6_log : Cond.code yX6_log cX6_log 5 (some .long) ∈ WW := mpw4 237 rfl rfl
theorem mM_L_132 : Cond.methodLink RL 132 yX6_keep ∈ WW := mpw4 238 rfl rfl
theorem mI_X6_keep : Cond.instanceMethod yX6_keep ∈ WW := mpw4 239 rfl rfl
theorem mS_X6_keep : Cond.selects RX6 yX6_keep yX6_keep ∈ WW := mpw5 0 rfl rfl
theorem mC_X6_keep : Cond.code yX6_keep cX6_keep 4 (some .boolean) ∈ WW := mpw5 1 rfl rfl
theorem mM_X6_194 : Cond.methodLink RX6 194 yX6_isSlot ∈ WW := mpw5 2 rfl rfl
theorem mI_X6_isSlot : Cond.instanceMethod yX6_isSlot ∈ WW := mpw5 4 rfl rfl
theorem mC_X6_isSlot : Cond.code yX6_isSlot cX6_isSlot 2 (some .boolean) ∈ WW := mpw5 5 rfl rfl
theorem mM_L_135 : Cond.methodLink RL 135 yX6_goOn ∈ WW := mpw5 6 rfl rfl
theorem mI_X6_goOn : Cond.instanceMethod yX6_goOn ∈ WW := mpw5 7 rfl rfl
theorem mS_X6_goOn : Cond.selects RX6 yX6_goOn yX6_goOn ∈ WW := mpw5 8 rfl rfl
theorem mC_X6_goOn : Cond.code yX6_goOn cX6_goOn 3 (some .boolean) ∈ WW := mpw5 9 rfl rfl
theorem mS_X4_improve : Cond.selects RX4 yX4_improve yX4_improve ∈ WW := mpw0 0 rfl rfl
theorem mS_X1_firstStep : Cond.selects RX1 yX1_firstStep yX1_firstStep ∈ WW := mpw0 1 rfl rfl
theorem mS_X1_isOpen : Cond.selects RX1 yX1_isOpen yX1_isOpen ∈ WW := mpw0 2 rfl rfl
theorem mS_X1_costBy : Cond.selects RX1 yX1_costBy yX1_costBy ∈ WW := mpw0 3 rfl rfl
theorem mS_X1_pieceBehind : Cond.selects RX1 yX1_pieceBehind yX1_pieceBehind ∈ WW := mpw0 4 rfl rfl
theorem mS_X1_addStep : Cond.selects RX1 yX1_addStep yX1_addStep ∈ WW := mpw0 5 rfl rfl
theorem mS_X1_followTable : Cond.selects RX1 yX1_followTable yX1_followTable ∈ WW := mpw0 6 rfl rfl
theorem mS_X1_firstOnTable : Cond.selects RX1 yX1_firstOnTable yX1_firstOnTable ∈ WW := mpw0 7 rfl rfl
theorem mS_X5_checkPiece : Cond.selects RX5 yX5_checkPiece yX5_checkPiece ∈ WW := mpw0 8 rfl rfl
theorem mS_X2_isJoint : Cond.selects RX2 yX2_isJoint yX2_isJoint ∈ WW := mpw0 10 rfl rfl
theorem mS_X5_begin : Cond.selects RX5 yX5_begin yX5_begin ∈ WW := mpw0 11 rfl rfl
theorem mS_X5_meetMood : Cond.selects RX5 yX5_meetMood yX5_meetMood ∈ WW := mpw0 12 rfl rfl
theorem mS_X5_checkMood : Cond.selects RX5 yX5_checkMood yX5_checkMood ∈ WW := mpw0 13 rfl rfl
theorem mS_X5_stepsLeft : Cond.selects RX5 yX5_stepsLeft yX5_stepsLeft ∈ WW := mpw0 14 rfl rfl
theorem mS_X5_checkPlayable : Cond.selects RX5 yX5_checkPlayable yX5_checkPlayable ∈ WW := mpw0 15 rfl rfl
theorem mS_X5_nextMoment : Cond.selects RX5 yX5_nextMoment yX5_nextMoment ∈ WW := mpw0 16 rfl rfl
theorem mS_X5_beatEnd : Cond.selects RX5 yX5_beatEnd yX5_beatEnd ∈ WW := mpw0 17 rfl rfl
theorem mS_X5_endSting : Cond.selects RX5 yX5_endSting yX5_endSting ∈ WW := mpw0 18 rfl rfl
theorem mS_X5_endBeat : Cond.selects RX5 yX5_endBeat yX5_endBeat ∈ WW := mpw0 19 rfl rfl
theorem mS_X5_isDue : Cond.selects RX5 yX5_isDue yX5_isDue ∈ WW := mpw0 20 rfl rfl
theorem mS_X5_takeStep : Cond.selects RX5 yX5_takeStep yX5_takeStep ∈ WW := mpw0 21 rfl rfl
theorem mS_X5_endPiece : Cond.selects RX5 yX5_endPiece yX5_endPiece ∈ WW := mpw0 22 rfl rfl
theorem mS_X5_stepAtEnd : Cond.selects RX5 yX5_stepAtEnd yX5_stepAtEnd ∈ WW := mpw0 23 rfl rfl
theorem mS_X5_fallSilent : Cond.selects RX5 yX5_fallSilent yX5_fallSilent ∈ WW := mpw0 24 rfl rfl
theorem mS_X5_moveLayers : Cond.selects RX5 yX5_moveLayers yX5_moveLayers ∈ WW := mpw0 25 rfl rfl
theorem mS_X5_beginSting : Cond.selects RX5 yX5_beginSting yX5_beginSting ∈ WW := mpw0 26 rfl rfl
theorem mS_X5_slotAt : Cond.selects RX5 yX5_slotAt yX5_slotAt ∈ WW := mpw0 27 rfl rfl
theorem mS_X6_finds : Cond.selects RX6 yX6_finds yX6_finds ∈ WW := mpw0 28 rfl rfl
theorem mS_X6_get : Cond.selects RX6 yX6_get yX6_get ∈ WW := mpw0 29 rfl rfl
theorem mS_X6_reckons : Cond.selects RX6 yX6_reckons yX6_reckons ∈ WW := mpw0 30 rfl rfl
theorem mS_X6_has : Cond.selects RX6 yX6_has yX6_has ∈ WW := mpw0 31 rfl rfl
theorem mS_X6_isStep : Cond.selects RX6 yX6_isStep yX6_isStep ∈ WW := mpw0 32 rfl rfl
theorem mS_X6_leads : Cond.selects RX6 yX6_leads yX6_leads ∈ WW := mpw0 33 rfl rfl
theorem mS_X6_stepCost : Cond.selects RX6 yX6_stepCost yX6_stepCost ∈ WW := mpw0 34 rfl rfl
theorem mS_X6_until : Cond.selects RX6 yX6_until yX6_until ∈ WW := mpw0 35 rfl rfl
theorem mS_X6_isPiece : Cond.selects RX6 yX6_isPiece yX6_isPiece ∈ WW := mpw0 36 rfl rfl
theorem mS_X6_right : Cond.selects RX6 yX6_right yX6_right ∈ WW := mpw0 37 rfl rfl
theorem mS_X6_isMain : Cond.selects RX6 yX6_isMain yX6_isMain ∈ WW := mpw0 38 rfl rfl
theorem mS_X6_met : Cond.selects RX6 yX6_met yX6_met ∈ WW := mpw0 39 rfl rfl
theorem mS_X6_logs : Cond.selects RX6 yX6_logs yX6_logs ∈ WW := mpw0 40 rfl rfl
theorem mS_X6_isAsked : Cond.selects RX6 yX6_isAsked yX6_isAsked ∈ WW := mpw0 41 rfl rfl
theorem mS_X6_begins : Cond.selects RX6 yX6_begins yX6_begins ∈ WW := mpw0 42 rfl rfl
theorem mS_X6_isDone : Cond.selects RX6 yX6_isDone yX6_isDone ∈ WW := mpw0 43 rfl rfl
theorem mS_X6_goesAgain : Cond.selects RX6 yX6_goesAgain yX6_goesAgain ∈ WW := mpw0 44 rfl rfl
theorem mS_X6_takes : Cond.selects RX6 yX6_takes yX6_takes ∈ WW := mpw0 45 rfl rfl
theorem mS_X6_cheapest : Cond.selects RX6 yX6_cheapest yX6_cheapest ∈ WW := mpw0 46 rfl rfl
theorem mS_X6_silence : Cond.selects RX6 yX6_silence yX6_silence ∈ WW := mpw0 47 rfl rfl
theorem mS_X6_layers : Cond.selects RX6 yX6_layers yX6_layers ∈ WW := mpw0 48 rfl rfl
theorem mS_X6_levels : Cond.selects RX6 yX6_levels yX6_levels ∈ WW := mpw0 49 rfl rfl
theorem mS_X6_stings : Cond.selects RX6 yX6_stings yX6_stings ∈ WW := mpw0 50 rfl rfl
theorem mS_X6_isSlot : Cond.selects RX6 yX6_isSlot yX6_isSlot ∈ WW := mpw0 51 rfl rfl
theorem iW_X0 : ∀ w ∈ wsX00, w ∈ WW := List.forall_mem_cons.mpr ⟨mY_X0_state, List.forall_mem_cons.mpr ⟨mY_X0_when, List.forall_mem_cons.mpr ⟨mY_X0_whats, List.forall_mem_cons.mpr ⟨mY_X0_numbers, List.forall_mem_cons.mpr ⟨mY_X0_eldest, List.forall_mem_cons.mpr ⟨mY_X0_count, fun _ h => absurd h List.not_mem_nil⟩⟩⟩⟩⟩⟩
theorem iW_X1 : ∀ w ∈ wsX10, w ∈ WW := List.forall_mem_cons.mpr ⟨mY_X1_score, List.forall_mem_cons.mpr ⟨mY_X1_state, List.forall_mem_cons.mpr ⟨mY_X1_table, List.forall_mem_cons.mpr ⟨mY_X1_tableMood, List.forall_mem_cons.mpr ⟨mY_X1_steps, List.forall_mem_cons.mpr ⟨mY_X1_length, List.forall_mem_cons.mpr ⟨mY_X1_taken, fun _ h => absurd h List.not_mem_nil⟩⟩⟩⟩⟩⟩⟩
theorem iW_X2 : ∀ w ∈ wsX20, w ∈ WW := List.forall_mem_cons.mpr ⟨mY_X2_kind, List.forall_mem_cons.mpr ⟨mY_X2_beats, List.forall_mem_cons.mpr ⟨mY_X2_beat, List.forall_mem_cons.mpr ⟨mY_X2_moods, List.forall_mem_cons.mpr ⟨mY_X2_most, List.forall_mem_cons.mpr ⟨mY_X2_pieces, List.forall_mem_cons.mpr ⟨mY_X2_from, List.forall_mem_cons.mpr ⟨mY_X2_behind, List.forall_mem_cons.mpr ⟨mY_X2_to, List.forall_mem_cons.mpr ⟨mY_X2_cost, List.forall_mem_cons.mpr ⟨mY_X2_joints, List.forall_mem_cons.mpr ⟨mY_X2_prices, fun _ h => absurd h List.not_mem_nil⟩⟩⟩⟩⟩⟩⟩⟩⟩⟩⟩⟩
theorem iW_X3 : ∀ w ∈ wsX30, w ∈ WW := List.forall_mem_cons.mpr ⟨mY_X3_filled, List.forall_mem_cons.mpr ⟨mY_X3_time, List.forall_mem_cons.mpr ⟨mY_X3_plays, List.forall_mem_cons.mpr ⟨mY_X3_done, List.forall_mem_cons.mpr ⟨mY_X3_turns, List.forall_mem_cons.mpr ⟨mY_X3_beatBegan, List.forall_mem_cons.mpr ⟨mY_X3_mood, List.forall_mem_cons.mpr ⟨mY_X3_tops, List.forall_mem_cons.mpr ⟨mY_X3_levels, List.forall_mem_cons.mpr ⟨mY_X3_waiting, List.forall_mem_cons.mpr ⟨mY_X3_waits, List.forall_mem_cons.mpr ⟨mY_X3_sounds, List.forall_mem_cons.mpr ⟨mY_X3_soundsUntil, fun _ h => absurd h List.not_mem_nil⟩⟩⟩⟩⟩⟩⟩⟩⟩⟩⟩⟩⟩
theorem iW_X4 : ∀ w ∈ wsX40, w ∈ WW := List.forall_mem_cons.mpr ⟨mY_X4_least, List.forall_mem_cons.mpr ⟨mY_X4_steps, fun _ h => absurd h List.not_mem_nil⟩⟩
theorem iW_X5 : ∀ w ∈ wsX50, w ∈ WW := List.forall_mem_cons.mpr ⟨mY_X5_score, List.forall_mem_cons.mpr ⟨mY_X5_state, List.forall_mem_cons.mpr ⟨mY_X5_slots, List.forall_mem_cons.mpr ⟨mY_X5_diary, List.forall_mem_cons.mpr ⟨mY_X5_times, List.forall_mem_cons.mpr ⟨mY_X5_guide, fun _ h => absurd h List.not_mem_nil⟩⟩⟩⟩⟩⟩
theorem iW_X6 : ∀ w ∈ wsX60, w ∈ WW := List.forall_mem_cons.mpr ⟨mY_X6_thrown, List.forall_mem_cons.mpr ⟨mY_X6_pieces, List.forall_mem_cons.mpr ⟨mY_X6_joints, List.forall_mem_cons.mpr ⟨mY_X6_kind, List.forall_mem_cons.mpr ⟨mY_X6_beats, List.forall_mem_cons.mpr ⟨mY_X6_beat, List.forall_mem_cons.mpr ⟨mY_X6_moods, List.forall_mem_cons.mpr ⟨mY_X6_most, List.forall_mem_cons.mpr ⟨mY_X6_from, List.forall_mem_cons.mpr ⟨mY_X6_behind, List.forall_mem_cons.mpr ⟨mY_X6_to, List.forall_mem_cons.mpr ⟨mY_X6_cost, List.forall_mem_cons.mpr ⟨mY_X6_prices, List.forall_mem_cons.mpr ⟨mY_X6_state, List.forall_mem_cons.mpr ⟨mY_X6_kept, List.forall_mem_cons.mpr ⟨mY_X6_time, List.forall_mem_cons.mpr ⟨mY_X6_soundsTo, List.forall_mem_cons.mpr ⟨mY_X6_keptTime, List.forall_mem_cons.mpr ⟨mY_X6_keptSounds, List.forall_mem_cons.mpr ⟨mY_X6_isKept, List.forall_mem_cons.mpr ⟨mY_X6_hasWay, List.forall_mem_cons.mpr ⟨mY_X6_waySize, List.forall_mem_cons.mpr ⟨mY_X6_wayAt, List.forall_mem_cons.mpr ⟨mY_X6_way, List.forall_mem_cons.mpr ⟨mY_X6_logTime, List.forall_mem_cons.mpr ⟨mY_X6_logWhat, List.forall_mem_cons.mpr ⟨mY_X6_logNumber, List.forall_mem_cons.mpr ⟨mY_X6_logs, List.forall_mem_cons.mpr ⟨mY_X6_least, List.forall_mem_cons.mpr ⟨mY_X6_few, List.forall_mem_cons.mpr ⟨mY_X6_comes, fun _ h => absurd h List.not_mem_nil⟩⟩⟩⟩⟩⟩⟩⟩⟩⟩⟩⟩⟩⟩⟩⟩⟩⟩⟩⟩⟩⟩⟩⟩⟩⟩⟩⟩⟩⟩⟩
end
section
theorem dX0_init_0 : decode cX0_init 0 = .ok (.aload_n 0, 1) := by decide +kernel
theorem dX0_init_1 : decode cX0_init 1 = .ok (.invokespecial 3, 3) := by decide +kernel
theorem dX0_init_4 : decode cX0_init 4 = .ok (.aload_n 0, 1) := by decide +kernel
theorem dX0_init_5 : decode cX0_init 5 = .ok (.sipush 300, 3) := by decide +kernel
theorem dX0_init_8 : decode cX0_init 8 = .ok (.newarray .long, 2) := by decide +kernel
theorem dX0_init_10 : decode cX0_init 10 = .ok (.putfield 9, 3) := by decide +kernel
theorem dX0_init_13 : decode cX0_init 13 = .ok (.aload_n 0, 1) := by decide +kernel
theorem dX0_init_14 : decode cX0_init 14 = .ok (.sipush 300, 3) := by decide +kernel
theorem dX0_init_17 : decode cX0_init 17 = .ok (.newarray .int, 2) := by decide +kernel
theorem dX0_init_19 : decode cX0_init 19 = .ok (.putfield 15, 3) := by decide +kernel
theorem dX0_init_22 : decode cX0_init 22 = .ok (.aload_n 0, 1) := by decide +kernel
theorem dX0_init_23 : decode cX0_init 23 = .ok (.sipush 300, 3) := by decide +kernel
theorem dX0_init_26 : decode cX0_init 26 = .ok (.newarray .int, 2) := by decide +kernel
theorem dX0_init_28 : decode cX0_init 28 = .ok (.putfield 19, 3) := by decide +kernel
theorem dX0_init_31 : decode cX0_init 31 = .ok (.aload_n 0, 1) := by decide +kernel
theorem dX0_init_32 : decode cX0_init 32 = .ok (.aload_n 1, 1) := by decide +kernel
theorem dX0_init_33 : decode cX0_init 33 = .ok (.putfield 22, 3) := by decide +kernel
theorem dX0_init_36 : decode cX0_init 36 = .ok (.return_, 1) := by decide +kernel
theorem dX0_add_0 : decode cX0_add 0 = .ok (.aload_n 0, 1) := by decide +kernel
theorem dX0_add_1 : decode cX0_add 1 = .ok (.getfield 26, 3) := by decide +kernel
theorem dX0_add_4 : decode cX0_add 4 = .ok (.aload_n 0, 1) := by decide +kernel
theorem dX0_add_5 : decode cX0_add 5 = .ok (.getfield 30, 3) := by decide +kernel
theorem dX0_add_8 : decode cX0_add 8 = .ok (.iadd, 1) := by decide +kernel
theorem dX0_add_9 : decode cX0_add 9 = .ok (.sipush 300, 3) := by decide +kernel
theorem dX0_add_12 : decode cX0_add 12 = .ok (.irem, 1) := by decide +kernel
theorem dX0_add_13 : decode cX0_add 13 = .ok (.istore_n 3, 1) := by decide +kernel
theorem dX0_add_14 : decode cX0_add 14 = .ok (.aload_n 0, 1) := by decide +kernel
theorem dX0_add_15 : decode cX0_add 15 = .ok (.getfield 9, 3) := by decide +kernel
theorem dX0_add_18 : decode cX0_add 18 = .ok (.iload_n 3, 1) := by decide +kernel
theorem dX0_add_19 : decode cX0_add 19 = .ok (.aload_n 0, 1) := by decide +kernel
theorem dX0_add_20 : decode cX0_add 20 = .ok (.getfield 22, 3) := by decide +kernel
theorem dX0_add_23 : decode cX0_add 23 = .ok (.getfield 33, 3) := by decide +kernel
theorem dX0_add_26 : decode cX0_add 26 = .ok (.lastore, 1) := by decide +kernel
theorem dX0_add_27 : decode cX0_add 27 = .ok (.aload_n 0, 1) := by decide +kernel
theorem dX0_add_28 : decode cX0_add 28 = .ok (.getfield 15, 3) := by decide +kernel
theorem dX0_add_31 : decode cX0_add 31 = .ok (.iload_n 3, 1) := by decide +kernel
theorem dX0_add_32 : decode cX0_add 32 = .ok (.iload_n 1, 1) := by decide +kernel
theorem dX0_add_33 : decode cX0_add 33 = .ok (.iastore, 1) := by decide +kernel
theorem dX0_add_34 : decode cX0_add 34 = .ok (.aload_n 0, 1) := by decide +kernel
theorem dX0_add_35 : decode cX0_add 35 = .ok (.getfield 19, 3) := by decide +kernel
theorem dX0_add_38 : decode cX0_add 38 = .ok (.iload_n 3, 1) := by decide +kernel
theorem dX0_add_39 : decode cX0_add 39 = .ok (.iload_n 2, 1) := by decide +kernel
theorem dX0_add_40 : decode cX0_add 40 = .ok (.iastore, 1) := by decide +kernel
theorem dX0_add_41 : decode cX0_add 41 = .ok (.aload_n 0, 1) := by decide +kernel
theorem dX0_add_42 : decode cX0_add 42 = .ok (.getfield 30, 3) := by decide +kernel
theorem dX0_add_45 : decode cX0_add 45 = .ok (.sipush 300, 3) := by decide +kernel
theorem dX0_add_48 : decode cX0_add 48 = .ok (.if_icmp .ge 16, 3) := by decide +kernel
theorem dX0_add_51 : decode cX0_add 51 = .ok (.aload_n 0, 1) := by decide +kernel
theorem dX0_add_52 : decode cX0_add 52 = .ok (.dup, 1) := by decide +kernel
theorem dX0_add_53 : decode cX0_add 53 = .ok (.getfield 30, 3) := by decide +kernel
theorem dX0_add_56 : decode cX0_add 56 = .ok (.iconst 1, 1) := by decide +kernel
theorem dX0_add_57 : decode cX0_add 57 = .ok (.iadd, 1) := by decide +kernel
theorem dX0_add_58 : decode cX0_add 58 = .ok (.putfield 30, 3) := by decide +kernel
theorem dX0_add_61 : decode cX0_add 61 = .ok (.goto 17, 3) := by decide +kernel
theorem dX0_add_64 : decode cX0_add 64 = .ok (.aload_n 0, 1) := by decide +kernel
theorem dX0_add_65 : decode cX0_add 65 = .ok (.aload_n 0, 1) := by decide +kernel
theorem dX0_add_66 : decode cX0_add 66 = .ok (.getfield 26, 3) := by decide +kernel
theorem dX0_add_69 : decode cX0_add 69 = .ok (.iconst 1, 1) := by decide +kernel
theorem dX0_add_70 : decode cX0_add 70 = .ok (.iadd, 1) := by decide +kernel
theorem dX0_add_71 : decode cX0_add 71 = .ok (.sipush 300, 3) := by decide +kernel
theorem dX0_add_74 : decode cX0_add 74 = .ok (.irem, 1) := by decide +kernel
theorem dX0_add_75 : decode cX0_add 75 = .ok (.putfield 26, 3) := by decide +kernel
theorem dX0_add_78 : decode cX0_add 78 = .ok (.return_, 1) := by decide +kernel
theorem dX0_look_0 : decode cX0_look 0 = .ok (.aload_n 0, 1) := by decide +kernel
theorem dX0_look_1 : decode cX0_look 1 = .ok (.getfield 26, 3) := by decide +kernel
theorem dX0_look_4 : decode cX0_look 4 = .ok (.iload_n 1, 1) := by decide +kernel
theorem dX0_look_5 : decode cX0_look 5 = .ok (.iadd, 1) := by decide +kernel
theorem dX0_look_6 : decode cX0_look 6 = .ok (.sipush 300, 3) := by decide +kernel
theorem dX0_look_9 : decode cX0_look 9 = .ok (.irem, 1) := by decide +kernel
theorem dX0_look_10 : decode cX0_look 10 = .ok (.istore_n 3, 1) := by decide +kernel
theorem dX0_look_11 : decode cX0_look 11 = .ok (.iload_n 2, 1) := by decide +kernel
theorem dX0_look_12 : decode cX0_look 12 = .ok (.ifCond .ne 10, 3) := by decide +kernel
theorem dX0_look_15 : decode cX0_look 15 = .ok (.aload_n 0, 1) := by decide +kernel
theorem dX0_look_16 : decode cX0_look 16 = .ok (.getfield 9, 3) := by decide +kernel
theorem dX0_look_19 : decode cX0_look 19 = .ok (.iload_n 3, 1) := by decide +kernel
theorem dX0_look_20 : decode cX0_look 20 = .ok (.laload, 1) := by decide +kernel
theorem dX0_look_21 : decode cX0_look 21 = .ok (.lreturn, 1) := by decide +kernel
theorem dX0_look_22 : decode cX0_look 22 = .ok (.iload_n 2, 1) := by decide +kernel
theorem dX0_look_23 : decode cX0_look 23 = .ok (.iconst 1, 1) := by decide +kernel
theorem dX0_look_24 : decode cX0_look 24 = .ok (.if_icmp .ne 13, 3) := by decide +kernel
theorem dX0_look_27 : decode cX0_look 27 = .ok (.aload_n 0, 1) := by decide +kernel
theorem dX0_look_28 : decode cX0_look 28 = .ok (.getfield 15, 3) := by decide +kernel
theorem dX0_look_31 : decode cX0_look 31 = .ok (.iload_n 3, 1) := by decide +kernel
theorem dX0_look_32 : decode cX0_look 32 = .ok (.iaload, 1) := by decide +kernel
theorem dX0_look_33 : decode cX0_look 33 = .ok (.i2l, 1) := by decide +kernel
theorem dX0_look_34 : decode cX0_look 34 = .ok (.goto 10, 3) := by decide +kernel
theorem dX0_look_37 : decode cX0_look 37 = .ok (.aload_n 0, 1) := by decide +kernel
theorem dX0_look_38 : decode cX0_look 38 = .ok (.getfield 19, 3) := by decide +kernel
theorem dX0_look_41 : decode cX0_look 41 = .ok (.iload_n 3, 1) := by decide +kernel
theorem dX0_look_42 : decode cX0_look 42 = .ok (.iaload, 1) := by decide +kernel
theorem dX0_look_43 : decode cX0_look 43 = .ok (.i2l, 1) := by decide +kernel
theorem dX0_look_44 : decode cX0_look 44 = .ok (.lreturn, 1) := by decide +kernel
theorem dX1_init_0 : decode cX1_init 0 = .ok (.aload_n 0, 1) := by decide +kernel
theorem dX1_init_1 : decode cX1_init 1 = .ok (.invokespecial 3, 3) := by decide +kernel
theorem dX1_init_4 : decode cX1_init 4 = .ok (.aload_n 0, 1) := by decide +kernel
theorem dX1_init_5 : decode cX1_init 5 = .ok (.new 9, 3) := by decide +kernel
theorem dX1_init_8 : decode cX1_init 8 = .ok (.dup, 1) := by decide +kernel
theorem dX1_init_9 : decode cX1_init 9 = .ok (.invokespecial 11, 3) := by decide +kernel
theorem dX1_init_12 : decode cX1_init 12 = .ok (.putfield 12, 3) := by decide +kernel
theorem dX1_init_15 : decode cX1_init 15 = .ok (.aload_n 0, 1) := by decide +kernel
theorem dX1_init_16 : decode cX1_init 16 = .ok (.iconst (-1), 1) := by decide +kernel
theorem dX1_init_17 : decode cX1_init 17 = .ok (.putfield 18, 3) := by decide +kernel
theorem dX1_init_20 : decode cX1_init 20 = .ok (.aload_n 0, 1) := by decide +kernel
theorem dX1_init_21 : decode cX1_init 21 = .ok (.bipush 21, 2) := by decide +kernel
theorem dX1_init_23 : decode cX1_init 23 = .ok (.newarray .int, 2) := by decide +kernel
theorem dX1_init_25 : decode cX1_init 25 = .ok (.putfield 22, 3) := by decide +kernel
theorem dX1_init_28 : decode cX1_init 28 = .ok (.aload_n 0, 1) := by decide +kernel
theorem dX1_init_29 : decode cX1_init 29 = .ok (.aload_n 1, 1) := by decide +kernel
theorem dX1_init_30 : decode cX1_init 30 = .ok (.putfield 26, 3) := by decide +kernel
theorem dX1_init_33 : decode cX1_init 33 = .ok (.aload_n 0, 1) := by decide +kernel
theorem dX1_init_34 : decode cX1_init 34 = .ok (.aload_n 2, 1) := by decide +kernel
theorem dX1_init_35 : decode cX1_init 35 = .ok (.putfield 30, 3) := by decide +kernel
theorem dX1_init_38 : decode cX1_init 38 = .ok (.return_, 1) := by decide +kernel
theorem dX1_left_0 : decode cX1_left 0 = .ok (.aload_n 0, 1) := by decide +kernel
theorem dX1_left_1 : decode cX1_left 1 = .ok (.getfield 34, 3) := by decide +kernel
theorem dX1_left_4 : decode cX1_left 4 = .ok (.aload_n 0, 1) := by decide +kernel
theorem dX1_left_5 : decode cX1_left 5 = .ok (.getfield 37, 3) := by decide +kernel
theorem dX1_left_8 : decode cX1_left 8 = .ok (.isub, 1) := by decide +kernel
theorem dX1_left_9 : decode cX1_left 9 = .ok (.ireturn, 1) := by decide +kernel
theorem dX1_stepAt_0 : decode cX1_stepAt 0 = .ok (.aload_n 0, 1) := by decide +kernel
theorem dX1_stepAt_1 : decode cX1_stepAt 1 = .ok (.getfield 37, 3) := by decide +kernel
theorem dX1_stepAt_4 : decode cX1_stepAt 4 = .ok (.iload_n 1, 1) := by decide +kernel
theorem dX1_stepAt_5 : decode cX1_stepAt 5 = .ok (.iadd, 1) := by decide +kernel
theorem dX1_stepAt_6 : decode cX1_stepAt 6 = .ok (.istore_n 2, 1) := by decide +kernel
theorem dX1_stepAt_7 : decode cX1_stepAt 7 = .ok (.iload_n 2, 1) := by decide +kernel
theorem dX1_stepAt_8 : decode cX1_stepAt 8 = .ok (.ifCond .lt 20, 3) := by decide +kernel
theorem dX1_stepAt_11 : decode cX1_stepAt 11 = .ok (.iload_n 2, 1) := by decide +kernel
theorem dX1_stepAt_12 : decode cX1_stepAt 12 = .ok (.aload_n 0, 1) := by decide +kernel
theorem dX1_stepAt_13 : decode cX1_stepAt 13 = .ok (.getfield 34, 3) := by decide +kernel
theorem dX1_stepAt_16 : decode cX1_stepAt 16 = .ok (.if_icmp .ge 12, 3) := by decide +kernel
theorem dX1_stepAt_19 : decode cX1_stepAt 19 = .ok (.aload_n 0, 1) := by decide +kernel
theorem dX1_stepAt_20 : decode cX1_stepAt 20 = .ok (.getfield 22, 3) := by decide +kernel
theorem dX1_stepAt_23 : decode cX1_stepAt 23 = .ok (.iload_n 2, 1) := by decide +kernel
theorem dX1_stepAt_24 : decode cX1_stepAt 24 = .ok (.iaload, 1) := by decide +kernel
theorem dX1_stepAt_25 : decode cX1_stepAt 25 = .ok (.goto 4, 3) := by decide +kernel
theorem dX1_stepAt_28 : decode cX1_stepAt 28 = .ok (.iconst (-1), 1) := by decide +kernel
theorem dX1_stepAt_29 : decode cX1_stepAt 29 = .ok (.ireturn, 1) := by decide +kernel
theorem dX1_stepTaken_0 : decode cX1_stepTaken 0 = .ok (.aload_n 0, 1) := by decide +kernel
theorem dX1_stepTaken_1 : decode cX1_stepTaken 1 = .ok (.dup, 1) := by decide +kernel
theorem dX1_stepTaken_2 : decode cX1_stepTaken 2 = .ok (.getfield 37, 3) := by decide +kernel
theorem dX1_stepTaken_5 : decode cX1_stepTaken 5 = .ok (.iconst 1, 1) := by decide +kernel
theorem dX1_stepTaken_6 : decode cX1_stepTaken 6 = .ok (.iadd, 1) := by decide +kernel
theorem dX1_stepTaken_7 : decode cX1_stepTaken 7 = .ok (.putfield 37, 3) := by decide +kernel
theorem dX1_stepTaken_10 : decode cX1_stepTaken 10 = .ok (.return_, 1) := by decide +kernel
theorem dX1_forget_0 : decode cX1_forget 0 = .ok (.aload_n 0, 1) := by decide +kernel
theorem dX1_forget_1 : decode cX1_forget 1 = .ok (.iconst 0, 1) := by decide +kernel
theorem dX1_forget_2 : decode cX1_forget 2 = .ok (.putfield 34, 3) := by decide +kernel
theorem dX1_forget_5 : decode cX1_forget 5 = .ok (.aload_n 0, 1) := by decide +kernel
theorem dX1_forget_6 : decode cX1_forget 6 = .ok (.iconst 0, 1) := by decide +kernel
theorem dX1_forget_7 : decode cX1_forget 7 = .ok (.putfield 37, 3) := by decide +kernel
theorem dX1_forget_10 : decode cX1_forget 10 = .ok (.return_, 1) := by decide +kernel
theorem dX1_scoreChanged_0 : decode cX1_scoreChanged 0 = .ok (.aload_n 0, 1) := by decide +kernel
theorem dX1_scoreChanged_1 : decode cX1_scoreChanged 1 = .ok (.iconst (-1), 1) := by decide +kernel
theorem dX1_scoreChanged_2 : decode cX1_scoreChanged 2 = .ok (.putfield 18, 3) := by decide +kernel
theorem dX1_scoreChanged_5 : decode cX1_scoreChanged 5 = .ok (.aload_n 0, 1) := by decide +kernel
theorem dX1_scoreChanged_6 : decode cX1_scoreChanged 6 = .ok (.invokevirtual 40, 3) := by decide +kernel
theorem dX1_scoreChanged_9 : decode cX1_scoreChanged 9 = .ok (.return_, 1) := by decide +kernel
theorem dX1_costLeft_0 : decode cX1_costLeft 0 = .ok (.aload_n 0, 1) := by decide +kernel
theorem dX1_costLeft_1 : decode cX1_costLeft 1 = .ok (.iconst 0, 1) := by decide +kernel
theorem dX1_costLeft_2 : decode cX1_costLeft 2 = .ok (.invokevirtual 43, 3) := by decide +kernel
theorem dX1_costLeft_5 : decode cX1_costLeft 5 = .ok (.istore_n 1, 1) := by decide +kernel
theorem dX1_costLeft_6 : decode cX1_costLeft 6 = .ok (.iload_n 1, 1) := by decide +kernel
theorem dX1_costLeft_7 : decode cX1_costLeft 7 = .ok (.iconst (-1), 1) := by decide +kernel
theorem dX1_costLeft_8 : decode cX1_costLeft 8 = .ok (.if_icmp .ne 9, 3) := by decide +kernel
theorem dX1_costLeft_11 : decode cX1_costLeft 11 = .ok (.ldc2_w 47, 3) := by decide +kernel
theorem dX1_costLeft_14 : decode cX1_costLeft 14 = .ok (.goto 8, 3) := by decide +kernel
theorem dX1_costLeft_17 : decode cX1_costLeft 17 = .ok (.aload_n 0, 1) := by decide +kernel
theorem dX1_costLeft_18 : decode cX1_costLeft 18 = .ok (.iload_n 1, 1) := by decide +kernel
theorem dX1_costLeft_19 : decode cX1_costLeft 19 = .ok (.invokevirtual 49, 3) := by decide +kernel
theorem dX1_costLeft_22 : decode cX1_costLeft 22 = .ok (.lreturn, 1) := by decide +kernel
theorem dX1_findWay_0 : decode cX1_findWay 0 = .ok (.aload_n 0, 1) := by decide +kernel
theorem dX1_findWay_1 : decode cX1_findWay 1 = .ok (.invokevirtual 53, 3) := by decide +kernel
theorem dX1_findWay_4 : decode cX1_findWay 4 = .ok (.aload_n 0, 1) := by decide +kernel
theorem dX1_findWay_5 : decode cX1_findWay 5 = .ok (.getfield 30, 3) := by decide +kernel
theorem dX1_findWay_8 : decode cX1_findWay 8 = .ok (.getfield 56, 3) := by decide +kernel
theorem dX1_findWay_11 : decode cX1_findWay 11 = .ok (.iconst (-1), 1) := by decide +kernel
theorem dX1_findWay_12 : decode cX1_findWay 12 = .ok (.if_icmp .eq 14, 3) := by decide +kernel
theorem dX1_findWay_15 : decode cX1_findWay 15 = .ok (.aload_n 0, 1) := by decide +kernel
theorem dX1_findWay_16 : decode cX1_findWay 16 = .ok (.getfield 30, 3) := by decide +kernel
theorem dX1_findWay_19 : decode cX1_findWay 19 = .ok (.getfield 61, 3) := by decide +kernel
theorem dX1_findWay_22 : decode cX1_findWay 22 = .ok (.iconst (-1), 1) := by decide +kernel
theorem dX1_findWay_23 : decode cX1_findWay 23 = .ok (.if_icmp .ne 4, 3) := by decide +kernel
theorem dX1_findWay_26 : decode cX1_findWay 26 = .ok (.return_, 1) := by decide +kernel
theorem dX1_findWay_27 : decode cX1_findWay 27 = .ok (.aload_n 0, 1) := by decide +kernel
theorem dX1_findWay_28 : decode cX1_findWay 28 = .ok (.getfield 18, 3) := by decide +kernel
theorem dX1_findWay_31 : decode cX1_findWay 31 = .ok (.aload_n 0, 1) := by decide +kernel
theorem dX1_findWay_32 : decode cX1_findWay 32 = .ok (.getfield 30, 3) := by decide +kernel
theorem dX1_findWay_35 : decode cX1_findWay 35 = .ok (.getfield 61, 3) := by decide +kernel
theorem dX1_findWay_38 : decode cX1_findWay 38 = .ok (.if_icmp .eq 43, 3) := by decide +kernel
theorem dX1_findWay_41 : decode cX1_findWay 41 = .ok (.aload_n 0, 1) := by decide +kernel
theorem dX1_findWay_42 : decode cX1_findWay 42 = .ok (.getfield 12, 3) := by decide +kernel
theorem dX1_findWay_45 : decode cX1_findWay 45 = .ok (.aload_n 0, 1) := by decide +kernel
theorem dX1_findWay_46 : decode cX1_findWay 46 = .ok (.getfield 26, 3) := by decide +kernel
theorem dX1_findWay_49 : decode cX1_findWay 49 = .ok (.aload_n 0, 1) := by decide +kernel
theorem dX1_findWay_50 : decode cX1_findWay 50 = .ok (.getfield 30, 3) := by decide +kernel
theorem dX1_findWay_53 : decode cX1_findWay 53 = .ok (.getfield 61, 3) := by decide +kernel
theorem dX1_findWay_56 : decode cX1_findWay 56 = .ok (.bipush 24, 2) := by decide +kernel
theorem dX1_findWay_58 : decode cX1_findWay 58 = .ok (.aload_n 0, 1) := by decide +kernel
theorem dX1_findWay_59 : decode cX1_findWay 59 = .ok (.getfield 26, 3) := by decide +kernel
theorem dX1_findWay_62 : decode cX1_findWay 62 = .ok (.getfield 64, 3) := by decide +kernel
theorem dX1_findWay_65 : decode cX1_findWay 65 = .ok (.iconst 1, 1) := by decide +kernel
theorem dX1_findWay_66 : decode cX1_findWay 66 = .ok (.iaload, 1) := by decide +kernel
theorem dX1_findWay_67 : decode cX1_findWay 67 = .ok (.invokevirtual 69, 3) := by decide +kernel
theorem dX1_findWay_70 : decode cX1_findWay 70 = .ok (.aload_n 0, 1) := by decide +kernel
theorem dX1_findWay_71 : decode cX1_findWay 71 = .ok (.aload_n 0, 1) := by decide +kernel
theorem dX1_findWay_72 : decode cX1_findWay 72 = .ok (.getfield 30, 3) := by decide +kernel
theorem dX1_findWay_75 : decode cX1_findWay 75 = .ok (.getfield 61, 3) := by decide +kernel
theorem dX1_findWay_78 : decode cX1_findWay 78 = .ok (.putfield 18, 3) := by decide +kernel
theorem dX1_findWay_81 : decode cX1_findWay 81 = .ok (.aload_n 0, 1) := by decide +kernel
theorem dX1_findWay_82 : decode cX1_findWay 82 = .ok (.invokevirtual 73, 3) := by decide +kernel
theorem dX1_findWay_85 : decode cX1_findWay 85 = .ok (.istore_n 1, 1) := by decide +kernel
theorem dX1_findWay_86 : decode cX1_findWay 86 = .ok (.iload_n 1, 1) := by decide +kernel
theorem dX1_findWay_87 : decode cX1_findWay 87 = .ok (.iconst (-1), 1) := by decide +kernel
theorem dX1_findWay_88 : decode cX1_findWay 88 = .ok (.if_icmp .eq 17, 3) := by decide +kernel
theorem dX1_findWay_91 : decode cX1_findWay 91 = .ok (.aload_n 0, 1) := by decide +kernel
theorem dX1_findWay_92 : decode cX1_findWay 92 = .ok (.iload_n 1, 1) := by decide +kernel
theorem dX1_findWay_93 : decode cX1_findWay 93 = .ok (.invokevirtual 77, 3) := by decide +kernel
theorem dX1_findWay_96 : decode cX1_findWay 96 = .ok (.aload_n 0, 1) := by decide +kernel
theorem dX1_findWay_97 : decode cX1_findWay 97 = .ok (.aload_n 0, 1) := by decide +kernel
theorem dX1_findWay_98 : decode cX1_findWay 98 = .ok (.iload_n 1, 1) := by decide +kernel
theorem dX1_findWay_99 : decode cX1_findWay 99 = .ok (.invokevirtual 81, 3) := by decide +kernel
theorem dX1_findWay_102 : decode cX1_findWay 102 = .ok (.invokevirtual 84, 3) := by decide +kernel
theorem dX1_findWay_105 : decode cX1_findWay 105 = .ok (.return_, 1) := by decide +kernel
theorem dX1_addStep_0 : decode cX1_addStep 0 = .ok (.aload_n 0, 1) := by decide +kernel
theorem dX1_addStep_1 : decode cX1_addStep 1 = .ok (.getfield 34, 3) := by decide +kernel
theorem dX1_addStep_4 : decode cX1_addStep 4 = .ok (.bipush 21, 2) := by decide +kernel
theorem dX1_addStep_6 : decode cX1_addStep 6 = .ok (.if_icmp .ge 23, 3) := by decide +kernel
theorem dX1_addStep_9 : decode cX1_addStep 9 = .ok (.aload_n 0, 1) := by decide +kernel
theorem dX1_addStep_10 : decode cX1_addStep 10 = .ok (.getfield 22, 3) := by decide +kernel
theorem dX1_addStep_13 : decode cX1_addStep 13 = .ok (.aload_n 0, 1) := by decide +kernel
theorem dX1_addStep_14 : decode cX1_addStep 14 = .ok (.getfield 34, 3) := by decide +kernel
theorem dX1_addStep_17 : decode cX1_addStep 17 = .ok (.iload_n 1, 1) := by decide +kernel
theorem dX1_addStep_18 : decode cX1_addStep 18 = .ok (.iastore, 1) := by decide +kernel
theorem dX1_addStep_19 : decode cX1_addStep 19 = .ok (.aload_n 0, 1) := by decide +kernel
theorem dX1_addStep_20 : decode cX1_addStep 20 = .ok (.dup, 1) := by decide +kernel
theorem dX1_addStep_21 : decode cX1_addStep 21 = .ok (.getfield 34, 3) := by decide +kernel
theorem dX1_addStep_24 : decode cX1_addStep 24 = .ok (.iconst 1, 1) := by decide +kernel
theorem dX1_addStep_25 : decode cX1_addStep 25 = .ok (.iadd, 1) := by decide +kernel
theorem dX1_addStep_26 : decode cX1_addStep 26 = .ok (.putfield 34, 3) := by decide +kernel
theorem dX1_addStep_29 : decode cX1_addStep 29 = .ok (.return_, 1) := by decide +kernel
theorem dX1_firstStep_0 : decode cX1_firstStep 0 = .ok (.iconst (-1), 1) := by decide +kernel
theorem dX1_firstStep_1 : decode cX1_firstStep 1 = .ok (.istore_n 1, 1) := by decide +kernel
theorem dX1_firstStep_2 : decode cX1_firstStep 2 = .ok (.ldc2_w 47, 3) := by decide +kernel
theorem dX1_firstStep_5 : decode cX1_firstStep 5 = .ok (.lstore_n 2, 1) := by decide +kernel
theorem dX1_firstStep_6 : decode cX1_firstStep 6 = .ok (.iconst 0, 1) := by decide +kernel
theorem dX1_firstStep_7 : decode cX1_firstStep 7 = .ok (.istore 4, 2) := by decide +kernel
theorem dX1_firstStep_9 : decode cX1_firstStep 9 = .ok (.iconst 0, 1) := by decide +kernel
theorem dX1_firstStep_10 : decode cX1_firstStep 10 = .ok (.istore 5, 2) := by decide +kernel
theorem dX1_firstStep_12 : decode cX1_firstStep 12 = .ok (.iload 5, 2) := by decide +kernel
theorem dX1_firstStep_14 : decode cX1_firstStep 14 = .ok (.aload_n 0, 1) := by decide +kernel
theorem dX1_firstStep_15 : decode cX1_firstStep 15 = .ok (.getfield 26, 3) := by decide +kernel
theorem dX1_firstStep_18 : decode cX1_firstStep 18 = .ok (.getfield 87, 3) := by decide +kernel
theorem dX1_firstStep_21 : decode cX1_firstStep 21 = .ok (.if_icmp .gt 98, 3) := by decide +kernel
theorem dX1_firstStep_24 : decode cX1_firstStep 24 = .ok (.iload 5, 2) := by decide +kernel
theorem dX1_firstStep_26 : decode cX1_firstStep 26 = .ok (.aload_n 0, 1) := by decide +kernel
theorem dX1_firstStep_27 : decode cX1_firstStep 27 = .ok (.getfield 26, 3) := by decide +kernel
theorem dX1_firstStep_30 : decode cX1_firstStep 30 = .ok (.getfield 87, 3) := by decide +kernel
theorem dX1_firstStep_33 : decode cX1_firstStep 33 = .ok (.if_icmp .ge 8, 3) := by decide +kernel
theorem dX1_firstStep_36 : decode cX1_firstStep 36 = .ok (.iload 5, 2) := by decide +kernel
theorem dX1_firstStep_38 : decode cX1_firstStep 38 = .ok (.goto 5, 3) := by decide +kernel
theorem dX1_firstStep_41 : decode cX1_firstStep 41 = .ok (.bipush 100, 2) := by decide +kernel
theorem dX1_firstStep_43 : decode cX1_firstStep 43 = .ok (.istore 6, 2) := by decide +kernel
theorem dX1_firstStep_45 : decode cX1_firstStep 45 = .ok (.aload_n 0, 1) := by decide +kernel
theorem dX1_firstStep_46 : decode cX1_firstStep 46 = .ok (.iload 6, 2) := by decide +kernel
theorem dX1_firstStep_48 : decode cX1_firstStep 48 = .ok (.invokevirtual 90, 3) := by decide +kernel
theorem dX1_firstStep_51 : decode cX1_firstStep 51 = .ok (.ifCond .ne 6, 3) := by decide +kernel
theorem dX1_firstStep_54 : decode cX1_firstStep 54 = .ok (.goto 59, 3) := by decide +kernel
theorem dX1_firstStep_57 : decode cX1_firstStep 57 = .ok (.aload_n 0, 1) := by decide +kernel
theorem dX1_firstStep_58 : decode cX1_firstStep 58 = .ok (.iload 6, 2) := by decide +kernel
theorem dX1_firstStep_60 : decode cX1_firstStep 60 = .ok (.invokevirtual 49, 3) := by decide +kernel
theorem dX1_firstStep_63 : decode cX1_firstStep 63 = .ok (.lstore 7, 2) := by decide +kernel
theorem dX1_firstStep_65 : decode cX1_firstStep 65 = .ok (.aload_n 0, 1) := by decide +kernel
theorem dX1_firstStep_66 : decode cX1_firstStep 66 = .ok (.getfield 12, 3) := by decide +kernel
theorem dX1_firstStep_69 : decode cX1_firstStep 69 = .ok (.getfield 94, 3) := by decide +kernel
theorem dX1_firstStep_72 : decode cX1_firstStep 72 = .ok (.aload_n 0, 1) := by decide +kernel
theorem dX1_firstStep_73 : decode cX1_firstStep 73 = .ok (.iload 6, 2) := by decide +kernel
theorem dX1_firstStep_75 : decode cX1_firstStep 75 = .ok (.invokevirtual 81, 3) := by decide +kernel
theorem dX1_firstStep_78 : decode cX1_firstStep 78 = .ok (.iaload, 1) := by decide +kernel
theorem dX1_firstStep_79 : decode cX1_firstStep 79 = .ok (.istore 9, 2) := by decide +kernel
theorem dX1_firstStep_81 : decode cX1_firstStep 81 = .ok (.lload 7, 2) := by decide +kernel
theorem dX1_firstStep_83 : decode cX1_firstStep 83 = .ok (.ldc2_w 47, 3) := by decide +kernel
theorem dX1_firstStep_86 : decode cX1_firstStep 86 = .ok (.lcmp, 1) := by decide +kernel
theorem dX1_firstStep_87 : decode cX1_firstStep 87 = .ok (.ifCond .eq 26, 3) := by decide +kernel
theorem dX1_firstStep_90 : decode cX1_firstStep 90 = .ok (.lload 7, 2) := by decide +kernel
theorem dX1_firstStep_92 : decode cX1_firstStep 92 = .ok (.iload 9, 2) := by decide +kernel
theorem dX1_firstStep_94 : decode cX1_firstStep 94 = .ok (.lload_n 2, 1) := by decide +kernel
theorem dX1_firstStep_95 : decode cX1_firstStep 95 = .ok (.iload 4, 2) := by decide +kernel
theorem dX1_firstStep_97 : decode cX1_firstStep 97 = .ok (.invokestatic 95, 3) := by decide +kernel
theorem dX1_firstStep_100 : decode cX1_firstStep 100 = .ok (.ifCond .eq 13, 3) := by decide +kernel
theorem dX1_firstStep_103 : decode cX1_firstStep 103 = .ok (.iload 6, 2) := by decide +kernel
theorem dX1_firstStep_105 : decode cX1_firstStep 105 = .ok (.istore_n 1, 1) := by decide +kernel
theorem dX1_firstStep_106 : decode cX1_firstStep 106 = .ok (.lload 7, 2) := by decide +kernel
theorem dX1_firstStep_108 : decode cX1_firstStep 108 = .ok (.lstore_n 2, 1) := by decide +kernel
theorem dX1_firstStep_109 : decode cX1_firstStep 109 = .ok (.iload 9, 2) := by decide +kernel
theorem dX1_firstStep_111 : decode cX1_firstStep 111 = .ok (.istore 4, 2) := by decide +kernel
theorem dX1_firstStep_113 : decode cX1_firstStep 113 = .ok (.iinc 5 1, 3) := by decide +kernel
theorem dX1_firstStep_116 : decode cX1_firstStep 116 = .ok (.goto (-104), 3) := by decide +kernel
theorem dX1_firstStep_119 : decode cX1_firstStep 119 = .ok (.iload_n 1, 1) := by decide +kernel
theorem dX1_firstStep_120 : decode cX1_firstStep 120 = .ok (.ireturn, 1) := by decide +kernel
theorem dX1_isOpen_0 : decode cX1_isOpen 0 = .ok (.iload_n 1, 1) := by decide +kernel
theorem dX1_isOpen_1 : decode cX1_isOpen 1 = .ok (.bipush 100, 2) := by decide +kernel
theorem dX1_isOpen_3 : decode cX1_isOpen 3 = .ok (.if_icmp .ne 27, 3) := by decide +kernel
theorem dX1_isOpen_6 : decode cX1_isOpen 6 = .ok (.aload_n 0, 1) := by decide +kernel
theorem dX1_isOpen_7 : decode cX1_isOpen 7 = .ok (.getfield 26, 3) := by decide +kernel
theorem dX1_isOpen_10 : decode cX1_isOpen 10 = .ok (.getfield 99, 3) := by decide +kernel
theorem dX1_isOpen_13 : decode cX1_isOpen 13 = .ok (.aload_n 0, 1) := by decide +kernel
theorem dX1_isOpen_14 : decode cX1_isOpen 14 = .ok (.getfield 30, 3) := by decide +kernel
theorem dX1_isOpen_17 : decode cX1_isOpen 17 = .ok (.getfield 56, 3) := by decide +kernel
theorem dX1_isOpen_20 : decode cX1_isOpen 20 = .ok (.iaload, 1) := by decide +kernel
theorem dX1_isOpen_21 : decode cX1_isOpen 21 = .ok (.ifCond .ne 7, 3) := by decide +kernel
theorem dX1_isOpen_24 : decode cX1_isOpen 24 = .ok (.iconst 1, 1) := by decide +kernel
theorem dX1_isOpen_25 : decode cX1_isOpen 25 = .ok (.goto 4, 3) := by decide +kernel
theorem dX1_isOpen_28 : decode cX1_isOpen 28 = .ok (.iconst 0, 1) := by decide +kernel
theorem dX1_isOpen_29 : decode cX1_isOpen 29 = .ok (.ireturn, 1) := by decide +kernel
theorem dX1_isOpen_30 : decode cX1_isOpen 30 = .ok (.aload_n 0, 1) := by decide +kernel
theorem dX1_isOpen_31 : decode cX1_isOpen 31 = .ok (.getfield 26, 3) := by decide +kernel
theorem dX1_isOpen_34 : decode cX1_isOpen 34 = .ok (.getfield 102, 3) := by decide +kernel
theorem dX1_isOpen_37 : decode cX1_isOpen 37 = .ok (.iload_n 1, 1) := by decide +kernel
theorem dX1_isOpen_38 : decode cX1_isOpen 38 = .ok (.iaload, 1) := by decide +kernel
theorem dX1_isOpen_39 : decode cX1_isOpen 39 = .ok (.aload_n 0, 1) := by decide +kernel
theorem dX1_isOpen_40 : decode cX1_isOpen 40 = .ok (.getfield 30, 3) := by decide +kernel
theorem dX1_isOpen_43 : decode cX1_isOpen 43 = .ok (.getfield 56, 3) := by decide +kernel
theorem dX1_isOpen_46 : decode cX1_isOpen 46 = .ok (.if_icmp .ne 26, 3) := by decide +kernel
theorem dX1_isOpen_49 : decode cX1_isOpen 49 = .ok (.aload_n 0, 1) := by decide +kernel
theorem dX1_isOpen_50 : decode cX1_isOpen 50 = .ok (.getfield 26, 3) := by decide +kernel
theorem dX1_isOpen_53 : decode cX1_isOpen 53 = .ok (.getfield 105, 3) := by decide +kernel
theorem dX1_isOpen_56 : decode cX1_isOpen 56 = .ok (.iload_n 1, 1) := by decide +kernel
theorem dX1_isOpen_57 : decode cX1_isOpen 57 = .ok (.iaload, 1) := by decide +kernel
theorem dX1_isOpen_58 : decode cX1_isOpen 58 = .ok (.aload_n 0, 1) := by decide +kernel
theorem dX1_isOpen_59 : decode cX1_isOpen 59 = .ok (.getfield 30, 3) := by decide +kernel
theorem dX1_isOpen_62 : decode cX1_isOpen 62 = .ok (.getfield 108, 3) := by decide +kernel
theorem dX1_isOpen_65 : decode cX1_isOpen 65 = .ok (.if_icmp .le 7, 3) := by decide +kernel
theorem dX1_isOpen_68 : decode cX1_isOpen 68 = .ok (.iconst 1, 1) := by decide +kernel
theorem dX1_isOpen_69 : decode cX1_isOpen 69 = .ok (.goto 4, 3) := by decide +kernel
theorem dX1_isOpen_72 : decode cX1_isOpen 72 = .ok (.iconst 0, 1) := by decide +kernel
theorem dX1_isOpen_73 : decode cX1_isOpen 73 = .ok (.ireturn, 1) := by decide +kernel
theorem dX1_pieceBehind_0 : decode cX1_pieceBehind 0 = .ok (.iload_n 1, 1) := by decide +kernel
theorem dX1_pieceBehind_1 : decode cX1_pieceBehind 1 = .ok (.bipush 100, 2) := by decide +kernel
theorem dX1_pieceBehind_3 : decode cX1_pieceBehind 3 = .ok (.if_icmp .ne 13, 3) := by decide +kernel
theorem dX1_pieceBehind_6 : decode cX1_pieceBehind 6 = .ok (.aload_n 0, 1) := by decide +kernel
theorem dX1_pieceBehind_7 : decode cX1_pieceBehind 7 = .ok (.getfield 30, 3) := by decide +kernel
theorem dX1_pieceBehind_10 : decode cX1_pieceBehind 10 = .ok (.getfield 56, 3) := by decide +kernel
theorem dX1_pieceBehind_13 : decode cX1_pieceBehind 13 = .ok (.goto 12, 3) := by decide +kernel
theorem dX1_pieceBehind_16 : decode cX1_pieceBehind 16 = .ok (.aload_n 0, 1) := by decide +kernel
theorem dX1_pieceBehind_17 : decode cX1_pieceBehind 17 = .ok (.getfield 26, 3) := by decide +kernel
theorem dX1_pieceBehind_20 : decode cX1_pieceBehind 20 = .ok (.getfield 111, 3) := by decide +kernel
theorem dX1_pieceBehind_23 : decode cX1_pieceBehind 23 = .ok (.iload_n 1, 1) := by decide +kernel
theorem dX1_pieceBehind_24 : decode cX1_pieceBehind 24 = .ok (.iaload, 1) := by decide +kernel
theorem dX1_pieceBehind_25 : decode cX1_pieceBehind 25 = .ok (.ireturn, 1) := by decide +kernel
theorem dX1_costBy_0 : decode cX1_costBy 0 = .ok (.aload_n 0, 1) := by decide +kernel
theorem dX1_costBy_1 : decode cX1_costBy 1 = .ok (.getfield 12, 3) := by decide +kernel
theorem dX1_costBy_4 : decode cX1_costBy 4 = .ok (.getfield 114, 3) := by decide +kernel
theorem dX1_costBy_7 : decode cX1_costBy 7 = .ok (.aload_n 0, 1) := by decide +kernel
theorem dX1_costBy_8 : decode cX1_costBy 8 = .ok (.iload_n 1, 1) := by decide +kernel
theorem dX1_costBy_9 : decode cX1_costBy 9 = .ok (.invokevirtual 81, 3) := by decide +kernel
theorem dX1_costBy_12 : decode cX1_costBy 12 = .ok (.laload, 1) := by decide +kernel
theorem dX1_costBy_13 : decode cX1_costBy 13 = .ok (.lstore_n 2, 1) := by decide +kernel
theorem dX1_costBy_14 : decode cX1_costBy 14 = .ok (.lload_n 2, 1) := by decide +kernel
theorem dX1_costBy_15 : decode cX1_costBy 15 = .ok (.ldc2_w 47, 3) := by decide +kernel
theorem dX1_costBy_18 : decode cX1_costBy 18 = .ok (.lcmp, 1) := by decide +kernel
theorem dX1_costBy_19 : decode cX1_costBy 19 = .ok (.ifCond .ne 7, 3) := by decide +kernel
theorem dX1_costBy_22 : decode cX1_costBy 22 = .ok (.ldc2_w 47, 3) := by decide +kernel
theorem dX1_costBy_25 : decode cX1_costBy 25 = .ok (.lreturn, 1) := by decide +kernel
theorem dX1_costBy_26 : decode cX1_costBy 26 = .ok (.aload_n 0, 1) := by decide +kernel
theorem dX1_costBy_27 : decode cX1_costBy 27 = .ok (.getfield 30, 3) := by decide +kernel
theorem dX1_costBy_30 : decode cX1_costBy 30 = .ok (.getfield 56, 3) := by decide +kernel
theorem dX1_costBy_33 : decode cX1_costBy 33 = .ok (.istore 4, 2) := by decide +kernel
theorem dX1_costBy_35 : decode cX1_costBy 35 = .ok (.iload_n 1, 1) := by decide +kernel
theorem dX1_costBy_36 : decode cX1_costBy 36 = .ok (.bipush 100, 2) := by decide +kernel
theorem dX1_costBy_38 : decode cX1_costBy 38 = .ok (.if_icmp .ne 7, 3) := by decide +kernel
theorem dX1_costBy_41 : decode cX1_costBy 41 = .ok (.iconst 1, 1) := by decide +kernel
theorem dX1_costBy_42 : decode cX1_costBy 42 = .ok (.goto 4, 3) := by decide +kernel
theorem dX1_costBy_45 : decode cX1_costBy 45 = .ok (.iconst 0, 1) := by decide +kernel
theorem dX1_costBy_46 : decode cX1_costBy 46 = .ok (.istore 5, 2) := by decide +kernel
theorem dX1_costBy_48 : decode cX1_costBy 48 = .ok (.iload 5, 2) := by decide +kernel
theorem dX1_costBy_50 : decode cX1_costBy 50 = .ok (.ifCond .eq 15, 3) := by decide +kernel
theorem dX1_costBy_53 : decode cX1_costBy 53 = .ok (.aload_n 0, 1) := by decide +kernel
theorem dX1_costBy_54 : decode cX1_costBy 54 = .ok (.getfield 26, 3) := by decide +kernel
theorem dX1_costBy_57 : decode cX1_costBy 57 = .ok (.getfield 64, 3) := by decide +kernel
theorem dX1_costBy_60 : decode cX1_costBy 60 = .ok (.iconst 0, 1) := by decide +kernel
theorem dX1_costBy_61 : decode cX1_costBy 61 = .ok (.iaload, 1) := by decide +kernel
theorem dX1_costBy_62 : decode cX1_costBy 62 = .ok (.goto 12, 3) := by decide +kernel
theorem dX1_costBy_65 : decode cX1_costBy 65 = .ok (.aload_n 0, 1) := by decide +kernel
theorem dX1_costBy_66 : decode cX1_costBy 66 = .ok (.getfield 26, 3) := by decide +kernel
theorem dX1_costBy_69 : decode cX1_costBy 69 = .ok (.getfield 118, 3) := by decide +kernel
theorem dX1_costBy_72 : decode cX1_costBy 72 = .ok (.iload_n 1, 1) := by decide +kernel
theorem dX1_costBy_73 : decode cX1_costBy 73 = .ok (.iaload, 1) := by decide +kernel
theorem dX1_costBy_74 : decode cX1_costBy 74 = .ok (.istore 6, 2) := by decide +kernel
theorem dX1_costBy_76 : decode cX1_costBy 76 = .ok (.iload 5, 2) := by decide +kernel
theorem dX1_costBy_78 : decode cX1_costBy 78 = .ok (.ifCond .eq 16, 3) := by decide +kernel
theorem dX1_costBy_81 : decode cX1_costBy 81 = .ok (.aload_n 0, 1) := by decide +kernel
theorem dX1_costBy_82 : decode cX1_costBy 82 = .ok (.getfield 26, 3) := by decide +kernel
theorem dX1_costBy_85 : decode cX1_costBy 85 = .ok (.getfield 121, 3) := by decide +kernel
theorem dX1_costBy_88 : decode cX1_costBy 88 = .ok (.iload 4, 2) := by decide +kernel
theorem dX1_costBy_90 : decode cX1_costBy 90 = .ok (.iaload, 1) := by decide +kernel
theorem dX1_costBy_91 : decode cX1_costBy 91 = .ok (.goto 12, 3) := by decide +kernel
theorem dX1_costBy_94 : decode cX1_costBy 94 = .ok (.aload_n 0, 1) := by decide +kernel
theorem dX1_costBy_95 : decode cX1_costBy 95 = .ok (.getfield 26, 3) := by decide +kernel
theorem dX1_costBy_98 : decode cX1_costBy 98 = .ok (.getfield 105, 3) := by decide +kernel
theorem dX1_costBy_101 : decode cX1_costBy 101 = .ok (.iload_n 1, 1) := by decide +kernel
theorem dX1_costBy_102 : decode cX1_costBy 102 = .ok (.iaload, 1) := by decide +kernel
theorem dX1_costBy_103 : decode cX1_costBy 103 = .ok (.istore 7, 2) := by decide +kernel
theorem dX1_costBy_105 : decode cX1_costBy 105 = .ok (.iload 7, 2) := by decide +kernel
theorem dX1_costBy_107 : decode cX1_costBy 107 = .ok (.aload_n 0, 1) := by decide +kernel
theorem dX1_costBy_108 : decode cX1_costBy 108 = .ok (.getfield 30, 3) := by decide +kernel
theorem dX1_costBy_111 : decode cX1_costBy 111 = .ok (.getfield 108, 3) := by decide +kernel
theorem dX1_costBy_114 : decode cX1_costBy 114 = .ok (.isub, 1) := by decide +kernel
theorem dX1_costBy_115 : decode cX1_costBy 115 = .ok (.i2l, 1) := by decide +kernel
theorem dX1_costBy_116 : decode cX1_costBy 116 = .ok (.aload_n 0, 1) := by decide +kernel
theorem dX1_costBy_117 : decode cX1_costBy 117 = .ok (.getfield 26, 3) := by decide +kernel
theorem dX1_costBy_120 : decode cX1_costBy 120 = .ok (.getfield 124, 3) := by decide +kernel
theorem dX1_costBy_123 : decode cX1_costBy 123 = .ok (.iload 4, 2) := by decide +kernel
theorem dX1_costBy_125 : decode cX1_costBy 125 = .ok (.iaload, 1) := by decide +kernel
theorem dX1_costBy_126 : decode cX1_costBy 126 = .ok (.i2l, 1) := by decide +kernel
theorem dX1_costBy_127 : decode cX1_costBy 127 = .ok (.lmul, 1) := by decide +kernel
theorem dX1_costBy_128 : decode cX1_costBy 128 = .ok (.aload_n 0, 1) := by decide +kernel
theorem dX1_costBy_129 : decode cX1_costBy 129 = .ok (.getfield 30, 3) := by decide +kernel
theorem dX1_costBy_132 : decode cX1_costBy 132 = .ok (.invokevirtual 127, 3) := by decide +kernel
theorem dX1_costBy_135 : decode cX1_costBy 135 = .ok (.lsub, 1) := by decide +kernel
theorem dX1_costBy_136 : decode cX1_costBy 136 = .ok (.lstore 8, 2) := by decide +kernel
theorem dX1_costBy_138 : decode cX1_costBy 138 = .ok (.lload_n 2, 1) := by decide +kernel
theorem dX1_costBy_139 : decode cX1_costBy 139 = .ok (.bipush 24, 2) := by decide +kernel
theorem dX1_costBy_141 : decode cX1_costBy 141 = .ok (.iload 6, 2) := by decide +kernel
theorem dX1_costBy_143 : decode cX1_costBy 143 = .ok (.imul, 1) := by decide +kernel
theorem dX1_costBy_144 : decode cX1_costBy 144 = .ok (.i2l, 1) := by decide +kernel
theorem dX1_costBy_145 : decode cX1_costBy 145 = .ok (.ladd, 1) := by decide +kernel
theorem dX1_costBy_146 : decode cX1_costBy 146 = .ok (.aload_n 0, 1) := by decide +kernel
theorem dX1_costBy_147 : decode cX1_costBy 147 = .ok (.getfield 26, 3) := by decide +kernel
theorem dX1_costBy_150 : decode cX1_costBy 150 = .ok (.getfield 64, 3) := by decide +kernel
theorem dX1_costBy_153 : decode cX1_costBy 153 = .ok (.iconst 1, 1) := by decide +kernel
theorem dX1_costBy_154 : decode cX1_costBy 154 = .ok (.iaload, 1) := by decide +kernel
theorem dX1_costBy_155 : decode cX1_costBy 155 = .ok (.i2l, 1) := by decide +kernel
theorem dX1_costBy_156 : decode cX1_costBy 156 = .ok (.lload 8, 2) := by decide +kernel
theorem dX1_costBy_158 : decode cX1_costBy 158 = .ok (.lmul, 1) := by decide +kernel
theorem dX1_costBy_159 : decode cX1_costBy 159 = .ok (.ladd, 1) := by decide +kernel
theorem dX1_costBy_160 : decode cX1_costBy 160 = .ok (.lreturn, 1) := by decide +kernel
theorem dX1_followTable_0 : decode cX1_followTable 0 = .ok (.iload_n 1, 1) := by decide +kernel
theorem dX1_followTable_1 : decode cX1_followTable 1 = .ok (.istore_n 2, 1) := by decide +kernel
theorem dX1_followTable_2 : decode cX1_followTable 2 = .ok (.iconst 1, 1) := by decide +kernel
theorem dX1_followTable_3 : decode cX1_followTable 3 = .ok (.istore_n 3, 1) := by decide +kernel
theorem dX1_followTable_4 : decode cX1_followTable 4 = .ok (.iload_n 3, 1) := by decide +kernel
theorem dX1_followTable_5 : decode cX1_followTable 5 = .ok (.bipush 21, 2) := by decide +kernel
theorem dX1_followTable_7 : decode cX1_followTable 7 = .ok (.if_icmp .ge 52, 3) := by decide +kernel
theorem dX1_followTable_10 : decode cX1_followTable 10 = .ok (.aload_n 0, 1) := by decide +kernel
theorem dX1_followTable_11 : decode cX1_followTable 11 = .ok (.getfield 12, 3) := by decide +kernel
theorem dX1_followTable_14 : decode cX1_followTable 14 = .ok (.getfield 94, 3) := by decide +kernel
theorem dX1_followTable_17 : decode cX1_followTable 17 = .ok (.iload_n 2, 1) := by decide +kernel
theorem dX1_followTable_18 : decode cX1_followTable 18 = .ok (.iaload, 1) := by decide +kernel
theorem dX1_followTable_19 : decode cX1_followTable 19 = .ok (.ifCond .le 40, 3) := by decide +kernel
theorem dX1_followTable_22 : decode cX1_followTable 22 = .ok (.aload_n 0, 1) := by decide +kernel
theorem dX1_followTable_23 : decode cX1_followTable 23 = .ok (.iload_n 2, 1) := by decide +kernel
theorem dX1_followTable_24 : decode cX1_followTable 24 = .ok (.invokevirtual 131, 3) := by decide +kernel
theorem dX1_followTable_27 : decode cX1_followTable 27 = .ok (.istore 4, 2) := by decide +kernel
theorem dX1_followTable_29 : decode cX1_followTable 29 = .ok (.iload 4, 2) := by decide +kernel
theorem dX1_followTable_31 : decode cX1_followTable 31 = .ok (.iconst (-1), 1) := by decide +kernel
theorem dX1_followTable_32 : decode cX1_followTable 32 = .ok (.if_icmp .ne 4, 3) := by decide +kernel
theorem dX1_followTable_35 : decode cX1_followTable 35 = .ok (.return_, 1) := by decide +kernel
theorem dX1_followTable_36 : decode cX1_followTable 36 = .ok (.aload_n 0, 1) := by decide +kernel
theorem dX1_followTable_37 : decode cX1_followTable 37 = .ok (.iload 4, 2) := by decide +kernel
theorem dX1_followTable_39 : decode cX1_followTable 39 = .ok (.invokevirtual 77, 3) := by decide +kernel
theorem dX1_followTable_42 : decode cX1_followTable 42 = .ok (.aload_n 0, 1) := by decide +kernel
theorem dX1_followTable_43 : decode cX1_followTable 43 = .ok (.getfield 26, 3) := by decide +kernel
theorem dX1_followTable_46 : decode cX1_followTable 46 = .ok (.getfield 111, 3) := by decide +kernel
theorem dX1_followTable_49 : decode cX1_followTable 49 = .ok (.iload 4, 2) := by decide +kernel
theorem dX1_followTable_51 : decode cX1_followTable 51 = .ok (.iaload, 1) := by decide +kernel
theorem dX1_followTable_52 : decode cX1_followTable 52 = .ok (.istore_n 2, 1) := by decide +kernel
theorem dX1_followTable_53 : decode cX1_followTable 53 = .ok (.iinc 3 1, 3) := by decide +kernel
theorem dX1_followTable_56 : decode cX1_followTable 56 = .ok (.goto (-52), 3) := by decide +kernel
theorem dX1_followTable_59 : decode cX1_followTable 59 = .ok (.return_, 1) := by decide +kernel
theorem dX1_firstOnTable_0 : decode cX1_firstOnTable 0 = .ok (.iconst 0, 1) := by decide +kernel
theorem dX1_firstOnTable_1 : decode cX1_firstOnTable 1 = .ok (.istore_n 2, 1) := by decide +kernel
theorem dX1_firstOnTable_2 : decode cX1_firstOnTable 2 = .ok (.iload_n 2, 1) := by decide +kernel
theorem dX1_firstOnTable_3 : decode cX1_firstOnTable 3 = .ok (.aload_n 0, 1) := by decide +kernel
theorem dX1_firstOnTable_4 : decode cX1_firstOnTable 4 = .ok (.getfield 26, 3) := by decide +kernel
theorem dX1_firstOnTable_7 : decode cX1_firstOnTable 7 = .ok (.getfield 87, 3) := by decide +kernel
theorem dX1_firstOnTable_10 : decode cX1_firstOnTable 10 = .ok (.if_icmp .ge 133, 3) := by decide +kernel
theorem dX1_firstOnTable_13 : decode cX1_firstOnTable 13 = .ok (.aload_n 0, 1) := by decide +kernel
theorem dX1_firstOnTable_14 : decode cX1_firstOnTable 14 = .ok (.getfield 26, 3) := by decide +kernel
theorem dX1_firstOnTable_17 : decode cX1_firstOnTable 17 = .ok (.getfield 111, 3) := by decide +kernel
theorem dX1_firstOnTable_20 : decode cX1_firstOnTable 20 = .ok (.iload_n 2, 1) := by decide +kernel
theorem dX1_firstOnTable_21 : decode cX1_firstOnTable 21 = .ok (.iaload, 1) := by decide +kernel
theorem dX1_firstOnTable_22 : decode cX1_firstOnTable 22 = .ok (.istore_n 3, 1) := by decide +kernel
theorem dX1_firstOnTable_23 : decode cX1_firstOnTable 23 = .ok (.bipush 24, 2) := by decide +kernel
theorem dX1_firstOnTable_25 : decode cX1_firstOnTable 25 = .ok (.aload_n 0, 1) := by decide +kernel
theorem dX1_firstOnTable_26 : decode cX1_firstOnTable 26 = .ok (.getfield 26, 3) := by decide +kernel
theorem dX1_firstOnTable_29 : decode cX1_firstOnTable 29 = .ok (.getfield 118, 3) := by decide +kernel
theorem dX1_firstOnTable_32 : decode cX1_firstOnTable 32 = .ok (.iload_n 2, 1) := by decide +kernel
theorem dX1_firstOnTable_33 : decode cX1_firstOnTable 33 = .ok (.iaload, 1) := by decide +kernel
theorem dX1_firstOnTable_34 : decode cX1_firstOnTable 34 = .ok (.imul, 1) := by decide +kernel
theorem dX1_firstOnTable_35 : decode cX1_firstOnTable 35 = .ok (.i2l, 1) := by decide +kernel
theorem dX1_firstOnTable_36 : decode cX1_firstOnTable 36 = .ok (.aload_n 0, 1) := by decide +kernel
theorem dX1_firstOnTable_37 : decode cX1_firstOnTable 37 = .ok (.getfield 26, 3) := by decide +kernel
theorem dX1_firstOnTable_40 : decode cX1_firstOnTable 40 = .ok (.getfield 64, 3) := by decide +kernel
theorem dX1_firstOnTable_43 : decode cX1_firstOnTable 43 = .ok (.iconst 1, 1) := by decide +kernel
theorem dX1_firstOnTable_44 : decode cX1_firstOnTable 44 = .ok (.iaload, 1) := by decide +kernel
theorem dX1_firstOnTable_45 : decode cX1_firstOnTable 45 = .ok (.i2l, 1) := by decide +kernel
theorem dX1_firstOnTable_46 : decode cX1_firstOnTable 46 = .ok (.aload_n 0, 1) := by decide +kernel
theorem dX1_firstOnTable_47 : decode cX1_firstOnTable 47 = .ok (.getfield 26, 3) := by decide +kernel
theorem dX1_firstOnTable_50 : decode cX1_firstOnTable 50 = .ok (.iload_n 2, 1) := by decide +kernel
theorem dX1_firstOnTable_51 : decode cX1_firstOnTable 51 = .ok (.invokevirtual 134, 3) := by decide +kernel
theorem dX1_firstOnTable_54 : decode cX1_firstOnTable 54 = .ok (.lmul, 1) := by decide +kernel
theorem dX1_firstOnTable_55 : decode cX1_firstOnTable 55 = .ok (.ladd, 1) := by decide +kernel
theorem dX1_firstOnTable_56 : decode cX1_firstOnTable 56 = .ok (.lstore 4, 2) := by decide +kernel
theorem dX1_firstOnTable_58 : decode cX1_firstOnTable 58 = .ok (.aload_n 0, 1) := by decide +kernel
theorem dX1_firstOnTable_59 : decode cX1_firstOnTable 59 = .ok (.getfield 26, 3) := by decide +kernel
theorem dX1_firstOnTable_62 : decode cX1_firstOnTable 62 = .ok (.getfield 102, 3) := by decide +kernel
theorem dX1_firstOnTable_65 : decode cX1_firstOnTable 65 = .ok (.iload_n 2, 1) := by decide +kernel
theorem dX1_firstOnTable_66 : decode cX1_firstOnTable 66 = .ok (.iaload, 1) := by decide +kernel
theorem dX1_firstOnTable_67 : decode cX1_firstOnTable 67 = .ok (.iload_n 1, 1) := by decide +kernel
theorem dX1_firstOnTable_68 : decode cX1_firstOnTable 68 = .ok (.if_icmp .ne 69, 3) := by decide +kernel
theorem dX1_firstOnTable_71 : decode cX1_firstOnTable 71 = .ok (.aload_n 0, 1) := by decide +kernel
theorem dX1_firstOnTable_72 : decode cX1_firstOnTable 72 = .ok (.getfield 12, 3) := by decide +kernel
theorem dX1_firstOnTable_75 : decode cX1_firstOnTable 75 = .ok (.getfield 114, 3) := by decide +kernel
theorem dX1_firstOnTable_78 : decode cX1_firstOnTable 78 = .ok (.iload_n 3, 1) := by decide +kernel
theorem dX1_firstOnTable_79 : decode cX1_firstOnTable 79 = .ok (.laload, 1) := by decide +kernel
theorem dX1_firstOnTable_80 : decode cX1_firstOnTable 80 = .ok (.ldc2_w 47, 3) := by decide +kernel
theorem dX1_firstOnTable_83 : decode cX1_firstOnTable 83 = .ok (.lcmp, 1) := by decide +kernel
theorem dX1_firstOnTable_84 : decode cX1_firstOnTable 84 = .ok (.ifCond .eq 53, 3) := by decide +kernel
theorem dX1_firstOnTable_87 : decode cX1_firstOnTable 87 = .ok (.aload_n 0, 1) := by decide +kernel
theorem dX1_firstOnTable_88 : decode cX1_firstOnTable 88 = .ok (.getfield 12, 3) := by decide +kernel
theorem dX1_firstOnTable_91 : decode cX1_firstOnTable 91 = .ok (.getfield 114, 3) := by decide +kernel
theorem dX1_firstOnTable_94 : decode cX1_firstOnTable 94 = .ok (.iload_n 3, 1) := by decide +kernel
theorem dX1_firstOnTable_95 : decode cX1_firstOnTable 95 = .ok (.laload, 1) := by decide +kernel
theorem dX1_firstOnTable_96 : decode cX1_firstOnTable 96 = .ok (.lload 4, 2) := by decide +kernel
theorem dX1_firstOnTable_98 : decode cX1_firstOnTable 98 = .ok (.ladd, 1) := by decide +kernel
theorem dX1_firstOnTable_99 : decode cX1_firstOnTable 99 = .ok (.aload_n 0, 1) := by decide +kernel
theorem dX1_firstOnTable_100 : decode cX1_firstOnTable 100 = .ok (.getfield 12, 3) := by decide +kernel
theorem dX1_firstOnTable_103 : decode cX1_firstOnTable 103 = .ok (.getfield 114, 3) := by decide +kernel
theorem dX1_firstOnTable_106 : decode cX1_firstOnTable 106 = .ok (.iload_n 1, 1) := by decide +kernel
theorem dX1_firstOnTable_107 : decode cX1_firstOnTable 107 = .ok (.laload, 1) := by decide +kernel
theorem dX1_firstOnTable_108 : decode cX1_firstOnTable 108 = .ok (.lcmp, 1) := by decide +kernel
theorem dX1_firstOnTable_109 : decode cX1_firstOnTable 109 = .ok (.ifCond .ne 28, 3) := by decide +kernel
theorem dX1_firstOnTable_112 : decode cX1_firstOnTable 112 = .ok (.aload_n 0, 1) := by decide +kernel
theorem dX1_firstOnTable_113 : decode cX1_firstOnTable 113 = .ok (.getfield 12, 3) := by decide +kernel
theorem dX1_firstOnTable_116 : decode cX1_firstOnTable 116 = .ok (.getfield 94, 3) := by decide +kernel
theorem dX1_firstOnTable_119 : decode cX1_firstOnTable 119 = .ok (.iload_n 3, 1) := by decide +kernel
theorem dX1_firstOnTable_120 : decode cX1_firstOnTable 120 = .ok (.iaload, 1) := by decide +kernel
theorem dX1_firstOnTable_121 : decode cX1_firstOnTable 121 = .ok (.iconst 1, 1) := by decide +kernel
theorem dX1_firstOnTable_122 : decode cX1_firstOnTable 122 = .ok (.iadd, 1) := by decide +kernel
theorem dX1_firstOnTable_123 : decode cX1_firstOnTable 123 = .ok (.aload_n 0, 1) := by decide +kernel
theorem dX1_firstOnTable_124 : decode cX1_firstOnTable 124 = .ok (.getfield 12, 3) := by decide +kernel
theorem dX1_firstOnTable_127 : decode cX1_firstOnTable 127 = .ok (.getfield 94, 3) := by decide +kernel
theorem dX1_firstOnTable_130 : decode cX1_firstOnTable 130 = .ok (.iload_n 1, 1) := by decide +kernel
theorem dX1_firstOnTable_131 : decode cX1_firstOnTable 131 = .ok (.iaload, 1) := by decide +kernel
theorem dX1_firstOnTable_132 : decode cX1_firstOnTable 132 = .ok (.if_icmp .ne 5, 3) := by decide +kernel
theorem dX1_firstOnTable_135 : decode cX1_firstOnTable 135 = .ok (.iload_n 2, 1) := by decide +kernel
theorem dX1_firstOnTable_136 : decode cX1_firstOnTable 136 = .ok (.ireturn, 1) := by decide +kernel
theorem dX1_firstOnTable_137 : decode cX1_firstOnTable 137 = .ok (.iinc 2 1, 3) := by decide +kernel
theorem dX1_firstOnTable_140 : decode cX1_firstOnTable 140 = .ok (.goto (-138), 3) := by decide +kernel
theorem dX1_firstOnTable_143 : decode cX1_firstOnTable 143 = .ok (.iconst (-1), 1) := by decide +kernel
theorem dX1_firstOnTable_144 : decode cX1_firstOnTable 144 = .ok (.ireturn, 1) := by decide +kernel
theorem dX2_init_0 : decode cX2_init 0 = .ok (.aload_n 0, 1) := by decide +kernel
theorem dX2_init_1 : decode cX2_init 1 = .ok (.invokespecial 3, 3) := by decide +kernel
theorem dX2_init_4 : decode cX2_init 4 = .ok (.aload_n 0, 1) := by decide +kernel
theorem dX2_init_5 : decode cX2_init 5 = .ok (.bipush 20, 2) := by decide +kernel
theorem dX2_init_7 : decode cX2_init 7 = .ok (.newarray .int, 2) := by decide +kernel
theorem dX2_init_9 : decode cX2_init 9 = .ok (.putfield 9, 3) := by decide +kernel
theorem dX2_init_12 : decode cX2_init 12 = .ok (.aload_n 0, 1) := by decide +kernel
theorem dX2_init_13 : decode cX2_init 13 = .ok (.bipush 20, 2) := by decide +kernel
theorem dX2_init_15 : decode cX2_init 15 = .ok (.newarray .int, 2) := by decide +kernel
theorem dX2_init_17 : decode cX2_init 17 = .ok (.putfield 15, 3) := by decide +kernel
theorem dX2_init_20 : decode cX2_init 20 = .ok (.aload_n 0, 1) := by decide +kernel
theorem dX2_init_21 : decode cX2_init 21 = .ok (.bipush 20, 2) := by decide +kernel
theorem dX2_init_23 : decode cX2_init 23 = .ok (.newarray .int, 2) := by decide +kernel
theorem dX2_init_25 : decode cX2_init 25 = .ok (.putfield 18, 3) := by decide +kernel
theorem dX2_init_28 : decode cX2_init 28 = .ok (.aload_n 0, 1) := by decide +kernel
theorem dX2_init_29 : decode cX2_init 29 = .ok (.bipush 20, 2) := by decide +kernel
theorem dX2_init_31 : decode cX2_init 31 = .ok (.newarray .int, 2) := by decide +kernel
theorem dX2_init_33 : decode cX2_init 33 = .ok (.putfield 21, 3) := by decide +kernel
theorem dX2_init_36 : decode cX2_init 36 = .ok (.aload_n 0, 1) := by decide +kernel
theorem dX2_init_37 : decode cX2_init 37 = .ok (.bipush 20, 2) := by decide +kernel
theorem dX2_init_39 : decode cX2_init 39 = .ok (.newarray .int, 2) := by decide +kernel
theorem dX2_init_41 : decode cX2_init 41 = .ok (.putfield 24, 3) := by decide +kernel
theorem dX2_init_44 : decode cX2_init 44 = .ok (.aload_n 0, 1) := by decide +kernel
theorem dX2_init_45 : decode cX2_init 45 = .ok (.bipush 100, 2) := by decide +kernel
theorem dX2_init_47 : decode cX2_init 47 = .ok (.newarray .int, 2) := by decide +kernel
theorem dX2_init_49 : decode cX2_init 49 = .ok (.putfield 27, 3) := by decide +kernel
theorem dX2_init_52 : decode cX2_init 52 = .ok (.aload_n 0, 1) := by decide +kernel
theorem dX2_init_53 : decode cX2_init 53 = .ok (.bipush 100, 2) := by decide +kernel
theorem dX2_init_55 : decode cX2_init 55 = .ok (.newarray .int, 2) := by decide +kernel
theorem dX2_init_57 : decode cX2_init 57 = .ok (.putfield 30, 3) := by decide +kernel
theorem dX2_init_60 : decode cX2_init 60 = .ok (.aload_n 0, 1) := by decide +kernel
theorem dX2_init_61 : decode cX2_init 61 = .ok (.bipush 100, 2) := by decide +kernel
theorem dX2_init_63 : decode cX2_init 63 = .ok (.newarray .int, 2) := by decide +kernel
theorem dX2_init_65 : decode cX2_init 65 = .ok (.putfield 33, 3) := by decide +kernel
theorem dX2_init_68 : decode cX2_init 68 = .ok (.aload_n 0, 1) := by decide +kernel
theorem dX2_init_69 : decode cX2_init 69 = .ok (.bipush 100, 2) := by decide +kernel
theorem dX2_init_71 : decode cX2_init 71 = .ok (.newarray .int, 2) := by decide +kernel
theorem dX2_init_73 : decode cX2_init 73 = .ok (.putfield 36, 3) := by decide +kernel
theorem dX2_init_76 : decode cX2_init 76 = .ok (.aload_n 0, 1) := by decide +kernel
theorem dX2_init_77 : decode cX2_init 77 = .ok (.iconst 2, 1) := by decide +kernel
theorem dX2_init_78 : decode cX2_init 78 = .ok (.newarray .int, 2) := by decide +kernel
theorem dX2_init_80 : decode cX2_init 80 = .ok (.putfield 39, 3) := by decide +kernel
theorem dX2_init_83 : decode cX2_init 83 = .ok (.aload_n 0, 1) := by decide +kernel
theorem dX2_init_84 : decode cX2_init 84 = .ok (.getfield 39, 3) := by decide +kernel
theorem dX2_init_87 : decode cX2_init 87 = .ok (.iconst 0, 1) := by decide +kernel
theorem dX2_init_88 : decode cX2_init 88 = .ok (.bipush 10, 2) := by decide +kernel
theorem dX2_init_90 : decode cX2_init 90 = .ok (.iastore, 1) := by decide +kernel
theorem dX2_init_91 : decode cX2_init 91 = .ok (.aload_n 0, 1) := by decide +kernel
theorem dX2_init_92 : decode cX2_init 92 = .ok (.getfield 39, 3) := by decide +kernel
theorem dX2_init_95 : decode cX2_init 95 = .ok (.iconst 1, 1) := by decide +kernel
theorem dX2_init_96 : decode cX2_init 96 = .ok (.iconst 1, 1) := by decide +kernel
theorem dX2_init_97 : decode cX2_init 97 = .ok (.iastore, 1) := by decide +kernel
theorem dX2_init_98 : decode cX2_init 98 = .ok (.return_, 1) := by decide +kernel
theorem dX2_addPiece_0 : decode cX2_addPiece 0 = .ok (.iload_n 1, 1) := by decide +kernel
theorem dX2_addPiece_1 : decode cX2_addPiece 1 = .ok (.ifCond .eq 8, 3) := by decide +kernel
theorem dX2_addPiece_4 : decode cX2_addPiece 4 = .ok (.iload_n 1, 1) := by decide +kernel
theorem dX2_addPiece_5 : decode cX2_addPiece 5 = .ok (.iconst 1, 1) := by decide +kernel
theorem dX2_addPiece_6 : decode cX2_addPiece 6 = .ok (.if_icmp .ne 9, 3) := by decide +kernel
theorem dX2_addPiece_9 : decode cX2_addPiece 9 = .ok (.sipush 255, 3) := by decide +kernel
theorem dX2_addPiece_12 : decode cX2_addPiece 12 = .ok (.goto 4, 3) := by decide +kernel
theorem dX2_addPiece_15 : decode cX2_addPiece 15 = .ok (.iconst 0, 1) := by decide +kernel
theorem dX2_addPiece_16 : decode cX2_addPiece 16 = .ok (.istore 6, 2) := by decide +kernel
theorem dX2_addPiece_18 : decode cX2_addPiece 18 = .ok (.iload_n 1, 1) := by decide +kernel
theorem dX2_addPiece_19 : decode cX2_addPiece 19 = .ok (.ifCond .lt 61, 3) := by decide +kernel
theorem dX2_addPiece_22 : decode cX2_addPiece 22 = .ok (.iload_n 1, 1) := by decide +kernel
theorem dX2_addPiece_23 : decode cX2_addPiece 23 = .ok (.iconst 3, 1) := by decide +kernel
theorem dX2_addPiece_24 : decode cX2_addPiece 24 = .ok (.if_icmp .gt 56, 3) := by decide +kernel
theorem dX2_addPiece_27 : decode cX2_addPiece 27 = .ok (.iload_n 2, 1) := by decide +kernel
theorem dX2_addPiece_28 : decode cX2_addPiece 28 = .ok (.iconst 1, 1) := by decide +kernel
theorem dX2_addPiece_29 : decode cX2_addPiece 29 = .ok (.if_icmp .lt 51, 3) := by decide +kernel
theorem dX2_addPiece_32 : decode cX2_addPiece 32 = .ok (.iload_n 2, 1) := by decide +kernel
theorem dX2_addPiece_33 : decode cX2_addPiece 33 = .ok (.bipush 64, 2) := by decide +kernel
theorem dX2_addPiece_35 : decode cX2_addPiece 35 = .ok (.if_icmp .gt 45, 3) := by decide +kernel
theorem dX2_addPiece_38 : decode cX2_addPiece 38 = .ok (.iload_n 3, 1) := by decide +kernel
theorem dX2_addPiece_39 : decode cX2_addPiece 39 = .ok (.bipush 24, 2) := by decide +kernel
theorem dX2_addPiece_41 : decode cX2_addPiece 41 = .ok (.if_icmp .lt 39, 3) := by decide +kernel
theorem dX2_addPiece_44 : decode cX2_addPiece 44 = .ok (.iload_n 3, 1) := by decide +kernel
theorem dX2_addPiece_45 : decode cX2_addPiece 45 = .ok (.sipush 2400, 3) := by decide +kernel
theorem dX2_addPiece_48 : decode cX2_addPiece 48 = .ok (.if_icmp .gt 32, 3) := by decide +kernel
theorem dX2_addPiece_51 : decode cX2_addPiece 51 = .ok (.iload 4, 2) := by decide +kernel
theorem dX2_addPiece_53 : decode cX2_addPiece 53 = .ok (.ifCond .lt 27, 3) := by decide +kernel
theorem dX2_addPiece_56 : decode cX2_addPiece 56 = .ok (.iload 4, 2) := by decide +kernel
theorem dX2_addPiece_58 : decode cX2_addPiece 58 = .ok (.iload 6, 2) := by decide +kernel
theorem dX2_addPiece_60 : decode cX2_addPiece 60 = .ok (.if_icmp .gt 20, 3) := by decide +kernel
theorem dX2_addPiece_63 : decode cX2_addPiece 63 = .ok (.iload 5, 2) := by decide +kernel
theorem dX2_addPiece_65 : decode cX2_addPiece 65 = .ok (.iconst 1, 1) := by decide +kernel
theorem dX2_addPiece_66 : decode cX2_addPiece 66 = .ok (.if_icmp .lt 14, 3) := by decide +kernel
theorem dX2_addPiece_69 : decode cX2_addPiece 69 = .ok (.iload 5, 2) := by decide +kernel
theorem dX2_addPiece_71 : decode cX2_addPiece 71 = .ok (.bipush 9, 2) := by decide +kernel
theorem dX2_addPiece_73 : decode cX2_addPiece 73 = .ok (.if_icmp .gt 7, 3) := by decide +kernel
theorem dX2_addPiece_76 : decode cX2_addPiece 76 = .ok (.iconst 1, 1) := by decide +kernel
theorem dX2_addPiece_77 : decode cX2_addPiece 77 = .ok (.goto 4, 3) := by decide +kernel
theorem dX2_addPiece_80 : decode cX2_addPiece 80 = .ok (.iconst 0, 1) := by decide +kernel
theorem dX2_addPiece_81 : decode cX2_addPiece 81 = .ok (.istore 7, 2) := by decide +kernel
theorem dX2_addPiece_83 : decode cX2_addPiece 83 = .ok (.iload 7, 2) := by decide +kernel
theorem dX2_addPiece_85 : decode cX2_addPiece 85 = .ok (.ifCond .eq 12, 3) := by decide +kernel
theorem dX2_addPiece_88 : decode cX2_addPiece 88 = .ok (.aload_n 0, 1) := by decide +kernel
theorem dX2_addPiece_89 : decode cX2_addPiece 89 = .ok (.getfield 42, 3) := by decide +kernel
theorem dX2_addPiece_92 : decode cX2_addPiece 92 = .ok (.bipush 20, 2) := by decide +kernel
theorem dX2_addPiece_94 : decode cX2_addPiece 94 = .ok (.if_icmp .lt 5, 3) := by decide +kernel
theorem dX2_addPiece_97 : decode cX2_addPiece 97 = .ok (.iconst (-1), 1) := by decide +kernel
theorem dX2_addPiece_98 : decode cX2_addPiece 98 = .ok (.ireturn, 1) := by decide +kernel
theorem dX2_addPiece_99 : decode cX2_addPiece 99 = .ok (.aload_n 0, 1) := by decide +kernel
theorem dX2_addPiece_100 : decode cX2_addPiece 100 = .ok (.getfield 9, 3) := by decide +kernel
theorem dX2_addPiece_103 : decode cX2_addPiece 103 = .ok (.aload_n 0, 1) := by decide +kernel
theorem dX2_addPiece_104 : decode cX2_addPiece 104 = .ok (.getfield 42, 3) := by decide +kernel
theorem dX2_addPiece_107 : decode cX2_addPiece 107 = .ok (.iload_n 1, 1) := by decide +kernel
theorem dX2_addPiece_108 : decode cX2_addPiece 108 = .ok (.iastore, 1) := by decide +kernel
theorem dX2_addPiece_109 : decode cX2_addPiece 109 = .ok (.aload_n 0, 1) := by decide +kernel
theorem dX2_addPiece_110 : decode cX2_addPiece 110 = .ok (.getfield 15, 3) := by decide +kernel
theorem dX2_addPiece_113 : decode cX2_addPiece 113 = .ok (.aload_n 0, 1) := by decide +kernel
theorem dX2_addPiece_114 : decode cX2_addPiece 114 = .ok (.getfield 42, 3) := by decide +kernel
theorem dX2_addPiece_117 : decode cX2_addPiece 117 = .ok (.iload_n 2, 1) := by decide +kernel
theorem dX2_addPiece_118 : decode cX2_addPiece 118 = .ok (.iastore, 1) := by decide +kernel
theorem dX2_addPiece_119 : decode cX2_addPiece 119 = .ok (.aload_n 0, 1) := by decide +kernel
theorem dX2_addPiece_120 : decode cX2_addPiece 120 = .ok (.getfield 18, 3) := by decide +kernel
theorem dX2_addPiece_123 : decode cX2_addPiece 123 = .ok (.aload_n 0, 1) := by decide +kernel
theorem dX2_addPiece_124 : decode cX2_addPiece 124 = .ok (.getfield 42, 3) := by decide +kernel
theorem dX2_addPiece_127 : decode cX2_addPiece 127 = .ok (.iload_n 3, 1) := by decide +kernel
theorem dX2_addPiece_128 : decode cX2_addPiece 128 = .ok (.iastore, 1) := by decide +kernel
theorem dX2_addPiece_129 : decode cX2_addPiece 129 = .ok (.aload_n 0, 1) := by decide +kernel
theorem dX2_addPiece_130 : decode cX2_addPiece 130 = .ok (.getfield 21, 3) := by decide +kernel
theorem dX2_addPiece_133 : decode cX2_addPiece 133 = .ok (.aload_n 0, 1) := by decide +kernel
theorem dX2_addPiece_134 : decode cX2_addPiece 134 = .ok (.getfield 42, 3) := by decide +kernel
theorem dX2_addPiece_137 : decode cX2_addPiece 137 = .ok (.iload 4, 2) := by decide +kernel
theorem dX2_addPiece_139 : decode cX2_addPiece 139 = .ok (.iastore, 1) := by decide +kernel
theorem dX2_addPiece_140 : decode cX2_addPiece 140 = .ok (.aload_n 0, 1) := by decide +kernel
theorem dX2_addPiece_141 : decode cX2_addPiece 141 = .ok (.getfield 24, 3) := by decide +kernel
theorem dX2_addPiece_144 : decode cX2_addPiece 144 = .ok (.aload_n 0, 1) := by decide +kernel
theorem dX2_addPiece_145 : decode cX2_addPiece 145 = .ok (.getfield 42, 3) := by decide +kernel
theorem dX2_addPiece_148 : decode cX2_addPiece 148 = .ok (.iload 5, 2) := by decide +kernel
theorem dX2_addPiece_150 : decode cX2_addPiece 150 = .ok (.iastore, 1) := by decide +kernel
theorem dX2_addPiece_151 : decode cX2_addPiece 151 = .ok (.aload_n 0, 1) := by decide +kernel
theorem dX2_addPiece_152 : decode cX2_addPiece 152 = .ok (.dup, 1) := by decide +kernel
theorem dX2_addPiece_153 : decode cX2_addPiece 153 = .ok (.getfield 42, 3) := by decide +kernel
theorem dX2_addPiece_156 : decode cX2_addPiece 156 = .ok (.iconst 1, 1) := by decide +kernel
theorem dX2_addPiece_157 : decode cX2_addPiece 157 = .ok (.iadd, 1) := by decide +kernel
theorem dX2_addPiece_158 : decode cX2_addPiece 158 = .ok (.putfield 42, 3) := by decide +kernel
theorem dX2_addPiece_161 : decode cX2_addPiece 161 = .ok (.aload_n 0, 1) := by decide +kernel
theorem dX2_addPiece_162 : decode cX2_addPiece 162 = .ok (.getfield 42, 3) := by decide +kernel
theorem dX2_addPiece_165 : decode cX2_addPiece 165 = .ok (.iconst 1, 1) := by decide +kernel
theorem dX2_addPiece_166 : decode cX2_addPiece 166 = .ok (.isub, 1) := by decide +kernel
theorem dX2_addPiece_167 : decode cX2_addPiece 167 = .ok (.ireturn, 1) := by decide +kernel
theorem dX2_addJoint_0 : decode cX2_addJoint 0 = .ok (.aload_n 0, 1) := by decide +kernel
theorem dX2_addJoint_1 : decode cX2_addJoint 1 = .ok (.iload_n 1, 1) := by decide +kernel
theorem dX2_addJoint_2 : decode cX2_addJoint 2 = .ok (.invokevirtual 46, 3) := by decide +kernel
theorem dX2_addJoint_5 : decode cX2_addJoint 5 = .ok (.ifCond .eq 42, 3) := by decide +kernel
theorem dX2_addJoint_8 : decode cX2_addJoint 8 = .ok (.aload_n 0, 1) := by decide +kernel
theorem dX2_addJoint_9 : decode cX2_addJoint 9 = .ok (.iload_n 3, 1) := by decide +kernel
theorem dX2_addJoint_10 : decode cX2_addJoint 10 = .ok (.invokevirtual 46, 3) := by decide +kernel
theorem dX2_addJoint_13 : decode cX2_addJoint 13 = .ok (.ifCond .eq 34, 3) := by decide +kernel
theorem dX2_addJoint_16 : decode cX2_addJoint 16 = .ok (.iload_n 2, 1) := by decide +kernel
theorem dX2_addJoint_17 : decode cX2_addJoint 17 = .ok (.iconst 1, 1) := by decide +kernel
theorem dX2_addJoint_18 : decode cX2_addJoint 18 = .ok (.if_icmp .lt 29, 3) := by decide +kernel
theorem dX2_addJoint_21 : decode cX2_addJoint 21 = .ok (.iload_n 2, 1) := by decide +kernel
theorem dX2_addJoint_22 : decode cX2_addJoint 22 = .ok (.aload_n 0, 1) := by decide +kernel
theorem dX2_addJoint_23 : decode cX2_addJoint 23 = .ok (.getfield 15, 3) := by decide +kernel
theorem dX2_addJoint_26 : decode cX2_addJoint 26 = .ok (.iload_n 1, 1) := by decide +kernel
theorem dX2_addJoint_27 : decode cX2_addJoint 27 = .ok (.iaload, 1) := by decide +kernel
theorem dX2_addJoint_28 : decode cX2_addJoint 28 = .ok (.if_icmp .gt 19, 3) := by decide +kernel
theorem dX2_addJoint_31 : decode cX2_addJoint 31 = .ok (.iload 4, 2) := by decide +kernel
theorem dX2_addJoint_33 : decode cX2_addJoint 33 = .ok (.ifCond .lt 14, 3) := by decide +kernel
theorem dX2_addJoint_36 : decode cX2_addJoint 36 = .ok (.iload 4, 2) := by decide +kernel
theorem dX2_addJoint_38 : decode cX2_addJoint 38 = .ok (.bipush 99, 2) := by decide +kernel
theorem dX2_addJoint_40 : decode cX2_addJoint 40 = .ok (.if_icmp .gt 7, 3) := by decide +kernel
theorem dX2_addJoint_43 : decode cX2_addJoint 43 = .ok (.iconst 1, 1) := by decide +kernel
theorem dX2_addJoint_44 : decode cX2_addJoint 44 = .ok (.goto 4, 3) := by decide +kernel
theorem dX2_addJoint_47 : decode cX2_addJoint 47 = .ok (.iconst 0, 1) := by decide +kernel
theorem dX2_addJoint_48 : decode cX2_addJoint 48 = .ok (.istore 5, 2) := by decide +kernel
theorem dX2_addJoint_50 : decode cX2_addJoint 50 = .ok (.iload 5, 2) := by decide +kernel
theorem dX2_addJoint_52 : decode cX2_addJoint 52 = .ok (.ifCond .eq 22, 3) := by decide +kernel
theorem dX2_addJoint_55 : decode cX2_addJoint 55 = .ok (.aload_n 0, 1) := by decide +kernel
theorem dX2_addJoint_56 : decode cX2_addJoint 56 = .ok (.getfield 50, 3) := by decide +kernel
theorem dX2_addJoint_59 : decode cX2_addJoint 59 = .ok (.bipush 100, 2) := by decide +kernel
theorem dX2_addJoint_61 : decode cX2_addJoint 61 = .ok (.if_icmp .ge 13, 3) := by decide +kernel
theorem dX2_addJoint_64 : decode cX2_addJoint 64 = .ok (.aload_n 0, 1) := by decide +kernel
theorem dX2_addJoint_65 : decode cX2_addJoint 65 = .ok (.iload_n 1, 1) := by decide +kernel
theorem dX2_addJoint_66 : decode cX2_addJoint 66 = .ok (.iload_n 2, 1) := by decide +kernel
theorem dX2_addJoint_67 : decode cX2_addJoint 67 = .ok (.iload_n 3, 1) := by decide +kernel
theorem dX2_addJoint_68 : decode cX2_addJoint 68 = .ok (.invokevirtual 53, 3) := by decide +kernel
theorem dX2_addJoint_71 : decode cX2_addJoint 71 = .ok (.ifCond .eq 5, 3) := by decide +kernel
theorem dX2_addJoint_74 : decode cX2_addJoint 74 = .ok (.iconst (-1), 1) := by decide +kernel
theorem dX2_addJoint_75 : decode cX2_addJoint 75 = .ok (.ireturn, 1) := by decide +kernel
theorem dX2_addJoint_76 : decode cX2_addJoint 76 = .ok (.aload_n 0, 1) := by decide +kernel
theorem dX2_addJoint_77 : decode cX2_addJoint 77 = .ok (.getfield 27, 3) := by decide +kernel
theorem dX2_addJoint_80 : decode cX2_addJoint 80 = .ok (.aload_n 0, 1) := by decide +kernel
theorem dX2_addJoint_81 : decode cX2_addJoint 81 = .ok (.getfield 50, 3) := by decide +kernel
theorem dX2_addJoint_84 : decode cX2_addJoint 84 = .ok (.iload_n 1, 1) := by decide +kernel
theorem dX2_addJoint_85 : decode cX2_addJoint 85 = .ok (.iastore, 1) := by decide +kernel
theorem dX2_addJoint_86 : decode cX2_addJoint 86 = .ok (.aload_n 0, 1) := by decide +kernel
theorem dX2_addJoint_87 : decode cX2_addJoint 87 = .ok (.getfield 30, 3) := by decide +kernel
theorem dX2_addJoint_90 : decode cX2_addJoint 90 = .ok (.aload_n 0, 1) := by decide +kernel
theorem dX2_addJoint_91 : decode cX2_addJoint 91 = .ok (.getfield 50, 3) := by decide +kernel
theorem dX2_addJoint_94 : decode cX2_addJoint 94 = .ok (.iload_n 2, 1) := by decide +kernel
theorem dX2_addJoint_95 : decode cX2_addJoint 95 = .ok (.iastore, 1) := by decide +kernel
theorem dX2_addJoint_96 : decode cX2_addJoint 96 = .ok (.aload_n 0, 1) := by decide +kernel
theorem dX2_addJoint_97 : decode cX2_addJoint 97 = .ok (.getfield 33, 3) := by decide +kernel
theorem dX2_addJoint_100 : decode cX2_addJoint 100 = .ok (.aload_n 0, 1) := by decide +kernel
theorem dX2_addJoint_101 : decode cX2_addJoint 101 = .ok (.getfield 50, 3) := by decide +kernel
theorem dX2_addJoint_104 : decode cX2_addJoint 104 = .ok (.iload_n 3, 1) := by decide +kernel
theorem dX2_addJoint_105 : decode cX2_addJoint 105 = .ok (.iastore, 1) := by decide +kernel
theorem dX2_addJoint_106 : decode cX2_addJoint 106 = .ok (.aload_n 0, 1) := by decide +kernel
theorem dX2_addJoint_107 : decode cX2_addJoint 107 = .ok (.getfield 36, 3) := by decide +kernel
theorem dX2_addJoint_110 : decode cX2_addJoint 110 = .ok (.aload_n 0, 1) := by decide +kernel
theorem dX2_addJoint_111 : decode cX2_addJoint 111 = .ok (.getfield 50, 3) := by decide +kernel
theorem dX2_addJoint_114 : decode cX2_addJoint 114 = .ok (.iload 4, 2) := by decide +kernel
theorem dX2_addJoint_116 : decode cX2_addJoint 116 = .ok (.iastore, 1) := by decide +kernel
theorem dX2_addJoint_117 : decode cX2_addJoint 117 = .ok (.aload_n 0, 1) := by decide +kernel
theorem dX2_addJoint_118 : decode cX2_addJoint 118 = .ok (.dup, 1) := by decide +kernel
theorem dX2_addJoint_119 : decode cX2_addJoint 119 = .ok (.getfield 50, 3) := by decide +kernel
theorem dX2_addJoint_122 : decode cX2_addJoint 122 = .ok (.iconst 1, 1) := by decide +kernel
theorem dX2_addJoint_123 : decode cX2_addJoint 123 = .ok (.iadd, 1) := by decide +kernel
theorem dX2_addJoint_124 : decode cX2_addJoint 124 = .ok (.putfield 50, 3) := by decide +kernel
theorem dX2_addJoint_127 : decode cX2_addJoint 127 = .ok (.aload_n 0, 1) := by decide +kernel
theorem dX2_addJoint_128 : decode cX2_addJoint 128 = .ok (.getfield 50, 3) := by decide +kernel
theorem dX2_addJoint_131 : decode cX2_addJoint 131 = .ok (.iconst 1, 1) := by decide +kernel
theorem dX2_addJoint_132 : decode cX2_addJoint 132 = .ok (.isub, 1) := by decide +kernel
theorem dX2_addJoint_133 : decode cX2_addJoint 133 = .ok (.ireturn, 1) := by decide +kernel
theorem dX2_isPiece_0 : decode cX2_isPiece 0 = .ok (.iload_n 1, 1) := by decide +kernel
theorem dX2_isPiece_1 : decode cX2_isPiece 1 = .ok (.ifCond .lt 15, 3) := by decide +kernel
theorem dX2_isPiece_4 : decode cX2_isPiece 4 = .ok (.iload_n 1, 1) := by decide +kernel
theorem dX2_isPiece_5 : decode cX2_isPiece 5 = .ok (.aload_n 0, 1) := by decide +kernel
theorem dX2_isPiece_6 : decode cX2_isPiece 6 = .ok (.getfield 42, 3) := by decide +kernel
theorem dX2_isPiece_9 : decode cX2_isPiece 9 = .ok (.if_icmp .ge 7, 3) := by decide +kernel
theorem dX2_isPiece_12 : decode cX2_isPiece 12 = .ok (.iconst 1, 1) := by decide +kernel
theorem dX2_isPiece_13 : decode cX2_isPiece 13 = .ok (.goto 4, 3) := by decide +kernel
theorem dX2_isPiece_16 : decode cX2_isPiece 16 = .ok (.iconst 0, 1) := by decide +kernel
theorem dX2_isPiece_17 : decode cX2_isPiece 17 = .ok (.ireturn, 1) := by decide +kernel
theorem dX2_canPlay_0 : decode cX2_canPlay 0 = .ok (.aload_n 0, 1) := by decide +kernel
theorem dX2_canPlay_1 : decode cX2_canPlay 1 = .ok (.iload_n 1, 1) := by decide +kernel
theorem dX2_canPlay_2 : decode cX2_canPlay 2 = .ok (.invokevirtual 57, 3) := by decide +kernel
theorem dX2_canPlay_5 : decode cX2_canPlay 5 = .ok (.ifCond .eq 26, 3) := by decide +kernel
theorem dX2_canPlay_8 : decode cX2_canPlay 8 = .ok (.aload_n 0, 1) := by decide +kernel
theorem dX2_canPlay_9 : decode cX2_canPlay 9 = .ok (.getfield 9, 3) := by decide +kernel
theorem dX2_canPlay_12 : decode cX2_canPlay 12 = .ok (.iload_n 1, 1) := by decide +kernel
theorem dX2_canPlay_13 : decode cX2_canPlay 13 = .ok (.iaload, 1) := by decide +kernel
theorem dX2_canPlay_14 : decode cX2_canPlay 14 = .ok (.ifCond .eq 13, 3) := by decide +kernel
theorem dX2_canPlay_17 : decode cX2_canPlay 17 = .ok (.aload_n 0, 1) := by decide +kernel
theorem dX2_canPlay_18 : decode cX2_canPlay 18 = .ok (.getfield 9, 3) := by decide +kernel
theorem dX2_canPlay_21 : decode cX2_canPlay 21 = .ok (.iload_n 1, 1) := by decide +kernel
theorem dX2_canPlay_22 : decode cX2_canPlay 22 = .ok (.iaload, 1) := by decide +kernel
theorem dX2_canPlay_23 : decode cX2_canPlay 23 = .ok (.iconst 1, 1) := by decide +kernel
theorem dX2_canPlay_24 : decode cX2_canPlay 24 = .ok (.if_icmp .ne 7, 3) := by decide +kernel
theorem dX2_canPlay_27 : decode cX2_canPlay 27 = .ok (.iconst 1, 1) := by decide +kernel
theorem dX2_canPlay_28 : decode cX2_canPlay 28 = .ok (.goto 4, 3) := by decide +kernel
theorem dX2_canPlay_31 : decode cX2_canPlay 31 = .ok (.iconst 0, 1) := by decide +kernel
theorem dX2_canPlay_32 : decode cX2_canPlay 32 = .ok (.ireturn, 1) := by decide +kernel
theorem dX2_hasMood_0 : decode cX2_hasMood 0 = .ok (.aload_n 0, 1) := by decide +kernel
theorem dX2_hasMood_1 : decode cX2_hasMood 1 = .ok (.getfield 21, 3) := by decide +kernel
theorem dX2_hasMood_4 : decode cX2_hasMood 4 = .ok (.iload_n 1, 1) := by decide +kernel
theorem dX2_hasMood_5 : decode cX2_hasMood 5 = .ok (.iaload, 1) := by decide +kernel
theorem dX2_hasMood_6 : decode cX2_hasMood 6 = .ok (.iload_n 2, 1) := by decide +kernel
theorem dX2_hasMood_7 : decode cX2_hasMood 7 = .ok (.ishr, 1) := by decide +kernel
theorem dX2_hasMood_8 : decode cX2_hasMood 8 = .ok (.iconst 1, 1) := by decide +kernel
theorem dX2_hasMood_9 : decode cX2_hasMood 9 = .ok (.iand, 1) := by decide +kernel
theorem dX2_hasMood_10 : decode cX2_hasMood 10 = .ok (.ifCond .eq 7, 3) := by decide +kernel
theorem dX2_hasMood_13 : decode cX2_hasMood 13 = .ok (.iconst 1, 1) := by decide +kernel
theorem dX2_hasMood_14 : decode cX2_hasMood 14 = .ok (.goto 4, 3) := by decide +kernel
theorem dX2_hasMood_17 : decode cX2_hasMood 17 = .ok (.iconst 0, 1) := by decide +kernel
theorem dX2_hasMood_18 : decode cX2_hasMood 18 = .ok (.ireturn, 1) := by decide +kernel
theorem dX2_isMultiple_0 : decode cX2_isMultiple 0 = .ok (.aload_n 0, 1) := by decide +kernel
theorem dX2_isMultiple_1 : decode cX2_isMultiple 1 = .ok (.getfield 15, 3) := by decide +kernel
theorem dX2_isMultiple_4 : decode cX2_isMultiple 4 = .ok (.iload_n 2, 1) := by decide +kernel
theorem dX2_isMultiple_5 : decode cX2_isMultiple 5 = .ok (.iaload, 1) := by decide +kernel
theorem dX2_isMultiple_6 : decode cX2_isMultiple 6 = .ok (.ifCond .le 18, 3) := by decide +kernel
theorem dX2_isMultiple_9 : decode cX2_isMultiple 9 = .ok (.iload_n 1, 1) := by decide +kernel
theorem dX2_isMultiple_10 : decode cX2_isMultiple 10 = .ok (.aload_n 0, 1) := by decide +kernel
theorem dX2_isMultiple_11 : decode cX2_isMultiple 11 = .ok (.getfield 15, 3) := by decide +kernel
theorem dX2_isMultiple_14 : decode cX2_isMultiple 14 = .ok (.iload_n 2, 1) := by decide +kernel
theorem dX2_isMultiple_15 : decode cX2_isMultiple 15 = .ok (.iaload, 1) := by decide +kernel
theorem dX2_isMultiple_16 : decode cX2_isMultiple 16 = .ok (.irem, 1) := by decide +kernel
theorem dX2_isMultiple_17 : decode cX2_isMultiple 17 = .ok (.ifCond .ne 7, 3) := by decide +kernel
theorem dX2_isMultiple_20 : decode cX2_isMultiple 20 = .ok (.iconst 1, 1) := by decide +kernel
theorem dX2_isMultiple_21 : decode cX2_isMultiple 21 = .ok (.goto 4, 3) := by decide +kernel
theorem dX2_isMultiple_24 : decode cX2_isMultiple 24 = .ok (.iconst 0, 1) := by decide +kernel
theorem dX2_isMultiple_25 : decode cX2_isMultiple 25 = .ok (.ireturn, 1) := by decide +kernel
theorem dX2_length_0 : decode cX2_length 0 = .ok (.aload_n 0, 1) := by decide +kernel
theorem dX2_length_1 : decode cX2_length 1 = .ok (.getfield 15, 3) := by decide +kernel
theorem dX2_length_4 : decode cX2_length 4 = .ok (.iload_n 1, 1) := by decide +kernel
theorem dX2_length_5 : decode cX2_length 5 = .ok (.iaload, 1) := by decide +kernel
theorem dX2_length_6 : decode cX2_length 6 = .ok (.i2l, 1) := by decide +kernel
theorem dX2_length_7 : decode cX2_length 7 = .ok (.aload_n 0, 1) := by decide +kernel
theorem dX2_length_8 : decode cX2_length 8 = .ok (.getfield 18, 3) := by decide +kernel
theorem dX2_length_11 : decode cX2_length 11 = .ok (.iload_n 1, 1) := by decide +kernel
theorem dX2_length_12 : decode cX2_length 12 = .ok (.iaload, 1) := by decide +kernel
theorem dX2_length_13 : decode cX2_length 13 = .ok (.i2l, 1) := by decide +kernel
theorem dX2_length_14 : decode cX2_length 14 = .ok (.lmul, 1) := by decide +kernel
theorem dX2_length_15 : decode cX2_length 15 = .ok (.lreturn, 1) := by decide +kernel
theorem dX2_timeTo_0 : decode cX2_timeTo 0 = .ok (.aload_n 0, 1) := by decide +kernel
theorem dX2_timeTo_1 : decode cX2_timeTo 1 = .ok (.getfield 30, 3) := by decide +kernel
theorem dX2_timeTo_4 : decode cX2_timeTo 4 = .ok (.iload_n 1, 1) := by decide +kernel
theorem dX2_timeTo_5 : decode cX2_timeTo 5 = .ok (.iaload, 1) := by decide +kernel
theorem dX2_timeTo_6 : decode cX2_timeTo 6 = .ok (.i2l, 1) := by decide +kernel
theorem dX2_timeTo_7 : decode cX2_timeTo 7 = .ok (.aload_n 0, 1) := by decide +kernel
theorem dX2_timeTo_8 : decode cX2_timeTo 8 = .ok (.getfield 18, 3) := by decide +kernel
theorem dX2_timeTo_11 : decode cX2_timeTo 11 = .ok (.aload_n 0, 1) := by decide +kernel
theorem dX2_timeTo_12 : decode cX2_timeTo 12 = .ok (.getfield 27, 3) := by decide +kernel
theorem dX2_timeTo_15 : decode cX2_timeTo 15 = .ok (.iload_n 1, 1) := by decide +kernel
theorem dX2_timeTo_16 : decode cX2_timeTo 16 = .ok (.iaload, 1) := by decide +kernel
theorem dX2_timeTo_17 : decode cX2_timeTo 17 = .ok (.iaload, 1) := by decide +kernel
theorem dX2_timeTo_18 : decode cX2_timeTo 18 = .ok (.i2l, 1) := by decide +kernel
theorem dX2_timeTo_19 : decode cX2_timeTo 19 = .ok (.lmul, 1) := by decide +kernel
theorem dX2_timeTo_20 : decode cX2_timeTo 20 = .ok (.lreturn, 1) := by decide +kernel
theorem dX2_cheapestAtEnd_0 : decode cX2_cheapestAtEnd 0 = .ok (.iconst (-1), 1) := by decide +kernel
theorem dX2_cheapestAtEnd_1 : decode cX2_cheapestAtEnd 1 = .ok (.istore_n 2, 1) := by decide +kernel
theorem dX2_cheapestAtEnd_2 : decode cX2_cheapestAtEnd 2 = .ok (.iconst 0, 1) := by decide +kernel
theorem dX2_cheapestAtEnd_3 : decode cX2_cheapestAtEnd 3 = .ok (.istore_n 3, 1) := by decide +kernel
theorem dX2_cheapestAtEnd_4 : decode cX2_cheapestAtEnd 4 = .ok (.iload_n 3, 1) := by decide +kernel
theorem dX2_cheapestAtEnd_5 : decode cX2_cheapestAtEnd 5 = .ok (.aload_n 0, 1) := by decide +kernel
theorem dX2_cheapestAtEnd_6 : decode cX2_cheapestAtEnd 6 = .ok (.getfield 50, 3) := by decide +kernel
theorem dX2_cheapestAtEnd_9 : decode cX2_cheapestAtEnd 9 = .ok (.if_icmp .ge 68, 3) := by decide +kernel
theorem dX2_cheapestAtEnd_12 : decode cX2_cheapestAtEnd 12 = .ok (.aload_n 0, 1) := by decide +kernel
theorem dX2_cheapestAtEnd_13 : decode cX2_cheapestAtEnd 13 = .ok (.getfield 27, 3) := by decide +kernel
theorem dX2_cheapestAtEnd_16 : decode cX2_cheapestAtEnd 16 = .ok (.iload_n 3, 1) := by decide +kernel
theorem dX2_cheapestAtEnd_17 : decode cX2_cheapestAtEnd 17 = .ok (.iaload, 1) := by decide +kernel
theorem dX2_cheapestAtEnd_18 : decode cX2_cheapestAtEnd 18 = .ok (.iload_n 1, 1) := by decide +kernel
theorem dX2_cheapestAtEnd_19 : decode cX2_cheapestAtEnd 19 = .ok (.if_icmp .ne 22, 3) := by decide +kernel
theorem dX2_cheapestAtEnd_22 : decode cX2_cheapestAtEnd 22 = .ok (.aload_n 0, 1) := by decide +kernel
theorem dX2_cheapestAtEnd_23 : decode cX2_cheapestAtEnd 23 = .ok (.getfield 30, 3) := by decide +kernel
theorem dX2_cheapestAtEnd_26 : decode cX2_cheapestAtEnd 26 = .ok (.iload_n 3, 1) := by decide +kernel
theorem dX2_cheapestAtEnd_27 : decode cX2_cheapestAtEnd 27 = .ok (.iaload, 1) := by decide +kernel
theorem dX2_cheapestAtEnd_28 : decode cX2_cheapestAtEnd 28 = .ok (.aload_n 0, 1) := by decide +kernel
theorem dX2_cheapestAtEnd_29 : decode cX2_cheapestAtEnd 29 = .ok (.getfield 15, 3) := by decide +kernel
theorem dX2_cheapestAtEnd_32 : decode cX2_cheapestAtEnd 32 = .ok (.iload_n 1, 1) := by decide +kernel
theorem dX2_cheapestAtEnd_33 : decode cX2_cheapestAtEnd 33 = .ok (.iaload, 1) := by decide +kernel
theorem dX2_cheapestAtEnd_34 : decode cX2_cheapestAtEnd 34 = .ok (.if_icmp .ne 7, 3) := by decide +kernel
theorem dX2_cheapestAtEnd_37 : decode cX2_cheapestAtEnd 37 = .ok (.iconst 1, 1) := by decide +kernel
theorem dX2_cheapestAtEnd_38 : decode cX2_cheapestAtEnd 38 = .ok (.goto 4, 3) := by decide +kernel
theorem dX2_cheapestAtEnd_41 : decode cX2_cheapestAtEnd 41 = .ok (.iconst 0, 1) := by decide +kernel
theorem dX2_cheapestAtEnd_42 : decode cX2_cheapestAtEnd 42 = .ok (.istore 4, 2) := by decide +kernel
theorem dX2_cheapestAtEnd_44 : decode cX2_cheapestAtEnd 44 = .ok (.iload 4, 2) := by decide +kernel
theorem dX2_cheapestAtEnd_46 : decode cX2_cheapestAtEnd 46 = .ok (.ifCond .eq 25, 3) := by decide +kernel
theorem dX2_cheapestAtEnd_49 : decode cX2_cheapestAtEnd 49 = .ok (.iload_n 2, 1) := by decide +kernel
theorem dX2_cheapestAtEnd_50 : decode cX2_cheapestAtEnd 50 = .ok (.iconst (-1), 1) := by decide +kernel
theorem dX2_cheapestAtEnd_51 : decode cX2_cheapestAtEnd 51 = .ok (.if_icmp .eq 18, 3) := by decide +kernel
theorem dX2_cheapestAtEnd_54 : decode cX2_cheapestAtEnd 54 = .ok (.aload_n 0, 1) := by decide +kernel
theorem dX2_cheapestAtEnd_55 : decode cX2_cheapestAtEnd 55 = .ok (.getfield 36, 3) := by decide +kernel
theorem dX2_cheapestAtEnd_58 : decode cX2_cheapestAtEnd 58 = .ok (.iload_n 3, 1) := by decide +kernel
theorem dX2_cheapestAtEnd_59 : decode cX2_cheapestAtEnd 59 = .ok (.iaload, 1) := by decide +kernel
theorem dX2_cheapestAtEnd_60 : decode cX2_cheapestAtEnd 60 = .ok (.aload_n 0, 1) := by decide +kernel
theorem dX2_cheapestAtEnd_61 : decode cX2_cheapestAtEnd 61 = .ok (.getfield 36, 3) := by decide +kernel
theorem dX2_cheapestAtEnd_64 : decode cX2_cheapestAtEnd 64 = .ok (.iload_n 2, 1) := by decide +kernel
theorem dX2_cheapestAtEnd_65 : decode cX2_cheapestAtEnd 65 = .ok (.iaload, 1) := by decide +kernel
theorem dX2_cheapestAtEnd_66 : decode cX2_cheapestAtEnd 66 = .ok (.if_icmp .ge 5, 3) := by decide +kernel
theorem dX2_cheapestAtEnd_69 : decode cX2_cheapestAtEnd 69 = .ok (.iload_n 3, 1) := by decide +kernel
theorem dX2_cheapestAtEnd_70 : decode cX2_cheapestAtEnd 70 = .ok (.istore_n 2, 1) := by decide +kernel
theorem dX2_cheapestAtEnd_71 : decode cX2_cheapestAtEnd 71 = .ok (.iinc 3 1, 3) := by decide +kernel
theorem dX2_cheapestAtEnd_74 : decode cX2_cheapestAtEnd 74 = .ok (.goto (-70), 3) := by decide +kernel
theorem dX2_cheapestAtEnd_77 : decode cX2_cheapestAtEnd 77 = .ok (.iload_n 2, 1) := by decide +kernel
theorem dX2_cheapestAtEnd_78 : decode cX2_cheapestAtEnd 78 = .ok (.ireturn, 1) := by decide +kernel
theorem dX2_firstWithMood_0 : decode cX2_firstWithMood 0 = .ok (.iconst 0, 1) := by decide +kernel
theorem dX2_firstWithMood_1 : decode cX2_firstWithMood 1 = .ok (.istore_n 2, 1) := by decide +kernel
theorem dX2_firstWithMood_2 : decode cX2_firstWithMood 2 = .ok (.iload_n 2, 1) := by decide +kernel
theorem dX2_firstWithMood_3 : decode cX2_firstWithMood 3 = .ok (.aload_n 0, 1) := by decide +kernel
theorem dX2_firstWithMood_4 : decode cX2_firstWithMood 4 = .ok (.getfield 42, 3) := by decide +kernel
theorem dX2_firstWithMood_7 : decode cX2_firstWithMood 7 = .ok (.if_icmp .ge 20, 3) := by decide +kernel
theorem dX2_firstWithMood_10 : decode cX2_firstWithMood 10 = .ok (.aload_n 0, 1) := by decide +kernel
theorem dX2_firstWithMood_11 : decode cX2_firstWithMood 11 = .ok (.iload_n 2, 1) := by decide +kernel
theorem dX2_firstWithMood_12 : decode cX2_firstWithMood 12 = .ok (.iload_n 1, 1) := by decide +kernel
theorem dX2_firstWithMood_13 : decode cX2_firstWithMood 13 = .ok (.invokevirtual 60, 3) := by decide +kernel
theorem dX2_firstWithMood_16 : decode cX2_firstWithMood 16 = .ok (.ifCond .eq 5, 3) := by decide +kernel
theorem dX2_firstWithMood_19 : decode cX2_firstWithMood 19 = .ok (.iload_n 2, 1) := by decide +kernel
theorem dX2_firstWithMood_20 : decode cX2_firstWithMood 20 = .ok (.ireturn, 1) := by decide +kernel
theorem dX2_firstWithMood_21 : decode cX2_firstWithMood 21 = .ok (.iinc 2 1, 3) := by decide +kernel
theorem dX2_firstWithMood_24 : decode cX2_firstWithMood 24 = .ok (.goto (-22), 3) := by decide +kernel
theorem dX2_firstWithMood_27 : decode cX2_firstWithMood 27 = .ok (.iconst (-1), 1) := by decide +kernel
theorem dX2_firstWithMood_28 : decode cX2_firstWithMood 28 = .ok (.ireturn, 1) := by decide +kernel
theorem dX2_firstComeTo_0 : decode cX2_firstComeTo 0 = .ok (.iconst 1, 1) := by decide +kernel
theorem dX2_firstComeTo_1 : decode cX2_firstComeTo 1 = .ok (.iload_n 1, 1) := by decide +kernel
theorem dX2_firstComeTo_2 : decode cX2_firstComeTo 2 = .ok (.ishl, 1) := by decide +kernel
theorem dX2_firstComeTo_3 : decode cX2_firstComeTo 3 = .ok (.istore_n 2, 1) := by decide +kernel
theorem dX2_firstComeTo_4 : decode cX2_firstComeTo 4 = .ok (.iconst 1, 1) := by decide +kernel
theorem dX2_firstComeTo_5 : decode cX2_firstComeTo 5 = .ok (.istore_n 3, 1) := by decide +kernel
theorem dX2_firstComeTo_6 : decode cX2_firstComeTo 6 = .ok (.iconst 0, 1) := by decide +kernel
theorem dX2_firstComeTo_7 : decode cX2_firstComeTo 7 = .ok (.istore 4, 2) := by decide +kernel
theorem dX2_firstComeTo_9 : decode cX2_firstComeTo 9 = .ok (.iload 4, 2) := by decide +kernel
theorem dX2_firstComeTo_11 : decode cX2_firstComeTo 11 = .ok (.aload_n 0, 1) := by decide +kernel
theorem dX2_firstComeTo_12 : decode cX2_firstComeTo 12 = .ok (.getfield 42, 3) := by decide +kernel
theorem dX2_firstComeTo_15 : decode cX2_firstComeTo 15 = .ok (.if_icmp .ge 72, 3) := by decide +kernel
theorem dX2_firstComeTo_18 : decode cX2_firstComeTo 18 = .ok (.iload_n 3, 1) := by decide +kernel
theorem dX2_firstComeTo_19 : decode cX2_firstComeTo 19 = .ok (.ifCond .eq 68, 3) := by decide +kernel
theorem dX2_firstComeTo_22 : decode cX2_firstComeTo 22 = .ok (.iload_n 2, 1) := by decide +kernel
theorem dX2_firstComeTo_23 : decode cX2_firstComeTo 23 = .ok (.istore 5, 2) := by decide +kernel
theorem dX2_firstComeTo_25 : decode cX2_firstComeTo 25 = .ok (.iconst 0, 1) := by decide +kernel
theorem dX2_firstComeTo_26 : decode cX2_firstComeTo 26 = .ok (.istore 6, 2) := by decide +kernel
theorem dX2_firstComeTo_28 : decode cX2_firstComeTo 28 = .ok (.iload 6, 2) := by decide +kernel
theorem dX2_firstComeTo_30 : decode cX2_firstComeTo 30 = .ok (.aload_n 0, 1) := by decide +kernel
theorem dX2_firstComeTo_31 : decode cX2_firstComeTo 31 = .ok (.getfield 50, 3) := by decide +kernel
theorem dX2_firstComeTo_34 : decode cX2_firstComeTo 34 = .ok (.if_icmp .ge 35, 3) := by decide +kernel
theorem dX2_firstComeTo_37 : decode cX2_firstComeTo 37 = .ok (.iload_n 2, 1) := by decide +kernel
theorem dX2_firstComeTo_38 : decode cX2_firstComeTo 38 = .ok (.aload_n 0, 1) := by decide +kernel
theorem dX2_firstComeTo_39 : decode cX2_firstComeTo 39 = .ok (.getfield 27, 3) := by decide +kernel
theorem dX2_firstComeTo_42 : decode cX2_firstComeTo 42 = .ok (.iload 6, 2) := by decide +kernel
theorem dX2_firstComeTo_44 : decode cX2_firstComeTo 44 = .ok (.iaload, 1) := by decide +kernel
theorem dX2_firstComeTo_45 : decode cX2_firstComeTo 45 = .ok (.ishr, 1) := by decide +kernel
theorem dX2_firstComeTo_46 : decode cX2_firstComeTo 46 = .ok (.iconst 1, 1) := by decide +kernel
theorem dX2_firstComeTo_47 : decode cX2_firstComeTo 47 = .ok (.iand, 1) := by decide +kernel
theorem dX2_firstComeTo_48 : decode cX2_firstComeTo 48 = .ok (.ifCond .eq 15, 3) := by decide +kernel
theorem dX2_firstComeTo_51 : decode cX2_firstComeTo 51 = .ok (.iload_n 2, 1) := by decide +kernel
theorem dX2_firstComeTo_52 : decode cX2_firstComeTo 52 = .ok (.iconst 1, 1) := by decide +kernel
theorem dX2_firstComeTo_53 : decode cX2_firstComeTo 53 = .ok (.aload_n 0, 1) := by decide +kernel
theorem dX2_firstComeTo_54 : decode cX2_firstComeTo 54 = .ok (.getfield 33, 3) := by decide +kernel
theorem dX2_firstComeTo_57 : decode cX2_firstComeTo 57 = .ok (.iload 6, 2) := by decide +kernel
theorem dX2_firstComeTo_59 : decode cX2_firstComeTo 59 = .ok (.iaload, 1) := by decide +kernel
theorem dX2_firstComeTo_60 : decode cX2_firstComeTo 60 = .ok (.ishl, 1) := by decide +kernel
theorem dX2_firstComeTo_61 : decode cX2_firstComeTo 61 = .ok (.ior, 1) := by decide +kernel
theorem dX2_firstComeTo_62 : decode cX2_firstComeTo 62 = .ok (.istore_n 2, 1) := by decide +kernel
theorem dX2_firstComeTo_63 : decode cX2_firstComeTo 63 = .ok (.iinc 6 1, 3) := by decide +kernel
theorem dX2_firstComeTo_66 : decode cX2_firstComeTo 66 = .ok (.goto (-38), 3) := by decide +kernel
theorem dX2_firstComeTo_69 : decode cX2_firstComeTo 69 = .ok (.iload_n 2, 1) := by decide +kernel
theorem dX2_firstComeTo_70 : decode cX2_firstComeTo 70 = .ok (.iload 5, 2) := by decide +kernel
theorem dX2_firstComeTo_72 : decode cX2_firstComeTo 72 = .ok (.if_icmp .eq 7, 3) := by decide +kernel
theorem dX2_firstComeTo_75 : decode cX2_firstComeTo 75 = .ok (.iconst 1, 1) := by decide +kernel
theorem dX2_firstComeTo_76 : decode cX2_firstComeTo 76 = .ok (.goto 4, 3) := by decide +kernel
theorem dX2_firstComeTo_79 : decode cX2_firstComeTo 79 = .ok (.iconst 0, 1) := by decide +kernel
theorem dX2_firstComeTo_80 : decode cX2_firstComeTo 80 = .ok (.istore_n 3, 1) := by decide +kernel
theorem dX2_firstComeTo_81 : decode cX2_firstComeTo 81 = .ok (.iinc 4 1, 3) := by decide +kernel
theorem dX2_firstComeTo_84 : decode cX2_firstComeTo 84 = .ok (.goto (-75), 3) := by decide +kernel
theorem dX2_firstComeTo_87 : decode cX2_firstComeTo 87 = .ok (.iconst 0, 1) := by decide +kernel
theorem dX2_firstComeTo_88 : decode cX2_firstComeTo 88 = .ok (.istore 4, 2) := by decide +kernel
theorem dX2_firstComeTo_90 : decode cX2_firstComeTo 90 = .ok (.iload 4, 2) := by decide +kernel
theorem dX2_firstComeTo_92 : decode cX2_firstComeTo 92 = .ok (.iload_n 1, 1) := by decide +kernel
theorem dX2_firstComeTo_93 : decode cX2_firstComeTo 93 = .ok (.if_icmp .ge 18, 3) := by decide +kernel
theorem dX2_firstComeTo_96 : decode cX2_firstComeTo 96 = .ok (.iload_n 2, 1) := by decide +kernel
theorem dX2_firstComeTo_97 : decode cX2_firstComeTo 97 = .ok (.iload 4, 2) := by decide +kernel
theorem dX2_firstComeTo_99 : decode cX2_firstComeTo 99 = .ok (.ishr, 1) := by decide +kernel
theorem dX2_firstComeTo_100 : decode cX2_firstComeTo 100 = .ok (.iconst 1, 1) := by decide +kernel
theorem dX2_firstComeTo_101 : decode cX2_firstComeTo 101 = .ok (.iand, 1) := by decide +kernel
theorem dX2_firstComeTo_102 : decode cX2_firstComeTo 102 = .ok (.ifCond .ne 9, 3) := by decide +kernel
theorem dX2_firstComeTo_105 : decode cX2_firstComeTo 105 = .ok (.iinc 4 1, 3) := by decide +kernel
theorem dX2_firstComeTo_108 : decode cX2_firstComeTo 108 = .ok (.goto (-18), 3) := by decide +kernel
theorem dX2_firstComeTo_111 : decode cX2_firstComeTo 111 = .ok (.iload 4, 2) := by decide +kernel
theorem dX2_firstComeTo_113 : decode cX2_firstComeTo 113 = .ok (.ireturn, 1) := by decide +kernel
theorem dX2_isJoint_0 : decode cX2_isJoint 0 = .ok (.iconst 0, 1) := by decide +kernel
theorem dX2_isJoint_1 : decode cX2_isJoint 1 = .ok (.istore 4, 2) := by decide +kernel
theorem dX2_isJoint_3 : decode cX2_isJoint 3 = .ok (.iload 4, 2) := by decide +kernel
theorem dX2_isJoint_5 : decode cX2_isJoint 5 = .ok (.aload_n 0, 1) := by decide +kernel
theorem dX2_isJoint_6 : decode cX2_isJoint 6 = .ok (.getfield 50, 3) := by decide +kernel
theorem dX2_isJoint_9 : decode cX2_isJoint 9 = .ok (.if_icmp .ge 44, 3) := by decide +kernel
theorem dX2_isJoint_12 : decode cX2_isJoint 12 = .ok (.aload_n 0, 1) := by decide +kernel
theorem dX2_isJoint_13 : decode cX2_isJoint 13 = .ok (.getfield 27, 3) := by decide +kernel
theorem dX2_isJoint_16 : decode cX2_isJoint 16 = .ok (.iload 4, 2) := by decide +kernel
theorem dX2_isJoint_18 : decode cX2_isJoint 18 = .ok (.iaload, 1) := by decide +kernel
theorem dX2_isJoint_19 : decode cX2_isJoint 19 = .ok (.iload_n 1, 1) := by decide +kernel
theorem dX2_isJoint_20 : decode cX2_isJoint 20 = .ok (.if_icmp .ne 27, 3) := by decide +kernel
theorem dX2_isJoint_23 : decode cX2_isJoint 23 = .ok (.aload_n 0, 1) := by decide +kernel
theorem dX2_isJoint_24 : decode cX2_isJoint 24 = .ok (.getfield 30, 3) := by decide +kernel
theorem dX2_isJoint_27 : decode cX2_isJoint 27 = .ok (.iload 4, 2) := by decide +kernel
theorem dX2_isJoint_29 : decode cX2_isJoint 29 = .ok (.iaload, 1) := by decide +kernel
theorem dX2_isJoint_30 : decode cX2_isJoint 30 = .ok (.iload_n 2, 1) := by decide +kernel
theorem dX2_isJoint_31 : decode cX2_isJoint 31 = .ok (.if_icmp .ne 16, 3) := by decide +kernel
theorem dX2_isJoint_34 : decode cX2_isJoint 34 = .ok (.aload_n 0, 1) := by decide +kernel
theorem dX2_isJoint_35 : decode cX2_isJoint 35 = .ok (.getfield 33, 3) := by decide +kernel
theorem dX2_isJoint_38 : decode cX2_isJoint 38 = .ok (.iload 4, 2) := by decide +kernel
theorem dX2_isJoint_40 : decode cX2_isJoint 40 = .ok (.iaload, 1) := by decide +kernel
theorem dX2_isJoint_41 : decode cX2_isJoint 41 = .ok (.iload_n 3, 1) := by decide +kernel
theorem dX2_isJoint_42 : decode cX2_isJoint 42 = .ok (.if_icmp .ne 5, 3) := by decide +kernel
theorem dX2_isJoint_45 : decode cX2_isJoint 45 = .ok (.iconst 1, 1) := by decide +kernel
theorem dX2_isJoint_46 : decode cX2_isJoint 46 = .ok (.ireturn, 1) := by decide +kernel
theorem dX2_isJoint_47 : decode cX2_isJoint 47 = .ok (.iinc 4 1, 3) := by decide +kernel
theorem dX2_isJoint_50 : decode cX2_isJoint 50 = .ok (.goto (-47), 3) := by decide +kernel
theorem dX2_isJoint_53 : decode cX2_isJoint 53 = .ok (.iconst 0, 1) := by decide +kernel
theorem dX2_isJoint_54 : decode cX2_isJoint 54 = .ok (.ireturn, 1) := by decide +kernel
theorem dX3_init_0 : decode cX3_init 0 = .ok (.aload_n 0, 1) := by decide +kernel
theorem dX3_init_1 : decode cX3_init 1 = .ok (.invokespecial 3, 3) := by decide +kernel
theorem dX3_init_4 : decode cX3_init 4 = .ok (.aload_n 0, 1) := by decide +kernel
theorem dX3_init_5 : decode cX3_init 5 = .ok (.iconst (-1), 1) := by decide +kernel
theorem dX3_init_6 : decode cX3_init 6 = .ok (.putfield 9, 3) := by decide +kernel
theorem dX3_init_9 : decode cX3_init 9 = .ok (.aload_n 0, 1) := by decide +kernel
theorem dX3_init_10 : decode cX3_init 10 = .ok (.iconst (-1), 1) := by decide +kernel
theorem dX3_init_11 : decode cX3_init 11 = .ok (.putfield 15, 3) := by decide +kernel
theorem dX3_init_14 : decode cX3_init 14 = .ok (.aload_n 0, 1) := by decide +kernel
theorem dX3_init_15 : decode cX3_init 15 = .ok (.bipush 20, 2) := by decide +kernel
theorem dX3_init_17 : decode cX3_init 17 = .ok (.newarray .int, 2) := by decide +kernel
theorem dX3_init_19 : decode cX3_init 19 = .ok (.putfield 18, 3) := by decide +kernel
theorem dX3_init_22 : decode cX3_init 22 = .ok (.aload_n 0, 1) := by decide +kernel
theorem dX3_init_23 : decode cX3_init 23 = .ok (.bipush 20, 2) := by decide +kernel
theorem dX3_init_25 : decode cX3_init 25 = .ok (.newarray .int, 2) := by decide +kernel
theorem dX3_init_27 : decode cX3_init 27 = .ok (.putfield 22, 3) := by decide +kernel
theorem dX3_init_30 : decode cX3_init 30 = .ok (.aload_n 0, 1) := by decide +kernel
theorem dX3_init_31 : decode cX3_init 31 = .ok (.iconst 4, 1) := by decide +kernel
theorem dX3_init_32 : decode cX3_init 32 = .ok (.newarray .int, 2) := by decide +kernel
theorem dX3_init_34 : decode cX3_init 34 = .ok (.putfield 25, 3) := by decide +kernel
theorem dX3_init_37 : decode cX3_init 37 = .ok (.aload_n 0, 1) := by decide +kernel
theorem dX3_init_38 : decode cX3_init 38 = .ok (.iconst (-1), 1) := by decide +kernel
theorem dX3_init_39 : decode cX3_init 39 = .ok (.putfield 28, 3) := by decide +kernel
theorem dX3_init_42 : decode cX3_init 42 = .ok (.return_, 1) := by decide +kernel
theorem dX3_copyFrom_0 : decode cX3_copyFrom 0 = .ok (.aload_n 0, 1) := by decide +kernel
theorem dX3_copyFrom_1 : decode cX3_copyFrom 1 = .ok (.aload_n 1, 1) := by decide +kernel
theorem dX3_copyFrom_2 : decode cX3_copyFrom 2 = .ok (.getfield 31, 3) := by decide +kernel
theorem dX3_copyFrom_5 : decode cX3_copyFrom 5 = .ok (.putfield 31, 3) := by decide +kernel
theorem dX3_copyFrom_8 : decode cX3_copyFrom 8 = .ok (.aload_n 0, 1) := by decide +kernel
theorem dX3_copyFrom_9 : decode cX3_copyFrom 9 = .ok (.aload_n 1, 1) := by decide +kernel
theorem dX3_copyFrom_10 : decode cX3_copyFrom 10 = .ok (.getfield 9, 3) := by decide +kernel
theorem dX3_copyFrom_13 : decode cX3_copyFrom 13 = .ok (.putfield 9, 3) := by decide +kernel
theorem dX3_copyFrom_16 : decode cX3_copyFrom 16 = .ok (.aload_n 0, 1) := by decide +kernel
theorem dX3_copyFrom_17 : decode cX3_copyFrom 17 = .ok (.aload_n 1, 1) := by decide +kernel
theorem dX3_copyFrom_18 : decode cX3_copyFrom 18 = .ok (.getfield 35, 3) := by decide +kernel
theorem dX3_copyFrom_21 : decode cX3_copyFrom 21 = .ok (.putfield 35, 3) := by decide +kernel
theorem dX3_copyFrom_24 : decode cX3_copyFrom 24 = .ok (.aload_n 0, 1) := by decide +kernel
theorem dX3_copyFrom_25 : decode cX3_copyFrom 25 = .ok (.aload_n 1, 1) := by decide +kernel
theorem dX3_copyFrom_26 : decode cX3_copyFrom 26 = .ok (.getfield 38, 3) := by decide +kernel
theorem dX3_copyFrom_29 : decode cX3_copyFrom 29 = .ok (.putfield 38, 3) := by decide +kernel
theorem dX3_copyFrom_32 : decode cX3_copyFrom 32 = .ok (.aload_n 0, 1) := by decide +kernel
theorem dX3_copyFrom_33 : decode cX3_copyFrom 33 = .ok (.aload_n 1, 1) := by decide +kernel
theorem dX3_copyFrom_34 : decode cX3_copyFrom 34 = .ok (.getfield 41, 3) := by decide +kernel
theorem dX3_copyFrom_37 : decode cX3_copyFrom 37 = .ok (.putfield 41, 3) := by decide +kernel
theorem dX3_copyFrom_40 : decode cX3_copyFrom 40 = .ok (.aload_n 0, 1) := by decide +kernel
theorem dX3_copyFrom_41 : decode cX3_copyFrom 41 = .ok (.aload_n 1, 1) := by decide +kernel
theorem dX3_copyFrom_42 : decode cX3_copyFrom 42 = .ok (.getfield 15, 3) := by decide +kernel
theorem dX3_copyFrom_45 : decode cX3_copyFrom 45 = .ok (.putfield 15, 3) := by decide +kernel
theorem dX3_copyFrom_48 : decode cX3_copyFrom 48 = .ok (.aload_n 1, 1) := by decide +kernel
theorem dX3_copyFrom_49 : decode cX3_copyFrom 49 = .ok (.getfield 18, 3) := by decide +kernel
theorem dX3_copyFrom_52 : decode cX3_copyFrom 52 = .ok (.iconst 0, 1) := by decide +kernel
theorem dX3_copyFrom_53 : decode cX3_copyFrom 53 = .ok (.aload_n 0, 1) := by decide +kernel
theorem dX3_copyFrom_54 : decode cX3_copyFrom 54 = .ok (.getfield 18, 3) := by decide +kernel
theorem dX3_copyFrom_57 : decode cX3_copyFrom 57 = .ok (.iconst 0, 1) := by decide +kernel
theorem dX3_copyFrom_58 : decode cX3_copyFrom 58 = .ok (.bipush 20, 2) := by decide +kernel
theorem dX3_copyFrom_60 : decode cX3_copyFrom 60 = .ok (.invokestatic 44, 3) := by decide +kernel
theorem dX3_copyFrom_63 : decode cX3_copyFrom 63 = .ok (.aload_n 1, 1) := by decide +kernel
theorem dX3_copyFrom_64 : decode cX3_copyFrom 64 = .ok (.getfield 22, 3) := by decide +kernel
theorem dX3_copyFrom_67 : decode cX3_copyFrom 67 = .ok (.iconst 0, 1) := by decide +kernel
theorem dX3_copyFrom_68 : decode cX3_copyFrom 68 = .ok (.aload_n 0, 1) := by decide +kernel
theorem dX3_copyFrom_69 : decode cX3_copyFrom 69 = .ok (.getfield 22, 3) := by decide +kernel
theorem dX3_copyFrom_72 : decode cX3_copyFrom 72 = .ok (.iconst 0, 1) := by decide +kernel
theorem dX3_copyFrom_73 : decode cX3_copyFrom 73 = .ok (.bipush 20, 2) := by decide +kernel
theorem dX3_copyFrom_75 : decode cX3_copyFrom 75 = .ok (.invokestatic 44, 3) := by decide +kernel
theorem dX3_copyFrom_78 : decode cX3_copyFrom 78 = .ok (.aload_n 1, 1) := by decide +kernel
theorem dX3_copyFrom_79 : decode cX3_copyFrom 79 = .ok (.getfield 25, 3) := by decide +kernel
theorem dX3_copyFrom_82 : decode cX3_copyFrom 82 = .ok (.iconst 0, 1) := by decide +kernel
theorem dX3_copyFrom_83 : decode cX3_copyFrom 83 = .ok (.aload_n 0, 1) := by decide +kernel
theorem dX3_copyFrom_84 : decode cX3_copyFrom 84 = .ok (.getfield 25, 3) := by decide +kernel
theorem dX3_copyFrom_87 : decode cX3_copyFrom 87 = .ok (.iconst 0, 1) := by decide +kernel
theorem dX3_copyFrom_88 : decode cX3_copyFrom 88 = .ok (.iconst 4, 1) := by decide +kernel
theorem dX3_copyFrom_89 : decode cX3_copyFrom 89 = .ok (.invokestatic 44, 3) := by decide +kernel
theorem dX3_copyFrom_92 : decode cX3_copyFrom 92 = .ok (.aload_n 0, 1) := by decide +kernel
theorem dX3_copyFrom_93 : decode cX3_copyFrom 93 = .ok (.aload_n 1, 1) := by decide +kernel
theorem dX3_copyFrom_94 : decode cX3_copyFrom 94 = .ok (.getfield 50, 3) := by decide +kernel
theorem dX3_copyFrom_97 : decode cX3_copyFrom 97 = .ok (.putfield 50, 3) := by decide +kernel
theorem dX3_copyFrom_100 : decode cX3_copyFrom 100 = .ok (.aload_n 0, 1) := by decide +kernel
theorem dX3_copyFrom_101 : decode cX3_copyFrom 101 = .ok (.aload_n 1, 1) := by decide +kernel
theorem dX3_copyFrom_102 : decode cX3_copyFrom 102 = .ok (.getfield 28, 3) := by decide +kernel
theorem dX3_copyFrom_105 : decode cX3_copyFrom 105 = .ok (.putfield 28, 3) := by decide +kernel
theorem dX3_copyFrom_108 : decode cX3_copyFrom 108 = .ok (.aload_n 0, 1) := by decide +kernel
theorem dX3_copyFrom_109 : decode cX3_copyFrom 109 = .ok (.aload_n 1, 1) := by decide +kernel
theorem dX3_copyFrom_110 : decode cX3_copyFrom 110 = .ok (.getfield 53, 3) := by decide +kernel
theorem dX3_copyFrom_113 : decode cX3_copyFrom 113 = .ok (.putfield 53, 3) := by decide +kernel
theorem dX3_copyFrom_116 : decode cX3_copyFrom 116 = .ok (.return_, 1) := by decide +kernel
theorem dX3_beatOver_0 : decode cX3_beatOver 0 = .ok (.aload_n 0, 1) := by decide +kernel
theorem dX3_beatOver_1 : decode cX3_beatOver 1 = .ok (.getfield 31, 3) := by decide +kernel
theorem dX3_beatOver_4 : decode cX3_beatOver 4 = .ok (.aload_n 0, 1) := by decide +kernel
theorem dX3_beatOver_5 : decode cX3_beatOver 5 = .ok (.getfield 41, 3) := by decide +kernel
theorem dX3_beatOver_8 : decode cX3_beatOver 8 = .ok (.lsub, 1) := by decide +kernel
theorem dX3_beatOver_9 : decode cX3_beatOver 9 = .ok (.lreturn, 1) := by decide +kernel
theorem dX3_levelsTogether_0 : decode cX3_levelsTogether 0 = .ok (.iconst 0, 1) := by decide +kernel
theorem dX3_levelsTogether_1 : decode cX3_levelsTogether 1 = .ok (.istore_n 1, 1) := by decide +kernel
theorem dX3_levelsTogether_2 : decode cX3_levelsTogether 2 = .ok (.iconst 0, 1) := by decide +kernel
theorem dX3_levelsTogether_3 : decode cX3_levelsTogether 3 = .ok (.istore_n 2, 1) := by decide +kernel
theorem dX3_levelsTogether_4 : decode cX3_levelsTogether 4 = .ok (.iload_n 2, 1) := by decide +kernel
theorem dX3_levelsTogether_5 : decode cX3_levelsTogether 5 = .ok (.bipush 20, 2) := by decide +kernel
theorem dX3_levelsTogether_7 : decode cX3_levelsTogether 7 = .ok (.if_icmp .ge 18, 3) := by decide +kernel
theorem dX3_levelsTogether_10 : decode cX3_levelsTogether 10 = .ok (.iload_n 1, 1) := by decide +kernel
theorem dX3_levelsTogether_11 : decode cX3_levelsTogether 11 = .ok (.aload_n 0, 1) := by decide +kernel
theorem dX3_levelsTogether_12 : decode cX3_levelsTogether 12 = .ok (.getfield 22, 3) := by decide +kernel
theorem dX3_levelsTogether_15 : decode cX3_levelsTogether 15 = .ok (.iload_n 2, 1) := by decide +kernel
theorem dX3_levelsTogether_16 : decode cX3_levelsTogether 16 = .ok (.iaload, 1) := by decide +kernel
theorem dX3_levelsTogether_17 : decode cX3_levelsTogether 17 = .ok (.iadd, 1) := by decide +kernel
theorem dX3_levelsTogether_18 : decode cX3_levelsTogether 18 = .ok (.istore_n 1, 1) := by decide +kernel
theorem dX3_levelsTogether_19 : decode cX3_levelsTogether 19 = .ok (.iinc 2 1, 3) := by decide +kernel
theorem dX3_levelsTogether_22 : decode cX3_levelsTogether 22 = .ok (.goto (-18), 3) := by decide +kernel
theorem dX3_levelsTogether_25 : decode cX3_levelsTogether 25 = .ok (.iload_n 1, 1) := by decide +kernel
theorem dX3_levelsTogether_26 : decode cX3_levelsTogether 26 = .ok (.ireturn, 1) := by decide +kernel
theorem dX3_moveLevel_0 : decode cX3_moveLevel 0 = .ok (.iconst 0, 1) := by decide +kernel
theorem dX3_moveLevel_1 : decode cX3_moveLevel 1 = .ok (.istore_n 3, 1) := by decide +kernel
theorem dX3_moveLevel_2 : decode cX3_moveLevel 2 = .ok (.aload_n 0, 1) := by decide +kernel
theorem dX3_moveLevel_3 : decode cX3_moveLevel 3 = .ok (.getfield 18, 3) := by decide +kernel
theorem dX3_moveLevel_6 : decode cX3_moveLevel 6 = .ok (.iload_n 1, 1) := by decide +kernel
theorem dX3_moveLevel_7 : decode cX3_moveLevel 7 = .ok (.iaload, 1) := by decide +kernel
theorem dX3_moveLevel_8 : decode cX3_moveLevel 8 = .ok (.ifCond .ne 21, 3) := by decide +kernel
theorem dX3_moveLevel_11 : decode cX3_moveLevel 11 = .ok (.aload_n 0, 1) := by decide +kernel
theorem dX3_moveLevel_12 : decode cX3_moveLevel 12 = .ok (.getfield 22, 3) := by decide +kernel
theorem dX3_moveLevel_15 : decode cX3_moveLevel 15 = .ok (.iload_n 1, 1) := by decide +kernel
theorem dX3_moveLevel_16 : decode cX3_moveLevel 16 = .ok (.iaload, 1) := by decide +kernel
theorem dX3_moveLevel_17 : decode cX3_moveLevel 17 = .ok (.ifCond .le 7, 3) := by decide +kernel
theorem dX3_moveLevel_20 : decode cX3_moveLevel 20 = .ok (.iconst (-1), 1) := by decide +kernel
theorem dX3_moveLevel_21 : decode cX3_moveLevel 21 = .ok (.goto 4, 3) := by decide +kernel
theorem dX3_moveLevel_24 : decode cX3_moveLevel 24 = .ok (.iconst 0, 1) := by decide +kernel
theorem dX3_moveLevel_25 : decode cX3_moveLevel 25 = .ok (.istore_n 3, 1) := by decide +kernel
theorem dX3_moveLevel_26 : decode cX3_moveLevel 26 = .ok (.goto 26, 3) := by decide +kernel
theorem dX3_moveLevel_29 : decode cX3_moveLevel 29 = .ok (.aload_n 0, 1) := by decide +kernel
theorem dX3_moveLevel_30 : decode cX3_moveLevel 30 = .ok (.getfield 22, 3) := by decide +kernel
theorem dX3_moveLevel_33 : decode cX3_moveLevel 33 = .ok (.iload_n 1, 1) := by decide +kernel
theorem dX3_moveLevel_34 : decode cX3_moveLevel 34 = .ok (.iaload, 1) := by decide +kernel
theorem dX3_moveLevel_35 : decode cX3_moveLevel 35 = .ok (.aload_n 0, 1) := by decide +kernel
theorem dX3_moveLevel_36 : decode cX3_moveLevel 36 = .ok (.getfield 18, 3) := by decide +kernel
theorem dX3_moveLevel_39 : decode cX3_moveLevel 39 = .ok (.iload_n 1, 1) := by decide +kernel
theorem dX3_moveLevel_40 : decode cX3_moveLevel 40 = .ok (.iaload, 1) := by decide +kernel
theorem dX3_moveLevel_41 : decode cX3_moveLevel 41 = .ok (.if_icmp .ge 11, 3) := by decide +kernel
theorem dX3_moveLevel_44 : decode cX3_moveLevel 44 = .ok (.iload_n 2, 1) := by decide +kernel
theorem dX3_moveLevel_45 : decode cX3_moveLevel 45 = .ok (.bipush 16, 2) := by decide +kernel
theorem dX3_moveLevel_47 : decode cX3_moveLevel 47 = .ok (.if_icmp .ge 5, 3) := by decide +kernel
theorem dX3_moveLevel_50 : decode cX3_moveLevel 50 = .ok (.iconst 1, 1) := by decide +kernel
theorem dX3_moveLevel_51 : decode cX3_moveLevel 51 = .ok (.istore_n 3, 1) := by decide +kernel
theorem dX3_moveLevel_52 : decode cX3_moveLevel 52 = .ok (.aload_n 0, 1) := by decide +kernel
theorem dX3_moveLevel_53 : decode cX3_moveLevel 53 = .ok (.getfield 22, 3) := by decide +kernel
theorem dX3_moveLevel_56 : decode cX3_moveLevel 56 = .ok (.iload_n 1, 1) := by decide +kernel
theorem dX3_moveLevel_57 : decode cX3_moveLevel 57 = .ok (.dup2, 1) := by decide +kernel
theorem dX3_moveLevel_58 : decode cX3_moveLevel 58 = .ok (.iaload, 1) := by decide +kernel
theorem dX3_moveLevel_59 : decode cX3_moveLevel 59 = .ok (.iload_n 3, 1) := by decide +kernel
theorem dX3_moveLevel_60 : decode cX3_moveLevel 60 = .ok (.iadd, 1) := by decide +kernel
theorem dX3_moveLevel_61 : decode cX3_moveLevel 61 = .ok (.iastore, 1) := by decide +kernel
theorem dX3_moveLevel_62 : decode cX3_moveLevel 62 = .ok (.iload_n 3, 1) := by decide +kernel
theorem dX3_moveLevel_63 : decode cX3_moveLevel 63 = .ok (.ireturn, 1) := by decide +kernel
theorem dX3_shiftWaiting_0 : decode cX3_shiftWaiting 0 = .ok (.aload_n 0, 1) := by decide +kernel
theorem dX3_shiftWaiting_1 : decode cX3_shiftWaiting 1 = .ok (.dup, 1) := by decide +kernel
theorem dX3_shiftWaiting_2 : decode cX3_shiftWaiting 2 = .ok (.getfield 50, 3) := by decide +kernel
theorem dX3_shiftWaiting_5 : decode cX3_shiftWaiting 5 = .ok (.iconst 1, 1) := by decide +kernel
theorem dX3_shiftWaiting_6 : decode cX3_shiftWaiting 6 = .ok (.isub, 1) := by decide +kernel
theorem dX3_shiftWaiting_7 : decode cX3_shiftWaiting 7 = .ok (.putfield 50, 3) := by decide +kernel
theorem dX3_shiftWaiting_10 : decode cX3_shiftWaiting 10 = .ok (.iconst 0, 1) := by decide +kernel
theorem dX3_shiftWaiting_11 : decode cX3_shiftWaiting 11 = .ok (.istore_n 1, 1) := by decide +kernel
theorem dX3_shiftWaiting_12 : decode cX3_shiftWaiting 12 = .ok (.iload_n 1, 1) := by decide +kernel
theorem dX3_shiftWaiting_13 : decode cX3_shiftWaiting 13 = .ok (.aload_n 0, 1) := by decide +kernel
theorem dX3_shiftWaiting_14 : decode cX3_shiftWaiting 14 = .ok (.getfield 50, 3) := by decide +kernel
theorem dX3_shiftWaiting_17 : decode cX3_shiftWaiting 17 = .ok (.if_icmp .ge 23, 3) := by decide +kernel
theorem dX3_shiftWaiting_20 : decode cX3_shiftWaiting 20 = .ok (.aload_n 0, 1) := by decide +kernel
theorem dX3_shiftWaiting_21 : decode cX3_shiftWaiting 21 = .ok (.getfield 25, 3) := by decide +kernel
theorem dX3_shiftWaiting_24 : decode cX3_shiftWaiting 24 = .ok (.iload_n 1, 1) := by decide +kernel
theorem dX3_shiftWaiting_25 : decode cX3_shiftWaiting 25 = .ok (.aload_n 0, 1) := by decide +kernel
theorem dX3_shiftWaiting_26 : decode cX3_shiftWaiting 26 = .ok (.getfield 25, 3) := by decide +kernel
theorem dX3_shiftWaiting_29 : decode cX3_shiftWaiting 29 = .ok (.iload_n 1, 1) := by decide +kernel
theorem dX3_shiftWaiting_30 : decode cX3_shiftWaiting 30 = .ok (.iconst 1, 1) := by decide +kernel
theorem dX3_shiftWaiting_31 : decode cX3_shiftWaiting 31 = .ok (.iadd, 1) := by decide +kernel
theorem dX3_shiftWaiting_32 : decode cX3_shiftWaiting 32 = .ok (.iaload, 1) := by decide +kernel
theorem dX3_shiftWaiting_33 : decode cX3_shiftWaiting 33 = .ok (.iastore, 1) := by decide +kernel
theorem dX3_shiftWaiting_34 : decode cX3_shiftWaiting 34 = .ok (.iinc 1 1, 3) := by decide +kernel
theorem dX3_shiftWaiting_37 : decode cX3_shiftWaiting 37 = .ok (.goto (-25), 3) := by decide +kernel
theorem dX3_shiftWaiting_40 : decode cX3_shiftWaiting 40 = .ok (.return_, 1) := by decide +kernel
theorem dX4_init_0 : decode cX4_init 0 = .ok (.aload_n 0, 1) := by decide +kernel
theorem dX4_init_1 : decode cX4_init 1 = .ok (.invokespecial 3, 3) := by decide +kernel
theorem dX4_init_4 : decode cX4_init 4 = .ok (.aload_n 0, 1) := by decide +kernel
theorem dX4_init_5 : decode cX4_init 5 = .ok (.bipush 20, 2) := by decide +kernel
theorem dX4_init_7 : decode cX4_init 7 = .ok (.newarray .long, 2) := by decide +kernel
theorem dX4_init_9 : decode cX4_init 9 = .ok (.putfield 9, 3) := by decide +kernel
theorem dX4_init_12 : decode cX4_init 12 = .ok (.aload_n 0, 1) := by decide +kernel
theorem dX4_init_13 : decode cX4_init 13 = .ok (.bipush 20, 2) := by decide +kernel
theorem dX4_init_15 : decode cX4_init 15 = .ok (.newarray .int, 2) := by decide +kernel
theorem dX4_init_17 : decode cX4_init 17 = .ok (.putfield 15, 3) := by decide +kernel
theorem dX4_init_20 : decode cX4_init 20 = .ok (.return_, 1) := by decide +kernel
end
section
theorem dX4_fill_0 : decode cX4_fill 0 = .ok (.iconst 0, 1) := by decide +kernel
theorem dX4_fill_1 : decode cX4_fill 1 = .ok (.istore 5, 2) := by decide +kernel
theorem dX4_fill_3 : decode cX4_fill 3 = .ok (.iload 5, 2) := by decide +kernel
theorem dX4_fill_5 : decode cX4_fill 5 = .ok (.aload_n 1, 1) := by decide +kernel
theorem dX4_fill_6 : decode cX4_fill 6 = .ok (.getfield 19, 3) := by decide +kernel
theorem dX4_fill_9 : decode cX4_fill 9 = .ok (.if_icmp .ge 41, 3) := by decide +kernel
theorem dX4_fill_12 : decode cX4_fill 12 = .ok (.aload_n 0, 1) := by decide +kernel
theorem dX4_fill_13 : decode cX4_fill 13 = .ok (.getfield 9, 3) := by decide +kernel
theorem dX4_fill_16 : decode cX4_fill 16 = .ok (.iload 5, 2) := by decide +kernel
theorem dX4_fill_18 : decode cX4_fill 18 = .ok (.aload_n 1, 1) := by decide +kernel
theorem dX4_fill_19 : decode cX4_fill 19 = .ok (.iload 5, 2) := by decide +kernel
theorem dX4_fill_21 : decode cX4_fill 21 = .ok (.iload_n 2, 1) := by decide +kernel
theorem dX4_fill_22 : decode cX4_fill 22 = .ok (.invokevirtual 25, 3) := by decide +kernel
theorem dX4_fill_25 : decode cX4_fill 25 = .ok (.ifCond .eq 7, 3) := by decide +kernel
theorem dX4_fill_28 : decode cX4_fill 28 = .ok (.lconst 0, 1) := by decide +kernel
theorem dX4_fill_29 : decode cX4_fill 29 = .ok (.goto 6, 3) := by decide +kernel
theorem dX4_fill_32 : decode cX4_fill 32 = .ok (.ldc2_w 29, 3) := by decide +kernel
theorem dX4_fill_35 : decode cX4_fill 35 = .ok (.lastore, 1) := by decide +kernel
theorem dX4_fill_36 : decode cX4_fill 36 = .ok (.aload_n 0, 1) := by decide +kernel
theorem dX4_fill_37 : decode cX4_fill 37 = .ok (.getfield 15, 3) := by decide +kernel
theorem dX4_fill_40 : decode cX4_fill 40 = .ok (.iload 5, 2) := by decide +kernel
theorem dX4_fill_42 : decode cX4_fill 42 = .ok (.iconst 0, 1) := by decide +kernel
theorem dX4_fill_43 : decode cX4_fill 43 = .ok (.iastore, 1) := by decide +kernel
theorem dX4_fill_44 : decode cX4_fill 44 = .ok (.iinc 5 1, 3) := by decide +kernel
theorem dX4_fill_47 : decode cX4_fill 47 = .ok (.goto (-44), 3) := by decide +kernel
theorem dX4_fill_50 : decode cX4_fill 50 = .ok (.iconst 1, 1) := by decide +kernel
theorem dX4_fill_51 : decode cX4_fill 51 = .ok (.istore 5, 2) := by decide +kernel
theorem dX4_fill_53 : decode cX4_fill 53 = .ok (.iconst 0, 1) := by decide +kernel
theorem dX4_fill_54 : decode cX4_fill 54 = .ok (.istore 6, 2) := by decide +kernel
theorem dX4_fill_56 : decode cX4_fill 56 = .ok (.iload 6, 2) := by decide +kernel
theorem dX4_fill_58 : decode cX4_fill 58 = .ok (.aload_n 1, 1) := by decide +kernel
theorem dX4_fill_59 : decode cX4_fill 59 = .ok (.getfield 19, 3) := by decide +kernel
theorem dX4_fill_62 : decode cX4_fill 62 = .ok (.if_icmp .ge 24, 3) := by decide +kernel
theorem dX4_fill_65 : decode cX4_fill 65 = .ok (.iload 5, 2) := by decide +kernel
theorem dX4_fill_67 : decode cX4_fill 67 = .ok (.ifCond .eq 19, 3) := by decide +kernel
theorem dX4_fill_70 : decode cX4_fill 70 = .ok (.aload_n 0, 1) := by decide +kernel
theorem dX4_fill_71 : decode cX4_fill 71 = .ok (.aload_n 1, 1) := by decide +kernel
theorem dX4_fill_72 : decode cX4_fill 72 = .ok (.iload_n 3, 1) := by decide +kernel
theorem dX4_fill_73 : decode cX4_fill 73 = .ok (.iload 4, 2) := by decide +kernel
theorem dX4_fill_75 : decode cX4_fill 75 = .ok (.invokevirtual 31, 3) := by decide +kernel
theorem dX4_fill_78 : decode cX4_fill 78 = .ok (.istore 5, 2) := by decide +kernel
theorem dX4_fill_80 : decode cX4_fill 80 = .ok (.iinc 6 1, 3) := by decide +kernel
theorem dX4_fill_83 : decode cX4_fill 83 = .ok (.goto (-27), 3) := by decide +kernel
theorem dX4_fill_86 : decode cX4_fill 86 = .ok (.return_, 1) := by decide +kernel
theorem dX4_improve_0 : decode cX4_improve 0 = .ok (.iconst 0, 1) := by decide +kernel
theorem dX4_improve_1 : decode cX4_improve 1 = .ok (.istore 4, 2) := by decide +kernel
theorem dX4_improve_3 : decode cX4_improve 3 = .ok (.iconst 0, 1) := by decide +kernel
theorem dX4_improve_4 : decode cX4_improve 4 = .ok (.istore 5, 2) := by decide +kernel
theorem dX4_improve_6 : decode cX4_improve 6 = .ok (.iload 5, 2) := by decide +kernel
theorem dX4_improve_8 : decode cX4_improve 8 = .ok (.aload_n 1, 1) := by decide +kernel
theorem dX4_improve_9 : decode cX4_improve 9 = .ok (.getfield 35, 3) := by decide +kernel
theorem dX4_improve_12 : decode cX4_improve 12 = .ok (.if_icmp .ge 130, 3) := by decide +kernel
theorem dX4_improve_15 : decode cX4_improve 15 = .ok (.aload_n 1, 1) := by decide +kernel
theorem dX4_improve_16 : decode cX4_improve 16 = .ok (.getfield 38, 3) := by decide +kernel
theorem dX4_improve_19 : decode cX4_improve 19 = .ok (.iload 5, 2) := by decide +kernel
theorem dX4_improve_21 : decode cX4_improve 21 = .ok (.iaload, 1) := by decide +kernel
theorem dX4_improve_22 : decode cX4_improve 22 = .ok (.istore 6, 2) := by decide +kernel
theorem dX4_improve_24 : decode cX4_improve 24 = .ok (.aload_n 1, 1) := by decide +kernel
theorem dX4_improve_25 : decode cX4_improve 25 = .ok (.getfield 41, 3) := by decide +kernel
theorem dX4_improve_28 : decode cX4_improve 28 = .ok (.iload 5, 2) := by decide +kernel
theorem dX4_improve_30 : decode cX4_improve 30 = .ok (.iaload, 1) := by decide +kernel
theorem dX4_improve_31 : decode cX4_improve 31 = .ok (.istore 7, 2) := by decide +kernel
theorem dX4_improve_33 : decode cX4_improve 33 = .ok (.aload_n 0, 1) := by decide +kernel
theorem dX4_improve_34 : decode cX4_improve 34 = .ok (.getfield 9, 3) := by decide +kernel
theorem dX4_improve_37 : decode cX4_improve 37 = .ok (.iload 7, 2) := by decide +kernel
theorem dX4_improve_39 : decode cX4_improve 39 = .ok (.laload, 1) := by decide +kernel
theorem dX4_improve_40 : decode cX4_improve 40 = .ok (.iload_n 2, 1) := by decide +kernel
theorem dX4_improve_41 : decode cX4_improve 41 = .ok (.aload_n 1, 1) := by decide +kernel
theorem dX4_improve_42 : decode cX4_improve 42 = .ok (.getfield 44, 3) := by decide +kernel
theorem dX4_improve_45 : decode cX4_improve 45 = .ok (.iload 5, 2) := by decide +kernel
theorem dX4_improve_47 : decode cX4_improve 47 = .ok (.iaload, 1) := by decide +kernel
theorem dX4_improve_48 : decode cX4_improve 48 = .ok (.imul, 1) := by decide +kernel
theorem dX4_improve_49 : decode cX4_improve 49 = .ok (.i2l, 1) := by decide +kernel
theorem dX4_improve_50 : decode cX4_improve 50 = .ok (.ladd, 1) := by decide +kernel
theorem dX4_improve_51 : decode cX4_improve 51 = .ok (.iload_n 3, 1) := by decide +kernel
theorem dX4_improve_52 : decode cX4_improve 52 = .ok (.i2l, 1) := by decide +kernel
theorem dX4_improve_53 : decode cX4_improve 53 = .ok (.aload_n 1, 1) := by decide +kernel
theorem dX4_improve_54 : decode cX4_improve 54 = .ok (.iload 5, 2) := by decide +kernel
theorem dX4_improve_56 : decode cX4_improve 56 = .ok (.invokevirtual 47, 3) := by decide +kernel
theorem dX4_improve_59 : decode cX4_improve 59 = .ok (.lmul, 1) := by decide +kernel
theorem dX4_improve_60 : decode cX4_improve 60 = .ok (.ladd, 1) := by decide +kernel
theorem dX4_improve_61 : decode cX4_improve 61 = .ok (.lstore 8, 2) := by decide +kernel
theorem dX4_improve_63 : decode cX4_improve 63 = .ok (.aload_n 0, 1) := by decide +kernel
theorem dX4_improve_64 : decode cX4_improve 64 = .ok (.getfield 9, 3) := by decide +kernel
theorem dX4_improve_67 : decode cX4_improve 67 = .ok (.iload 7, 2) := by decide +kernel
theorem dX4_improve_69 : decode cX4_improve 69 = .ok (.laload, 1) := by decide +kernel
theorem dX4_improve_70 : decode cX4_improve 70 = .ok (.ldc2_w 29, 3) := by decide +kernel
theorem dX4_improve_73 : decode cX4_improve 73 = .ok (.lcmp, 1) := by decide +kernel
theorem dX4_improve_74 : decode cX4_improve 74 = .ok (.ifCond .eq 62, 3) := by decide +kernel
theorem dX4_improve_77 : decode cX4_improve 77 = .ok (.lload 8, 2) := by decide +kernel
theorem dX4_improve_79 : decode cX4_improve 79 = .ok (.aload_n 0, 1) := by decide +kernel
theorem dX4_improve_80 : decode cX4_improve 80 = .ok (.getfield 15, 3) := by decide +kernel
theorem dX4_improve_83 : decode cX4_improve 83 = .ok (.iload 7, 2) := by decide +kernel
theorem dX4_improve_85 : decode cX4_improve 85 = .ok (.iaload, 1) := by decide +kernel
theorem dX4_improve_86 : decode cX4_improve 86 = .ok (.iconst 1, 1) := by decide +kernel
theorem dX4_improve_87 : decode cX4_improve 87 = .ok (.iadd, 1) := by decide +kernel
theorem dX4_improve_88 : decode cX4_improve 88 = .ok (.aload_n 0, 1) := by decide +kernel
theorem dX4_improve_89 : decode cX4_improve 89 = .ok (.getfield 9, 3) := by decide +kernel
theorem dX4_improve_92 : decode cX4_improve 92 = .ok (.iload 6, 2) := by decide +kernel
theorem dX4_improve_94 : decode cX4_improve 94 = .ok (.laload, 1) := by decide +kernel
theorem dX4_improve_95 : decode cX4_improve 95 = .ok (.aload_n 0, 1) := by decide +kernel
theorem dX4_improve_96 : decode cX4_improve 96 = .ok (.getfield 15, 3) := by decide +kernel
theorem dX4_improve_99 : decode cX4_improve 99 = .ok (.iload 6, 2) := by decide +kernel
theorem dX4_improve_101 : decode cX4_improve 101 = .ok (.iaload, 1) := by decide +kernel
theorem dX4_improve_102 : decode cX4_improve 102 = .ok (.invokestatic 51, 3) := by decide +kernel
theorem dX4_improve_105 : decode cX4_improve 105 = .ok (.ifCond .eq 31, 3) := by decide +kernel
theorem dX4_improve_108 : decode cX4_improve 108 = .ok (.aload_n 0, 1) := by decide +kernel
theorem dX4_improve_109 : decode cX4_improve 109 = .ok (.getfield 9, 3) := by decide +kernel
theorem dX4_improve_112 : decode cX4_improve 112 = .ok (.iload 6, 2) := by decide +kernel
theorem dX4_improve_114 : decode cX4_improve 114 = .ok (.lload 8, 2) := by decide +kernel
theorem dX4_improve_116 : decode cX4_improve 116 = .ok (.lastore, 1) := by decide +kernel
theorem dX4_improve_117 : decode cX4_improve 117 = .ok (.aload_n 0, 1) := by decide +kernel
theorem dX4_improve_118 : decode cX4_improve 118 = .ok (.getfield 15, 3) := by decide +kernel
theorem dX4_improve_121 : decode cX4_improve 121 = .ok (.iload 6, 2) := by decide +kernel
theorem dX4_improve_123 : decode cX4_improve 123 = .ok (.aload_n 0, 1) := by decide +kernel
theorem dX4_improve_124 : decode cX4_improve 124 = .ok (.getfield 15, 3) := by decide +kernel
theorem dX4_improve_127 : decode cX4_improve 127 = .ok (.iload 7, 2) := by decide +kernel
theorem dX4_improve_129 : decode cX4_improve 129 = .ok (.iaload, 1) := by decide +kernel
theorem dX4_improve_130 : decode cX4_improve 130 = .ok (.iconst 1, 1) := by decide +kernel
theorem dX4_improve_131 : decode cX4_improve 131 = .ok (.iadd, 1) := by decide +kernel
theorem dX4_improve_132 : decode cX4_improve 132 = .ok (.iastore, 1) := by decide +kernel
theorem dX4_improve_133 : decode cX4_improve 133 = .ok (.iconst 1, 1) := by decide +kernel
theorem dX4_improve_134 : decode cX4_improve 134 = .ok (.istore 4, 2) := by decide +kernel
theorem dX4_improve_136 : decode cX4_improve 136 = .ok (.iinc 5 1, 3) := by decide +kernel
theorem dX4_improve_139 : decode cX4_improve 139 = .ok (.goto (-133), 3) := by decide +kernel
theorem dX4_improve_142 : decode cX4_improve 142 = .ok (.iload 4, 2) := by decide +kernel
theorem dX4_improve_144 : decode cX4_improve 144 = .ok (.ireturn, 1) := by decide +kernel
theorem dX4_isBetter_0 : decode cX4_isBetter 0 = .ok (.lload_n 3, 1) := by decide +kernel
theorem dX4_isBetter_1 : decode cX4_isBetter 1 = .ok (.ldc2_w 29, 3) := by decide +kernel
theorem dX4_isBetter_4 : decode cX4_isBetter 4 = .ok (.lcmp, 1) := by decide +kernel
theorem dX4_isBetter_5 : decode cX4_isBetter 5 = .ok (.ifCond .eq 21, 3) := by decide +kernel
theorem dX4_isBetter_8 : decode cX4_isBetter 8 = .ok (.lload_n 0, 1) := by decide +kernel
theorem dX4_isBetter_9 : decode cX4_isBetter 9 = .ok (.lload_n 3, 1) := by decide +kernel
theorem dX4_isBetter_10 : decode cX4_isBetter 10 = .ok (.lcmp, 1) := by decide +kernel
theorem dX4_isBetter_11 : decode cX4_isBetter 11 = .ok (.ifCond .lt 15, 3) := by decide +kernel
theorem dX4_isBetter_14 : decode cX4_isBetter 14 = .ok (.lload_n 0, 1) := by decide +kernel
theorem dX4_isBetter_15 : decode cX4_isBetter 15 = .ok (.lload_n 3, 1) := by decide +kernel
theorem dX4_isBetter_16 : decode cX4_isBetter 16 = .ok (.lcmp, 1) := by decide +kernel
theorem dX4_isBetter_17 : decode cX4_isBetter 17 = .ok (.ifCond .ne 13, 3) := by decide +kernel
theorem dX4_isBetter_20 : decode cX4_isBetter 20 = .ok (.iload_n 2, 1) := by decide +kernel
theorem dX4_isBetter_21 : decode cX4_isBetter 21 = .ok (.iload 5, 2) := by decide +kernel
theorem dX4_isBetter_23 : decode cX4_isBetter 23 = .ok (.if_icmp .ge 7, 3) := by decide +kernel
theorem dX4_isBetter_26 : decode cX4_isBetter 26 = .ok (.iconst 1, 1) := by decide +kernel
theorem dX4_isBetter_27 : decode cX4_isBetter 27 = .ok (.goto 4, 3) := by decide +kernel
theorem dX4_isBetter_30 : decode cX4_isBetter 30 = .ok (.iconst 0, 1) := by decide +kernel
theorem dX4_isBetter_31 : decode cX4_isBetter 31 = .ok (.ireturn, 1) := by decide +kernel
theorem dX5_init_0 : decode cX5_init 0 = .ok (.aload_n 0, 1) := by decide +kernel
theorem dX5_init_1 : decode cX5_init 1 = .ok (.invokespecial 3, 3) := by decide +kernel
theorem dX5_init_4 : decode cX5_init 4 = .ok (.aload_n 0, 1) := by decide +kernel
theorem dX5_init_5 : decode cX5_init 5 = .ok (.new 9, 3) := by decide +kernel
theorem dX5_init_8 : decode cX5_init 8 = .ok (.dup, 1) := by decide +kernel
theorem dX5_init_9 : decode cX5_init 9 = .ok (.invokespecial 11, 3) := by decide +kernel
theorem dX5_init_12 : decode cX5_init 12 = .ok (.putfield 12, 3) := by decide +kernel
theorem dX5_init_15 : decode cX5_init 15 = .ok (.aload_n 0, 1) := by decide +kernel
theorem dX5_init_16 : decode cX5_init 16 = .ok (.new 16, 3) := by decide +kernel
theorem dX5_init_19 : decode cX5_init 19 = .ok (.dup, 1) := by decide +kernel
theorem dX5_init_20 : decode cX5_init 20 = .ok (.invokespecial 18, 3) := by decide +kernel
theorem dX5_init_23 : decode cX5_init 23 = .ok (.putfield 19, 3) := by decide +kernel
theorem dX5_init_26 : decode cX5_init 26 = .ok (.aload_n 0, 1) := by decide +kernel
theorem dX5_init_27 : decode cX5_init 27 = .ok (.iconst 4, 1) := by decide +kernel
theorem dX5_init_28 : decode cX5_init 28 = .ok (.anewarray 16, 3) := by decide +kernel
theorem dX5_init_31 : decode cX5_init 31 = .ok (.putfield 23, 3) := by decide +kernel
theorem dX5_init_34 : decode cX5_init 34 = .ok (.aload_n 0, 1) := by decide +kernel
theorem dX5_init_35 : decode cX5_init 35 = .ok (.new 27, 3) := by decide +kernel
theorem dX5_init_38 : decode cX5_init 38 = .ok (.dup, 1) := by decide +kernel
theorem dX5_init_39 : decode cX5_init 39 = .ok (.aload_n 0, 1) := by decide +kernel
theorem dX5_init_40 : decode cX5_init 40 = .ok (.getfield 19, 3) := by decide +kernel
theorem dX5_init_43 : decode cX5_init 43 = .ok (.invokespecial 29, 3) := by decide +kernel
theorem dX5_init_46 : decode cX5_init 46 = .ok (.putfield 32, 3) := by decide +kernel
theorem dX5_init_49 : decode cX5_init 49 = .ok (.aload_n 0, 1) := by decide +kernel
theorem dX5_init_50 : decode cX5_init 50 = .ok (.new 36, 3) := by decide +kernel
theorem dX5_init_53 : decode cX5_init 53 = .ok (.dup, 1) := by decide +kernel
theorem dX5_init_54 : decode cX5_init 54 = .ok (.invokespecial 38, 3) := by decide +kernel
theorem dX5_init_57 : decode cX5_init 57 = .ok (.putfield 39, 3) := by decide +kernel
theorem dX5_init_60 : decode cX5_init 60 = .ok (.aload_n 0, 1) := by decide +kernel
theorem dX5_init_61 : decode cX5_init 61 = .ok (.new 43, 3) := by decide +kernel
theorem dX5_init_64 : decode cX5_init 64 = .ok (.dup, 1) := by decide +kernel
theorem dX5_init_65 : decode cX5_init 65 = .ok (.aload_n 0, 1) := by decide +kernel
theorem dX5_init_66 : decode cX5_init 66 = .ok (.getfield 12, 3) := by decide +kernel
theorem dX5_init_69 : decode cX5_init 69 = .ok (.aload_n 0, 1) := by decide +kernel
theorem dX5_init_70 : decode cX5_init 70 = .ok (.getfield 19, 3) := by decide +kernel
theorem dX5_init_73 : decode cX5_init 73 = .ok (.invokespecial 45, 3) := by decide +kernel
theorem dX5_init_76 : decode cX5_init 76 = .ok (.putfield 48, 3) := by decide +kernel
theorem dX5_init_79 : decode cX5_init 79 = .ok (.iconst 0, 1) := by decide +kernel
theorem dX5_init_80 : decode cX5_init 80 = .ok (.istore_n 1, 1) := by decide +kernel
theorem dX5_init_81 : decode cX5_init 81 = .ok (.iload_n 1, 1) := by decide +kernel
theorem dX5_init_82 : decode cX5_init 82 = .ok (.iconst 4, 1) := by decide +kernel
theorem dX5_init_83 : decode cX5_init 83 = .ok (.if_icmp .ge 22, 3) := by decide +kernel
theorem dX5_init_86 : decode cX5_init 86 = .ok (.aload_n 0, 1) := by decide +kernel
theorem dX5_init_87 : decode cX5_init 87 = .ok (.getfield 23, 3) := by decide +kernel
theorem dX5_init_90 : decode cX5_init 90 = .ok (.iload_n 1, 1) := by decide +kernel
theorem dX5_init_91 : decode cX5_init 91 = .ok (.new 16, 3) := by decide +kernel
theorem dX5_init_94 : decode cX5_init 94 = .ok (.dup, 1) := by decide +kernel
theorem dX5_init_95 : decode cX5_init 95 = .ok (.invokespecial 18, 3) := by decide +kernel
theorem dX5_init_98 : decode cX5_init 98 = .ok (.aastore, 1) := by decide +kernel
theorem dX5_init_99 : decode cX5_init 99 = .ok (.iinc 1 1, 3) := by decide +kernel
theorem dX5_init_102 : decode cX5_init 102 = .ok (.goto (-21), 3) := by decide +kernel
theorem dX5_init_105 : decode cX5_init 105 = .ok (.return_, 1) := by decide +kernel
theorem dX5_piece_0 : decode cX5_piece 0 = .ok (.aload_n 0, 1) := by decide +kernel
theorem dX5_piece_1 : decode cX5_piece 1 = .ok (.getfield 12, 3) := by decide +kernel
theorem dX5_piece_4 : decode cX5_piece 4 = .ok (.iload_n 1, 1) := by decide +kernel
theorem dX5_piece_5 : decode cX5_piece 5 = .ok (.iload_n 2, 1) := by decide +kernel
theorem dX5_piece_6 : decode cX5_piece 6 = .ok (.iload_n 3, 1) := by decide +kernel
theorem dX5_piece_7 : decode cX5_piece 7 = .ok (.iload 4, 2) := by decide +kernel
theorem dX5_piece_9 : decode cX5_piece 9 = .ok (.iload 5, 2) := by decide +kernel
theorem dX5_piece_11 : decode cX5_piece 11 = .ok (.invokevirtual 52, 3) := by decide +kernel
theorem dX5_piece_14 : decode cX5_piece 14 = .ok (.istore 6, 2) := by decide +kernel
theorem dX5_piece_16 : decode cX5_piece 16 = .ok (.iload 6, 2) := by decide +kernel
theorem dX5_piece_18 : decode cX5_piece 18 = .ok (.iconst (-1), 1) := by decide +kernel
theorem dX5_piece_19 : decode cX5_piece 19 = .ok (.if_icmp .eq 10, 3) := by decide +kernel
theorem dX5_piece_22 : decode cX5_piece 22 = .ok (.aload_n 0, 1) := by decide +kernel
theorem dX5_piece_23 : decode cX5_piece 23 = .ok (.getfield 48, 3) := by decide +kernel
theorem dX5_piece_26 : decode cX5_piece 26 = .ok (.invokevirtual 56, 3) := by decide +kernel
theorem dX5_piece_29 : decode cX5_piece 29 = .ok (.iload 6, 2) := by decide +kernel
theorem dX5_piece_31 : decode cX5_piece 31 = .ok (.ireturn, 1) := by decide +kernel
theorem dX5_joint_0 : decode cX5_joint 0 = .ok (.aload_n 0, 1) := by decide +kernel
theorem dX5_joint_1 : decode cX5_joint 1 = .ok (.iload_n 1, 1) := by decide +kernel
theorem dX5_joint_2 : decode cX5_joint 2 = .ok (.invokevirtual 59, 3) := by decide +kernel
theorem dX5_joint_5 : decode cX5_joint 5 = .ok (.aload_n 0, 1) := by decide +kernel
theorem dX5_joint_6 : decode cX5_joint 6 = .ok (.iload_n 3, 1) := by decide +kernel
theorem dX5_joint_7 : decode cX5_joint 7 = .ok (.invokevirtual 59, 3) := by decide +kernel
theorem dX5_joint_10 : decode cX5_joint 10 = .ok (.aload_n 0, 1) := by decide +kernel
theorem dX5_joint_11 : decode cX5_joint 11 = .ok (.getfield 12, 3) := by decide +kernel
theorem dX5_joint_14 : decode cX5_joint 14 = .ok (.iload_n 1, 1) := by decide +kernel
theorem dX5_joint_15 : decode cX5_joint 15 = .ok (.iload_n 2, 1) := by decide +kernel
theorem dX5_joint_16 : decode cX5_joint 16 = .ok (.iload_n 3, 1) := by decide +kernel
theorem dX5_joint_17 : decode cX5_joint 17 = .ok (.iload 4, 2) := by decide +kernel
theorem dX5_joint_19 : decode cX5_joint 19 = .ok (.invokevirtual 63, 3) := by decide +kernel
theorem dX5_joint_22 : decode cX5_joint 22 = .ok (.istore 5, 2) := by decide +kernel
theorem dX5_joint_24 : decode cX5_joint 24 = .ok (.iload 5, 2) := by decide +kernel
theorem dX5_joint_26 : decode cX5_joint 26 = .ok (.iconst (-1), 1) := by decide +kernel
theorem dX5_joint_27 : decode cX5_joint 27 = .ok (.if_icmp .eq 10, 3) := by decide +kernel
theorem dX5_joint_30 : decode cX5_joint 30 = .ok (.aload_n 0, 1) := by decide +kernel
theorem dX5_joint_31 : decode cX5_joint 31 = .ok (.getfield 48, 3) := by decide +kernel
theorem dX5_joint_34 : decode cX5_joint 34 = .ok (.invokevirtual 56, 3) := by decide +kernel
theorem dX5_joint_37 : decode cX5_joint 37 = .ok (.iload 5, 2) := by decide +kernel
theorem dX5_joint_39 : decode cX5_joint 39 = .ok (.ireturn, 1) := by decide +kernel
theorem dX5_price_0 : decode cX5_price 0 = .ok (.iload_n 1, 1) := by decide +kernel
theorem dX5_price_1 : decode cX5_price 1 = .ok (.ifCond .lt 18, 3) := by decide +kernel
theorem dX5_price_4 : decode cX5_price 4 = .ok (.iload_n 1, 1) := by decide +kernel
theorem dX5_price_5 : decode cX5_price 5 = .ok (.iconst 2, 1) := by decide +kernel
theorem dX5_price_6 : decode cX5_price 6 = .ok (.if_icmp .ge 13, 3) := by decide +kernel
theorem dX5_price_9 : decode cX5_price 9 = .ok (.iload_n 2, 1) := by decide +kernel
theorem dX5_price_10 : decode cX5_price 10 = .ok (.ifCond .lt 9, 3) := by decide +kernel
theorem dX5_price_13 : decode cX5_price 13 = .ok (.iload_n 2, 1) := by decide +kernel
theorem dX5_price_14 : decode cX5_price 14 = .ok (.bipush 99, 2) := by decide +kernel
theorem dX5_price_16 : decode cX5_price 16 = .ok (.if_icmp .le 13, 3) := by decide +kernel
theorem dX5_price_19 : decode cX5_price 19 = .ok (.new 67, 3) := by decide +kernel
theorem dX5_price_22 : decode cX5_price 22 = .ok (.dup, 1) := by decide +kernel
theorem dX5_price_23 : decode cX5_price 23 = .ok (.ldc 69, 2) := by decide +kernel
theorem dX5_price_25 : decode cX5_price 25 = .ok (.invokespecial 71, 3) := by decide +kernel
theorem dX5_price_28 : decode cX5_price 28 = .ok (.athrow, 1) := by decide +kernel
theorem dX5_price_29 : decode cX5_price 29 = .ok (.aload_n 0, 1) := by decide +kernel
theorem dX5_price_30 : decode cX5_price 30 = .ok (.getfield 12, 3) := by decide +kernel
theorem dX5_price_33 : decode cX5_price 33 = .ok (.getfield 74, 3) := by decide +kernel
theorem dX5_price_36 : decode cX5_price 36 = .ok (.iload_n 1, 1) := by decide +kernel
theorem dX5_price_37 : decode cX5_price 37 = .ok (.iaload, 1) := by decide +kernel
theorem dX5_price_38 : decode cX5_price 38 = .ok (.istore_n 3, 1) := by decide +kernel
theorem dX5_price_39 : decode cX5_price 39 = .ok (.aload_n 0, 1) := by decide +kernel
theorem dX5_price_40 : decode cX5_price 40 = .ok (.getfield 12, 3) := by decide +kernel
theorem dX5_price_43 : decode cX5_price 43 = .ok (.getfield 74, 3) := by decide +kernel
theorem dX5_price_46 : decode cX5_price 46 = .ok (.iload_n 1, 1) := by decide +kernel
theorem dX5_price_47 : decode cX5_price 47 = .ok (.iload_n 2, 1) := by decide +kernel
theorem dX5_price_48 : decode cX5_price 48 = .ok (.iastore, 1) := by decide +kernel
theorem dX5_price_49 : decode cX5_price 49 = .ok (.aload_n 0, 1) := by decide +kernel
theorem dX5_price_50 : decode cX5_price 50 = .ok (.getfield 48, 3) := by decide +kernel
theorem dX5_price_53 : decode cX5_price 53 = .ok (.invokevirtual 56, 3) := by decide +kernel
theorem dX5_price_56 : decode cX5_price 56 = .ok (.iload_n 3, 1) := by decide +kernel
theorem dX5_price_57 : decode cX5_price 57 = .ok (.ireturn, 1) := by decide +kernel
theorem dX5_play_0 : decode cX5_play 0 = .ok (.aload_n 0, 1) := by decide +kernel
theorem dX5_play_1 : decode cX5_play 1 = .ok (.iload_n 1, 1) := by decide +kernel
theorem dX5_play_2 : decode cX5_play 2 = .ok (.invokevirtual 59, 3) := by decide +kernel
theorem dX5_play_5 : decode cX5_play 5 = .ok (.aload_n 0, 1) := by decide +kernel
theorem dX5_play_6 : decode cX5_play 6 = .ok (.getfield 12, 3) := by decide +kernel
theorem dX5_play_9 : decode cX5_play 9 = .ok (.iload_n 1, 1) := by decide +kernel
theorem dX5_play_10 : decode cX5_play 10 = .ok (.invokevirtual 78, 3) := by decide +kernel
theorem dX5_play_13 : decode cX5_play 13 = .ok (.ifCond .ne 5, 3) := by decide +kernel
theorem dX5_play_16 : decode cX5_play 16 = .ok (.iconst 0, 1) := by decide +kernel
theorem dX5_play_17 : decode cX5_play 17 = .ok (.ireturn, 1) := by decide +kernel
theorem dX5_play_18 : decode cX5_play 18 = .ok (.aload_n 0, 1) := by decide +kernel
theorem dX5_play_19 : decode cX5_play 19 = .ok (.getfield 32, 3) := by decide +kernel
theorem dX5_play_22 : decode cX5_play 22 = .ok (.iconst 0, 1) := by decide +kernel
theorem dX5_play_23 : decode cX5_play 23 = .ok (.iload_n 1, 1) := by decide +kernel
theorem dX5_play_24 : decode cX5_play 24 = .ok (.invokevirtual 82, 3) := by decide +kernel
theorem dX5_play_27 : decode cX5_play 27 = .ok (.aload_n 0, 1) := by decide +kernel
theorem dX5_play_28 : decode cX5_play 28 = .ok (.iload_n 1, 1) := by decide +kernel
theorem dX5_play_29 : decode cX5_play 29 = .ok (.iconst 1, 1) := by decide +kernel
theorem dX5_play_30 : decode cX5_play 30 = .ok (.invokevirtual 86, 3) := by decide +kernel
theorem dX5_play_33 : decode cX5_play 33 = .ok (.aload_n 0, 1) := by decide +kernel
theorem dX5_play_34 : decode cX5_play 34 = .ok (.getfield 48, 3) := by decide +kernel
theorem dX5_play_37 : decode cX5_play 37 = .ok (.invokevirtual 89, 3) := by decide +kernel
theorem dX5_play_40 : decode cX5_play 40 = .ok (.iconst 1, 1) := by decide +kernel
theorem dX5_play_41 : decode cX5_play 41 = .ok (.ireturn, 1) := by decide +kernel
theorem dX5_ask_0 : decode cX5_ask 0 = .ok (.aload_n 0, 1) := by decide +kernel
theorem dX5_ask_1 : decode cX5_ask 1 = .ok (.iload_n 1, 1) := by decide +kernel
theorem dX5_ask_2 : decode cX5_ask 2 = .ok (.invokevirtual 92, 3) := by decide +kernel
theorem dX5_ask_5 : decode cX5_ask 5 = .ok (.aload_n 0, 1) := by decide +kernel
theorem dX5_ask_6 : decode cX5_ask 6 = .ok (.getfield 19, 3) := by decide +kernel
theorem dX5_ask_9 : decode cX5_ask 9 = .ok (.iload_n 1, 1) := by decide +kernel
theorem dX5_ask_10 : decode cX5_ask 10 = .ok (.putfield 95, 3) := by decide +kernel
theorem dX5_ask_13 : decode cX5_ask 13 = .ok (.aload_n 0, 1) := by decide +kernel
theorem dX5_ask_14 : decode cX5_ask 14 = .ok (.invokevirtual 99, 3) := by decide +kernel
theorem dX5_ask_17 : decode cX5_ask 17 = .ok (.ifCond .eq 5, 3) := by decide +kernel
theorem dX5_ask_20 : decode cX5_ask 20 = .ok (.iconst 0, 1) := by decide +kernel
theorem dX5_ask_21 : decode cX5_ask 21 = .ok (.ireturn, 1) := by decide +kernel
theorem dX5_ask_22 : decode cX5_ask 22 = .ok (.aload_n 0, 1) := by decide +kernel
theorem dX5_ask_23 : decode cX5_ask 23 = .ok (.getfield 48, 3) := by decide +kernel
theorem dX5_ask_26 : decode cX5_ask 26 = .ok (.invokevirtual 89, 3) := by decide +kernel
theorem dX5_ask_29 : decode cX5_ask 29 = .ok (.aload_n 0, 1) := by decide +kernel
theorem dX5_ask_30 : decode cX5_ask 30 = .ok (.invokevirtual 103, 3) := by decide +kernel
theorem dX5_ask_33 : decode cX5_ask 33 = .ok (.ireturn, 1) := by decide +kernel
theorem dX5_leave_0 : decode cX5_leave 0 = .ok (.aload_n 0, 1) := by decide +kernel
theorem dX5_leave_1 : decode cX5_leave 1 = .ok (.getfield 19, 3) := by decide +kernel
theorem dX5_leave_4 : decode cX5_leave 4 = .ok (.getfield 95, 3) := by decide +kernel
theorem dX5_leave_7 : decode cX5_leave 7 = .ok (.istore_n 1, 1) := by decide +kernel
theorem dX5_leave_8 : decode cX5_leave 8 = .ok (.aload_n 0, 1) := by decide +kernel
theorem dX5_leave_9 : decode cX5_leave 9 = .ok (.getfield 19, 3) := by decide +kernel
theorem dX5_leave_12 : decode cX5_leave 12 = .ok (.iconst (-1), 1) := by decide +kernel
theorem dX5_leave_13 : decode cX5_leave 13 = .ok (.putfield 95, 3) := by decide +kernel
theorem dX5_leave_16 : decode cX5_leave 16 = .ok (.aload_n 0, 1) := by decide +kernel
theorem dX5_leave_17 : decode cX5_leave 17 = .ok (.getfield 48, 3) := by decide +kernel
theorem dX5_leave_20 : decode cX5_leave 20 = .ok (.invokevirtual 107, 3) := by decide +kernel
theorem dX5_leave_23 : decode cX5_leave 23 = .ok (.iload_n 1, 1) := by decide +kernel
theorem dX5_leave_24 : decode cX5_leave 24 = .ok (.ireturn, 1) := by decide +kernel
theorem dX5_way_0 : decode cX5_way 0 = .ok (.iload_n 1, 1) := by decide +kernel
theorem dX5_way_1 : decode cX5_way 1 = .ok (.iconst (-1), 1) := by decide +kernel
theorem dX5_way_2 : decode cX5_way 2 = .ok (.if_icmp .ne 8, 3) := by decide +kernel
theorem dX5_way_5 : decode cX5_way 5 = .ok (.aload_n 0, 1) := by decide +kernel
theorem dX5_way_6 : decode cX5_way 6 = .ok (.invokevirtual 103, 3) := by decide +kernel
theorem dX5_way_9 : decode cX5_way 9 = .ok (.ireturn, 1) := by decide +kernel
theorem dX5_way_10 : decode cX5_way 10 = .ok (.iload_n 1, 1) := by decide +kernel
theorem dX5_way_11 : decode cX5_way 11 = .ok (.ifCond .lt 14, 3) := by decide +kernel
theorem dX5_way_14 : decode cX5_way 14 = .ok (.iload_n 1, 1) := by decide +kernel
theorem dX5_way_15 : decode cX5_way 15 = .ok (.aload_n 0, 1) := by decide +kernel
theorem dX5_way_16 : decode cX5_way 16 = .ok (.getfield 48, 3) := by decide +kernel
theorem dX5_way_19 : decode cX5_way 19 = .ok (.invokevirtual 110, 3) := by decide +kernel
theorem dX5_way_22 : decode cX5_way 22 = .ok (.if_icmp .lt 13, 3) := by decide +kernel
theorem dX5_way_25 : decode cX5_way 25 = .ok (.new 113, 3) := by decide +kernel
theorem dX5_way_28 : decode cX5_way 28 = .ok (.dup, 1) := by decide +kernel
theorem dX5_way_29 : decode cX5_way 29 = .ok (.ldc 115, 2) := by decide +kernel
theorem dX5_way_31 : decode cX5_way 31 = .ok (.invokespecial 117, 3) := by decide +kernel
theorem dX5_way_34 : decode cX5_way 34 = .ok (.athrow, 1) := by decide +kernel
theorem dX5_way_35 : decode cX5_way 35 = .ok (.aload_n 0, 1) := by decide +kernel
theorem dX5_way_36 : decode cX5_way 36 = .ok (.getfield 48, 3) := by decide +kernel
theorem dX5_way_39 : decode cX5_way 39 = .ok (.iload_n 1, 1) := by decide +kernel
theorem dX5_way_40 : decode cX5_way 40 = .ok (.invokevirtual 118, 3) := by decide +kernel
theorem dX5_way_43 : decode cX5_way 43 = .ok (.ireturn, 1) := by decide +kernel
theorem dX5_cost_0 : decode cX5_cost 0 = .ok (.aload_n 0, 1) := by decide +kernel
theorem dX5_cost_1 : decode cX5_cost 1 = .ok (.getfield 48, 3) := by decide +kernel
theorem dX5_cost_4 : decode cX5_cost 4 = .ok (.invokevirtual 122, 3) := by decide +kernel
theorem dX5_cost_7 : decode cX5_cost 7 = .ok (.lreturn, 1) := by decide +kernel
theorem dX5_reach_0 : decode cX5_reach 0 = .ok (.aload_n 0, 1) := by decide +kernel
theorem dX5_reach_1 : decode cX5_reach 1 = .ok (.iload_n 1, 1) := by decide +kernel
theorem dX5_reach_2 : decode cX5_reach 2 = .ok (.invokevirtual 126, 3) := by decide +kernel
theorem dX5_reach_5 : decode cX5_reach 5 = .ok (.aload_n 0, 1) := by decide +kernel
theorem dX5_reach_6 : decode cX5_reach 6 = .ok (.iload_n 2, 1) := by decide +kernel
theorem dX5_reach_7 : decode cX5_reach 7 = .ok (.invokevirtual 92, 3) := by decide +kernel
theorem dX5_reach_10 : decode cX5_reach 10 = .ok (.aload_n 0, 1) := by decide +kernel
theorem dX5_reach_11 : decode cX5_reach 11 = .ok (.getfield 39, 3) := by decide +kernel
theorem dX5_reach_14 : decode cX5_reach 14 = .ok (.aload_n 0, 1) := by decide +kernel
theorem dX5_reach_15 : decode cX5_reach 15 = .ok (.getfield 12, 3) := by decide +kernel
theorem dX5_reach_18 : decode cX5_reach 18 = .ok (.iload_n 2, 1) := by decide +kernel
theorem dX5_reach_19 : decode cX5_reach 19 = .ok (.iconst 0, 1) := by decide +kernel
theorem dX5_reach_20 : decode cX5_reach 20 = .ok (.iconst 1, 1) := by decide +kernel
theorem dX5_reach_21 : decode cX5_reach 21 = .ok (.invokevirtual 129, 3) := by decide +kernel
theorem dX5_reach_24 : decode cX5_reach 24 = .ok (.aload_n 0, 1) := by decide +kernel
theorem dX5_reach_25 : decode cX5_reach 25 = .ok (.getfield 39, 3) := by decide +kernel
theorem dX5_reach_28 : decode cX5_reach 28 = .ok (.getfield 133, 3) := by decide +kernel
theorem dX5_reach_31 : decode cX5_reach 31 = .ok (.iload_n 1, 1) := by decide +kernel
theorem dX5_reach_32 : decode cX5_reach 32 = .ok (.laload, 1) := by decide +kernel
theorem dX5_reach_33 : decode cX5_reach 33 = .ok (.lreturn, 1) := by decide +kernel
theorem dX5_lacks_0 : decode cX5_lacks 0 = .ok (.aload_n 0, 1) := by decide +kernel
theorem dX5_lacks_1 : decode cX5_lacks 1 = .ok (.iload_n 1, 1) := by decide +kernel
theorem dX5_lacks_2 : decode cX5_lacks 2 = .ok (.invokevirtual 126, 3) := by decide +kernel
theorem dX5_lacks_5 : decode cX5_lacks 5 = .ok (.aload_n 0, 1) := by decide +kernel
theorem dX5_lacks_6 : decode cX5_lacks 6 = .ok (.iload_n 2, 1) := by decide +kernel
theorem dX5_lacks_7 : decode cX5_lacks 7 = .ok (.invokevirtual 92, 3) := by decide +kernel
theorem dX5_lacks_10 : decode cX5_lacks 10 = .ok (.aload_n 0, 1) := by decide +kernel
theorem dX5_lacks_11 : decode cX5_lacks 11 = .ok (.getfield 39, 3) := by decide +kernel
theorem dX5_lacks_14 : decode cX5_lacks 14 = .ok (.aload_n 0, 1) := by decide +kernel
theorem dX5_lacks_15 : decode cX5_lacks 15 = .ok (.getfield 12, 3) := by decide +kernel
theorem dX5_lacks_18 : decode cX5_lacks 18 = .ok (.iload_n 2, 1) := by decide +kernel
theorem dX5_lacks_19 : decode cX5_lacks 19 = .ok (.iconst 0, 1) := by decide +kernel
theorem dX5_lacks_20 : decode cX5_lacks 20 = .ok (.iconst 1, 1) := by decide +kernel
theorem dX5_lacks_21 : decode cX5_lacks 21 = .ok (.invokevirtual 129, 3) := by decide +kernel
theorem dX5_lacks_24 : decode cX5_lacks 24 = .ok (.aload_n 0, 1) := by decide +kernel
theorem dX5_lacks_25 : decode cX5_lacks 25 = .ok (.getfield 12, 3) := by decide +kernel
theorem dX5_lacks_28 : decode cX5_lacks 28 = .ok (.iload_n 2, 1) := by decide +kernel
theorem dX5_lacks_29 : decode cX5_lacks 29 = .ok (.invokevirtual 137, 3) := by decide +kernel
theorem dX5_lacks_32 : decode cX5_lacks 32 = .ok (.istore_n 3, 1) := by decide +kernel
theorem dX5_lacks_33 : decode cX5_lacks 33 = .ok (.aload_n 0, 1) := by decide +kernel
theorem dX5_lacks_34 : decode cX5_lacks 34 = .ok (.getfield 39, 3) := by decide +kernel
theorem dX5_lacks_37 : decode cX5_lacks 37 = .ok (.getfield 133, 3) := by decide +kernel
theorem dX5_lacks_40 : decode cX5_lacks 40 = .ok (.iload_n 1, 1) := by decide +kernel
theorem dX5_lacks_41 : decode cX5_lacks 41 = .ok (.laload, 1) := by decide +kernel
theorem dX5_lacks_42 : decode cX5_lacks 42 = .ok (.ldc2_w 140, 3) := by decide +kernel
theorem dX5_lacks_45 : decode cX5_lacks 45 = .ok (.lcmp, 1) := by decide +kernel
theorem dX5_lacks_46 : decode cX5_lacks 46 = .ok (.ifCond .ne 8, 3) := by decide +kernel
theorem dX5_lacks_49 : decode cX5_lacks 49 = .ok (.iload_n 3, 1) := by decide +kernel
theorem dX5_lacks_50 : decode cX5_lacks 50 = .ok (.iconst (-1), 1) := by decide +kernel
theorem dX5_lacks_51 : decode cX5_lacks 51 = .ok (.if_icmp .ne 5, 3) := by decide +kernel
theorem dX5_lacks_54 : decode cX5_lacks 54 = .ok (.iconst (-1), 1) := by decide +kernel
theorem dX5_lacks_55 : decode cX5_lacks 55 = .ok (.ireturn, 1) := by decide +kernel
theorem dX5_lacks_56 : decode cX5_lacks 56 = .ok (.bipush 100, 2) := by decide +kernel
theorem dX5_lacks_58 : decode cX5_lacks 58 = .ok (.aload_n 0, 1) := by decide +kernel
theorem dX5_lacks_59 : decode cX5_lacks 59 = .ok (.getfield 12, 3) := by decide +kernel
theorem dX5_lacks_62 : decode cX5_lacks 62 = .ok (.iload_n 1, 1) := by decide +kernel
theorem dX5_lacks_63 : decode cX5_lacks 63 = .ok (.invokevirtual 142, 3) := by decide +kernel
theorem dX5_lacks_66 : decode cX5_lacks 66 = .ok (.imul, 1) := by decide +kernel
theorem dX5_lacks_67 : decode cX5_lacks 67 = .ok (.iload_n 3, 1) := by decide +kernel
theorem dX5_lacks_68 : decode cX5_lacks 68 = .ok (.iadd, 1) := by decide +kernel
theorem dX5_lacks_69 : decode cX5_lacks 69 = .ok (.ireturn, 1) := by decide +kernel
theorem dX5_layer_0 : decode cX5_layer 0 = .ok (.aload_n 0, 1) := by decide +kernel
theorem dX5_layer_1 : decode cX5_layer 1 = .ok (.iload_n 1, 1) := by decide +kernel
theorem dX5_layer_2 : decode cX5_layer 2 = .ok (.invokevirtual 59, 3) := by decide +kernel
theorem dX5_layer_5 : decode cX5_layer 5 = .ok (.aload_n 0, 1) := by decide +kernel
theorem dX5_layer_6 : decode cX5_layer 6 = .ok (.getfield 12, 3) := by decide +kernel
theorem dX5_layer_9 : decode cX5_layer 9 = .ok (.getfield 145, 3) := by decide +kernel
theorem dX5_layer_12 : decode cX5_layer 12 = .ok (.iload_n 1, 1) := by decide +kernel
theorem dX5_layer_13 : decode cX5_layer 13 = .ok (.iaload, 1) := by decide +kernel
theorem dX5_layer_14 : decode cX5_layer 14 = .ok (.iconst 2, 1) := by decide +kernel
theorem dX5_layer_15 : decode cX5_layer 15 = .ok (.if_icmp .ne 13, 3) := by decide +kernel
theorem dX5_layer_18 : decode cX5_layer 18 = .ok (.iload_n 2, 1) := by decide +kernel
theorem dX5_layer_19 : decode cX5_layer 19 = .ok (.ifCond .lt 9, 3) := by decide +kernel
theorem dX5_layer_22 : decode cX5_layer 22 = .ok (.iload_n 2, 1) := by decide +kernel
theorem dX5_layer_23 : decode cX5_layer 23 = .ok (.bipush 8, 2) := by decide +kernel
theorem dX5_layer_25 : decode cX5_layer 25 = .ok (.if_icmp .le 5, 3) := by decide +kernel
theorem dX5_layer_28 : decode cX5_layer 28 = .ok (.iconst (-1), 1) := by decide +kernel
theorem dX5_layer_29 : decode cX5_layer 29 = .ok (.ireturn, 1) := by decide +kernel
theorem dX5_layer_30 : decode cX5_layer 30 = .ok (.aload_n 0, 1) := by decide +kernel
theorem dX5_layer_31 : decode cX5_layer 31 = .ok (.getfield 19, 3) := by decide +kernel
theorem dX5_layer_34 : decode cX5_layer 34 = .ok (.getfield 148, 3) := by decide +kernel
theorem dX5_layer_37 : decode cX5_layer 37 = .ok (.iload_n 1, 1) := by decide +kernel
theorem dX5_layer_38 : decode cX5_layer 38 = .ok (.iaload, 1) := by decide +kernel
theorem dX5_layer_39 : decode cX5_layer 39 = .ok (.istore_n 3, 1) := by decide +kernel
theorem dX5_layer_40 : decode cX5_layer 40 = .ok (.aload_n 0, 1) := by decide +kernel
theorem dX5_layer_41 : decode cX5_layer 41 = .ok (.getfield 19, 3) := by decide +kernel
theorem dX5_layer_44 : decode cX5_layer 44 = .ok (.getfield 148, 3) := by decide +kernel
theorem dX5_layer_47 : decode cX5_layer 47 = .ok (.iload_n 1, 1) := by decide +kernel
theorem dX5_layer_48 : decode cX5_layer 48 = .ok (.iload_n 2, 1) := by decide +kernel
theorem dX5_layer_49 : decode cX5_layer 49 = .ok (.iastore, 1) := by decide +kernel
theorem dX5_layer_50 : decode cX5_layer 50 = .ok (.iload_n 3, 1) := by decide +kernel
theorem dX5_layer_51 : decode cX5_layer 51 = .ok (.ireturn, 1) := by decide +kernel
theorem dX5_sting_0 : decode cX5_sting 0 = .ok (.aload_n 0, 1) := by decide +kernel
theorem dX5_sting_1 : decode cX5_sting 1 = .ok (.iload_n 1, 1) := by decide +kernel
theorem dX5_sting_2 : decode cX5_sting 2 = .ok (.invokevirtual 59, 3) := by decide +kernel
theorem dX5_sting_5 : decode cX5_sting 5 = .ok (.aload_n 0, 1) := by decide +kernel
theorem dX5_sting_6 : decode cX5_sting 6 = .ok (.getfield 12, 3) := by decide +kernel
theorem dX5_sting_9 : decode cX5_sting 9 = .ok (.getfield 145, 3) := by decide +kernel
theorem dX5_sting_12 : decode cX5_sting 12 = .ok (.iload_n 1, 1) := by decide +kernel
theorem dX5_sting_13 : decode cX5_sting 13 = .ok (.iaload, 1) := by decide +kernel
theorem dX5_sting_14 : decode cX5_sting 14 = .ok (.iconst 3, 1) := by decide +kernel
theorem dX5_sting_15 : decode cX5_sting 15 = .ok (.if_icmp .ne 14, 3) := by decide +kernel
theorem dX5_sting_18 : decode cX5_sting 18 = .ok (.aload_n 0, 1) := by decide +kernel
theorem dX5_sting_19 : decode cX5_sting 19 = .ok (.getfield 19, 3) := by decide +kernel
theorem dX5_sting_22 : decode cX5_sting 22 = .ok (.getfield 151, 3) := by decide +kernel
theorem dX5_sting_25 : decode cX5_sting 25 = .ok (.iconst 4, 1) := by decide +kernel
theorem dX5_sting_26 : decode cX5_sting 26 = .ok (.if_icmp .lt 5, 3) := by decide +kernel
theorem dX5_sting_29 : decode cX5_sting 29 = .ok (.iconst (-1), 1) := by decide +kernel
theorem dX5_sting_30 : decode cX5_sting 30 = .ok (.ireturn, 1) := by decide +kernel
theorem dX5_sting_31 : decode cX5_sting 31 = .ok (.aload_n 0, 1) := by decide +kernel
theorem dX5_sting_32 : decode cX5_sting 32 = .ok (.getfield 19, 3) := by decide +kernel
theorem dX5_sting_35 : decode cX5_sting 35 = .ok (.getfield 154, 3) := by decide +kernel
theorem dX5_sting_38 : decode cX5_sting 38 = .ok (.aload_n 0, 1) := by decide +kernel
theorem dX5_sting_39 : decode cX5_sting 39 = .ok (.getfield 19, 3) := by decide +kernel
theorem dX5_sting_42 : decode cX5_sting 42 = .ok (.getfield 151, 3) := by decide +kernel
theorem dX5_sting_45 : decode cX5_sting 45 = .ok (.iload_n 1, 1) := by decide +kernel
theorem dX5_sting_46 : decode cX5_sting 46 = .ok (.iastore, 1) := by decide +kernel
theorem dX5_sting_47 : decode cX5_sting 47 = .ok (.aload_n 0, 1) := by decide +kernel
theorem dX5_sting_48 : decode cX5_sting 48 = .ok (.getfield 19, 3) := by decide +kernel
theorem dX5_sting_51 : decode cX5_sting 51 = .ok (.dup, 1) := by decide +kernel
theorem dX5_sting_52 : decode cX5_sting 52 = .ok (.getfield 151, 3) := by decide +kernel
theorem dX5_sting_55 : decode cX5_sting 55 = .ok (.iconst 1, 1) := by decide +kernel
theorem dX5_sting_56 : decode cX5_sting 56 = .ok (.iadd, 1) := by decide +kernel
theorem dX5_sting_57 : decode cX5_sting 57 = .ok (.putfield 151, 3) := by decide +kernel
theorem dX5_sting_60 : decode cX5_sting 60 = .ok (.aload_n 0, 1) := by decide +kernel
theorem dX5_sting_61 : decode cX5_sting 61 = .ok (.getfield 19, 3) := by decide +kernel
theorem dX5_sting_64 : decode cX5_sting 64 = .ok (.getfield 151, 3) := by decide +kernel
theorem dX5_sting_67 : decode cX5_sting 67 = .ok (.ireturn, 1) := by decide +kernel
theorem dX5_go_0 : decode cX5_go 0 = .ok (.iload_n 1, 1) := by decide +kernel
theorem dX5_go_1 : decode cX5_go 1 = .ok (.ifCond .lt 10, 3) := by decide +kernel
theorem dX5_go_4 : decode cX5_go 4 = .ok (.iload_n 1, 1) := by decide +kernel
theorem dX5_go_5 : decode cX5_go 5 = .ok (.sipush 20000, 3) := by decide +kernel
theorem dX5_go_8 : decode cX5_go 8 = .ok (.if_icmp .le 13, 3) := by decide +kernel
theorem dX5_go_11 : decode cX5_go 11 = .ok (.new 67, 3) := by decide +kernel
theorem dX5_go_14 : decode cX5_go 14 = .ok (.dup, 1) := by decide +kernel
theorem dX5_go_15 : decode cX5_go 15 = .ok (.ldc 157, 2) := by decide +kernel
theorem dX5_go_17 : decode cX5_go 17 = .ok (.invokespecial 71, 3) := by decide +kernel
theorem dX5_go_20 : decode cX5_go 20 = .ok (.athrow, 1) := by decide +kernel
theorem dX5_go_21 : decode cX5_go 21 = .ok (.aload_n 0, 1) := by decide +kernel
theorem dX5_go_22 : decode cX5_go 22 = .ok (.getfield 19, 3) := by decide +kernel
theorem dX5_go_25 : decode cX5_go 25 = .ok (.getfield 159, 3) := by decide +kernel
theorem dX5_go_28 : decode cX5_go 28 = .ok (.iload_n 1, 1) := by decide +kernel
theorem dX5_go_29 : decode cX5_go 29 = .ok (.i2l, 1) := by decide +kernel
theorem dX5_go_30 : decode cX5_go 30 = .ok (.ladd, 1) := by decide +kernel
theorem dX5_go_31 : decode cX5_go 31 = .ok (.lstore_n 2, 1) := by decide +kernel
theorem dX5_go_32 : decode cX5_go 32 = .ok (.iconst 0, 1) := by decide +kernel
theorem dX5_go_33 : decode cX5_go 33 = .ok (.istore 4, 2) := by decide +kernel
theorem dX5_go_35 : decode cX5_go 35 = .ok (.iload 4, 2) := by decide +kernel
theorem dX5_go_37 : decode cX5_go 37 = .ok (.iload_n 1, 1) := by decide +kernel
theorem dX5_go_38 : decode cX5_go 38 = .ok (.if_icmp .gt 87, 3) := by decide +kernel
theorem dX5_go_41 : decode cX5_go 41 = .ok (.aload_n 0, 1) := by decide +kernel
theorem dX5_go_42 : decode cX5_go 42 = .ok (.invokevirtual 163, 3) := by decide +kernel
theorem dX5_go_45 : decode cX5_go 45 = .ok (.lstore 5, 2) := by decide +kernel
theorem dX5_go_47 : decode cX5_go 47 = .ok (.lload 5, 2) := by decide +kernel
theorem dX5_go_49 : decode cX5_go 49 = .ok (.lload_n 2, 1) := by decide +kernel
theorem dX5_go_50 : decode cX5_go 50 = .ok (.lcmp, 1) := by decide +kernel
theorem dX5_go_51 : decode cX5_go 51 = .ok (.ifCond .le 6, 3) := by decide +kernel
theorem dX5_go_54 : decode cX5_go 54 = .ok (.goto 71, 3) := by decide +kernel
theorem dX5_go_57 : decode cX5_go 57 = .ok (.aload_n 0, 1) := by decide +kernel
theorem dX5_go_58 : decode cX5_go 58 = .ok (.getfield 19, 3) := by decide +kernel
theorem dX5_go_61 : decode cX5_go 61 = .ok (.lload 5, 2) := by decide +kernel
theorem dX5_go_63 : decode cX5_go 63 = .ok (.putfield 159, 3) := by decide +kernel
theorem dX5_go_66 : decode cX5_go 66 = .ok (.aload_n 0, 1) := by decide +kernel
theorem dX5_go_67 : decode cX5_go 67 = .ok (.getfield 19, 3) := by decide +kernel
theorem dX5_go_70 : decode cX5_go 70 = .ok (.getfield 166, 3) := by decide +kernel
theorem dX5_go_73 : decode cX5_go 73 = .ok (.iconst (-1), 1) := by decide +kernel
theorem dX5_go_74 : decode cX5_go 74 = .ok (.if_icmp .eq 20, 3) := by decide +kernel
theorem dX5_go_77 : decode cX5_go 77 = .ok (.aload_n 0, 1) := by decide +kernel
theorem dX5_go_78 : decode cX5_go 78 = .ok (.getfield 19, 3) := by decide +kernel
theorem dX5_go_81 : decode cX5_go 81 = .ok (.getfield 169, 3) := by decide +kernel
theorem dX5_go_84 : decode cX5_go 84 = .ok (.lload 5, 2) := by decide +kernel
theorem dX5_go_86 : decode cX5_go 86 = .ok (.lcmp, 1) := by decide +kernel
theorem dX5_go_87 : decode cX5_go 87 = .ok (.ifCond .ne 7, 3) := by decide +kernel
theorem dX5_go_90 : decode cX5_go 90 = .ok (.aload_n 0, 1) := by decide +kernel
theorem dX5_go_91 : decode cX5_go 91 = .ok (.invokevirtual 172, 3) := by decide +kernel
theorem dX5_go_94 : decode cX5_go 94 = .ok (.aload_n 0, 1) := by decide +kernel
theorem dX5_go_95 : decode cX5_go 95 = .ok (.getfield 19, 3) := by decide +kernel
theorem dX5_go_98 : decode cX5_go 98 = .ok (.getfield 175, 3) := by decide +kernel
theorem dX5_go_101 : decode cX5_go 101 = .ok (.iconst (-1), 1) := by decide +kernel
theorem dX5_go_102 : decode cX5_go 102 = .ok (.if_icmp .eq 17, 3) := by decide +kernel
theorem dX5_go_105 : decode cX5_go 105 = .ok (.aload_n 0, 1) := by decide +kernel
theorem dX5_go_106 : decode cX5_go 106 = .ok (.invokevirtual 178, 3) := by decide +kernel
theorem dX5_go_109 : decode cX5_go 109 = .ok (.lload 5, 2) := by decide +kernel
theorem dX5_go_111 : decode cX5_go 111 = .ok (.lcmp, 1) := by decide +kernel
theorem dX5_go_112 : decode cX5_go 112 = .ok (.ifCond .ne 7, 3) := by decide +kernel
theorem dX5_go_115 : decode cX5_go 115 = .ok (.aload_n 0, 1) := by decide +kernel
theorem dX5_go_116 : decode cX5_go 116 = .ok (.invokevirtual 181, 3) := by decide +kernel
theorem dX5_go_119 : decode cX5_go 119 = .ok (.iinc 4 1, 3) := by decide +kernel
theorem dX5_go_122 : decode cX5_go 122 = .ok (.goto (-87), 3) := by decide +kernel
theorem dX5_go_125 : decode cX5_go 125 = .ok (.aload_n 0, 1) := by decide +kernel
theorem dX5_go_126 : decode cX5_go 126 = .ok (.getfield 19, 3) := by decide +kernel
theorem dX5_go_129 : decode cX5_go 129 = .ok (.lload_n 2, 1) := by decide +kernel
theorem dX5_go_130 : decode cX5_go 130 = .ok (.putfield 159, 3) := by decide +kernel
theorem dX5_go_133 : decode cX5_go 133 = .ok (.lload_n 2, 1) := by decide +kernel
theorem dX5_go_134 : decode cX5_go 134 = .ok (.lreturn, 1) := by decide +kernel
theorem dX5_now_0 : decode cX5_now 0 = .ok (.iload_n 1, 1) := by decide +kernel
theorem dX5_now_1 : decode cX5_now 1 = .ok (.tableswitch 163 0 10 #[59, 67, 75, 83, 107, 115, 123, 131, 139, 147, 155], 59) := by decide +kernel
theorem dX5_now_60 : decode cX5_now 60 = .ok (.aload_n 0, 1) := by decide +kernel
theorem dX5_now_61 : decode cX5_now 61 = .ok (.getfield 19, 3) := by decide +kernel
theorem dX5_now_64 : decode cX5_now 64 = .ok (.getfield 175, 3) := by decide +kernel
theorem dX5_now_67 : decode cX5_now 67 = .ok (.ireturn, 1) := by decide +kernel
theorem dX5_now_68 : decode cX5_now 68 = .ok (.aload_n 0, 1) := by decide +kernel
theorem dX5_now_69 : decode cX5_now 69 = .ok (.getfield 19, 3) := by decide +kernel
theorem dX5_now_72 : decode cX5_now 72 = .ok (.getfield 184, 3) := by decide +kernel
theorem dX5_now_75 : decode cX5_now 75 = .ok (.ireturn, 1) := by decide +kernel
theorem dX5_now_76 : decode cX5_now 76 = .ok (.aload_n 0, 1) := by decide +kernel
theorem dX5_now_77 : decode cX5_now 77 = .ok (.getfield 19, 3) := by decide +kernel
theorem dX5_now_80 : decode cX5_now 80 = .ok (.getfield 187, 3) := by decide +kernel
theorem dX5_now_83 : decode cX5_now 83 = .ok (.ireturn, 1) := by decide +kernel
theorem dX5_now_84 : decode cX5_now 84 = .ok (.aload_n 0, 1) := by decide +kernel
theorem dX5_now_85 : decode cX5_now 85 = .ok (.getfield 19, 3) := by decide +kernel
theorem dX5_now_88 : decode cX5_now 88 = .ok (.getfield 175, 3) := by decide +kernel
theorem dX5_now_91 : decode cX5_now 91 = .ok (.iconst (-1), 1) := by decide +kernel
theorem dX5_now_92 : decode cX5_now 92 = .ok (.if_icmp .ne 7, 3) := by decide +kernel
theorem dX5_now_95 : decode cX5_now 95 = .ok (.iconst 0, 1) := by decide +kernel
theorem dX5_now_96 : decode cX5_now 96 = .ok (.goto 11, 3) := by decide +kernel
theorem dX5_now_99 : decode cX5_now 99 = .ok (.aload_n 0, 1) := by decide +kernel
theorem dX5_now_100 : decode cX5_now 100 = .ok (.getfield 19, 3) := by decide +kernel
theorem dX5_now_103 : decode cX5_now 103 = .ok (.invokevirtual 190, 3) := by decide +kernel
theorem dX5_now_106 : decode cX5_now 106 = .ok (.l2i, 1) := by decide +kernel
theorem dX5_now_107 : decode cX5_now 107 = .ok (.ireturn, 1) := by decide +kernel
theorem dX5_now_108 : decode cX5_now 108 = .ok (.aload_n 0, 1) := by decide +kernel
theorem dX5_now_109 : decode cX5_now 109 = .ok (.getfield 19, 3) := by decide +kernel
theorem dX5_now_112 : decode cX5_now 112 = .ok (.getfield 95, 3) := by decide +kernel
theorem dX5_now_115 : decode cX5_now 115 = .ok (.ireturn, 1) := by decide +kernel
theorem dX5_now_116 : decode cX5_now 116 = .ok (.aload_n 0, 1) := by decide +kernel
theorem dX5_now_117 : decode cX5_now 117 = .ok (.getfield 19, 3) := by decide +kernel
theorem dX5_now_120 : decode cX5_now 120 = .ok (.getfield 166, 3) := by decide +kernel
theorem dX5_now_123 : decode cX5_now 123 = .ok (.ireturn, 1) := by decide +kernel
theorem dX5_now_124 : decode cX5_now 124 = .ok (.aload_n 0, 1) := by decide +kernel
theorem dX5_now_125 : decode cX5_now 125 = .ok (.getfield 19, 3) := by decide +kernel
theorem dX5_now_128 : decode cX5_now 128 = .ok (.getfield 151, 3) := by decide +kernel
theorem dX5_now_131 : decode cX5_now 131 = .ok (.ireturn, 1) := by decide +kernel
theorem dX5_now_132 : decode cX5_now 132 = .ok (.aload_n 0, 1) := by decide +kernel
theorem dX5_now_133 : decode cX5_now 133 = .ok (.getfield 19, 3) := by decide +kernel
theorem dX5_now_136 : decode cX5_now 136 = .ok (.invokevirtual 193, 3) := by decide +kernel
theorem dX5_now_139 : decode cX5_now 139 = .ok (.ireturn, 1) := by decide +kernel
theorem dX5_now_140 : decode cX5_now 140 = .ok (.aload_n 0, 1) := by decide +kernel
theorem dX5_now_141 : decode cX5_now 141 = .ok (.getfield 32, 3) := by decide +kernel
theorem dX5_now_144 : decode cX5_now 144 = .ok (.getfield 196, 3) := by decide +kernel
theorem dX5_now_147 : decode cX5_now 147 = .ok (.ireturn, 1) := by decide +kernel
theorem dX5_now_148 : decode cX5_now 148 = .ok (.aload_n 0, 1) := by decide +kernel
theorem dX5_now_149 : decode cX5_now 149 = .ok (.getfield 12, 3) := by decide +kernel
theorem dX5_now_152 : decode cX5_now 152 = .ok (.getfield 199, 3) := by decide +kernel
theorem dX5_now_155 : decode cX5_now 155 = .ok (.ireturn, 1) := by decide +kernel
theorem dX5_now_156 : decode cX5_now 156 = .ok (.aload_n 0, 1) := by decide +kernel
theorem dX5_now_157 : decode cX5_now 157 = .ok (.getfield 12, 3) := by decide +kernel
theorem dX5_now_160 : decode cX5_now 160 = .ok (.getfield 202, 3) := by decide +kernel
theorem dX5_now_163 : decode cX5_now 163 = .ok (.ireturn, 1) := by decide +kernel
theorem dX5_now_164 : decode cX5_now 164 = .ok (.new 113, 3) := by decide +kernel
theorem dX5_now_167 : decode cX5_now 167 = .ok (.dup, 1) := by decide +kernel
theorem dX5_now_168 : decode cX5_now 168 = .ok (.ldc 205, 2) := by decide +kernel
theorem dX5_now_170 : decode cX5_now 170 = .ok (.invokespecial 117, 3) := by decide +kernel
theorem dX5_now_173 : decode cX5_now 173 = .ok (.athrow, 1) := by decide +kernel
theorem dX5_level_0 : decode cX5_level 0 = .ok (.aload_n 0, 1) := by decide +kernel
theorem dX5_level_1 : decode cX5_level 1 = .ok (.iload_n 1, 1) := by decide +kernel
theorem dX5_level_2 : decode cX5_level 2 = .ok (.invokevirtual 59, 3) := by decide +kernel
theorem dX5_level_5 : decode cX5_level 5 = .ok (.aload_n 0, 1) := by decide +kernel
theorem dX5_level_6 : decode cX5_level 6 = .ok (.getfield 19, 3) := by decide +kernel
theorem dX5_level_9 : decode cX5_level 9 = .ok (.getfield 207, 3) := by decide +kernel
theorem dX5_level_12 : decode cX5_level 12 = .ok (.iload_n 1, 1) := by decide +kernel
theorem dX5_level_13 : decode cX5_level 13 = .ok (.iaload, 1) := by decide +kernel
theorem dX5_level_14 : decode cX5_level 14 = .ok (.ireturn, 1) := by decide +kernel
theorem dX5_log_0 : decode cX5_log 0 = .ok (.iload_n 1, 1) := by decide +kernel
theorem dX5_log_1 : decode cX5_log 1 = .ok (.ifCond .lt 23, 3) := by decide +kernel
theorem dX5_log_4 : decode cX5_log 4 = .ok (.iload_n 1, 1) := by decide +kernel
theorem dX5_log_5 : decode cX5_log 5 = .ok (.aload_n 0, 1) := by decide +kernel
theorem dX5_log_6 : decode cX5_log 6 = .ok (.getfield 32, 3) := by decide +kernel
theorem dX5_log_9 : decode cX5_log 9 = .ok (.getfield 196, 3) := by decide +kernel
theorem dX5_log_12 : decode cX5_log 12 = .ok (.if_icmp .ge 12, 3) := by decide +kernel
theorem dX5_log_15 : decode cX5_log 15 = .ok (.iload_n 2, 1) := by decide +kernel
theorem dX5_log_16 : decode cX5_log 16 = .ok (.ifCond .lt 8, 3) := by decide +kernel
theorem dX5_log_19 : decode cX5_log 19 = .ok (.iload_n 2, 1) := by decide +kernel
theorem dX5_log_20 : decode cX5_log 20 = .ok (.iconst 2, 1) := by decide +kernel
theorem dX5_log_21 : decode cX5_log 21 = .ok (.if_icmp .le 13, 3) := by decide +kernel
theorem dX5_log_24 : decode cX5_log 24 = .ok (.new 113, 3) := by decide +kernel
theorem dX5_log_27 : decode cX5_log 27 = .ok (.dup, 1) := by decide +kernel
theorem dX5_log_28 : decode cX5_log 28 = .ok (.ldc 210, 2) := by decide +kernel
theorem dX5_log_30 : decode cX5_log 30 = .ok (.invokespecial 117, 3) := by decide +kernel
theorem dX5_log_33 : decode cX5_log 33 = .ok (.athrow, 1) := by decide +kernel
theorem dX5_log_34 : decode cX5_log 34 = .ok (.aload_n 0, 1) := by decide +kernel
theorem dX5_log_35 : decode cX5_log 35 = .ok (.getfield 32, 3) := by decide +kernel
theorem dX5_log_38 : decode cX5_log 38 = .ok (.iload_n 1, 1) := by decide +kernel
theorem dX5_log_39 : decode cX5_log 39 = .ok (.iload_n 2, 1) := by decide +kernel
theorem dX5_log_40 : decode cX5_log 40 = .ok (.invokevirtual 212, 3) := by decide +kernel
theorem dX5_log_43 : decode cX5_log 43 = .ok (.lreturn, 1) := by decide +kernel
theorem dX5_keep_0 : decode cX5_keep 0 = .ok (.aload_n 0, 1) := by decide +kernel
theorem dX5_keep_1 : decode cX5_keep 1 = .ok (.iload_n 1, 1) := by decide +kernel
theorem dX5_keep_2 : decode cX5_keep 2 = .ok (.invokevirtual 216, 3) := by decide +kernel
theorem dX5_keep_5 : decode cX5_keep 5 = .ok (.astore_n 2, 1) := by decide +kernel
theorem dX5_keep_6 : decode cX5_keep 6 = .ok (.aload_n 2, 1) := by decide +kernel
theorem dX5_keep_7 : decode cX5_keep 7 = .ok (.getfield 220, 3) := by decide +kernel
theorem dX5_keep_10 : decode cX5_keep 10 = .ok (.istore_n 3, 1) := by decide +kernel
theorem dX5_keep_11 : decode cX5_keep 11 = .ok (.aload_n 2, 1) := by decide +kernel
theorem dX5_keep_12 : decode cX5_keep 12 = .ok (.aload_n 0, 1) := by decide +kernel
theorem dX5_keep_13 : decode cX5_keep 13 = .ok (.getfield 19, 3) := by decide +kernel
theorem dX5_keep_16 : decode cX5_keep 16 = .ok (.invokevirtual 224, 3) := by decide +kernel
theorem dX5_keep_19 : decode cX5_keep 19 = .ok (.aload_n 2, 1) := by decide +kernel
theorem dX5_keep_20 : decode cX5_keep 20 = .ok (.iconst 1, 1) := by decide +kernel
theorem dX5_keep_21 : decode cX5_keep 21 = .ok (.putfield 220, 3) := by decide +kernel
theorem dX5_keep_24 : decode cX5_keep 24 = .ok (.iload_n 3, 1) := by decide +kernel
theorem dX5_keep_25 : decode cX5_keep 25 = .ok (.ireturn, 1) := by decide +kernel
theorem dX5_goOn_0 : decode cX5_goOn 0 = .ok (.aload_n 0, 1) := by decide +kernel
theorem dX5_goOn_1 : decode cX5_goOn 1 = .ok (.iload_n 1, 1) := by decide +kernel
theorem dX5_goOn_2 : decode cX5_goOn 2 = .ok (.invokevirtual 216, 3) := by decide +kernel
theorem dX5_goOn_5 : decode cX5_goOn 5 = .ok (.astore_n 2, 1) := by decide +kernel
theorem dX5_goOn_6 : decode cX5_goOn 6 = .ok (.aload_n 2, 1) := by decide +kernel
theorem dX5_goOn_7 : decode cX5_goOn 7 = .ok (.getfield 220, 3) := by decide +kernel
theorem dX5_goOn_10 : decode cX5_goOn 10 = .ok (.ifCond .ne 5, 3) := by decide +kernel
theorem dX5_goOn_13 : decode cX5_goOn 13 = .ok (.iconst 0, 1) := by decide +kernel
theorem dX5_goOn_14 : decode cX5_goOn 14 = .ok (.ireturn, 1) := by decide +kernel
theorem dX5_goOn_15 : decode cX5_goOn 15 = .ok (.aload_n 0, 1) := by decide +kernel
theorem dX5_goOn_16 : decode cX5_goOn 16 = .ok (.getfield 19, 3) := by decide +kernel
theorem dX5_goOn_19 : decode cX5_goOn 19 = .ok (.aload_n 2, 1) := by decide +kernel
theorem dX5_goOn_20 : decode cX5_goOn 20 = .ok (.invokevirtual 224, 3) := by decide +kernel
theorem dX5_goOn_23 : decode cX5_goOn 23 = .ok (.aload_n 0, 1) := by decide +kernel
theorem dX5_goOn_24 : decode cX5_goOn 24 = .ok (.getfield 48, 3) := by decide +kernel
theorem dX5_goOn_27 : decode cX5_goOn 27 = .ok (.invokevirtual 89, 3) := by decide +kernel
theorem dX5_goOn_30 : decode cX5_goOn 30 = .ok (.iconst 1, 1) := by decide +kernel
theorem dX5_goOn_31 : decode cX5_goOn 31 = .ok (.ireturn, 1) := by decide +kernel
theorem dX5_checkPiece_0 : decode cX5_checkPiece 0 = .ok (.aload_n 0, 1) := by decide +kernel
theorem dX5_checkPiece_1 : decode cX5_checkPiece 1 = .ok (.getfield 12, 3) := by decide +kernel
theorem dX5_checkPiece_4 : decode cX5_checkPiece 4 = .ok (.iload_n 1, 1) := by decide +kernel
theorem dX5_checkPiece_5 : decode cX5_checkPiece 5 = .ok (.invokevirtual 227, 3) := by decide +kernel
theorem dX5_checkPiece_8 : decode cX5_checkPiece 8 = .ok (.ifCond .ne 13, 3) := by decide +kernel
theorem dX5_checkPiece_11 : decode cX5_checkPiece 11 = .ok (.new 113, 3) := by decide +kernel
theorem dX5_checkPiece_14 : decode cX5_checkPiece 14 = .ok (.dup, 1) := by decide +kernel
theorem dX5_checkPiece_15 : decode cX5_checkPiece 15 = .ok (.ldc 230, 2) := by decide +kernel
theorem dX5_checkPiece_17 : decode cX5_checkPiece 17 = .ok (.invokespecial 117, 3) := by decide +kernel
theorem dX5_checkPiece_20 : decode cX5_checkPiece 20 = .ok (.athrow, 1) := by decide +kernel
theorem dX5_checkPiece_21 : decode cX5_checkPiece 21 = .ok (.return_, 1) := by decide +kernel
theorem dX5_checkPlayable_0 : decode cX5_checkPlayable 0 = .ok (.aload_n 0, 1) := by decide +kernel
theorem dX5_checkPlayable_1 : decode cX5_checkPlayable 1 = .ok (.getfield 12, 3) := by decide +kernel
theorem dX5_checkPlayable_4 : decode cX5_checkPlayable 4 = .ok (.iload_n 1, 1) := by decide +kernel
theorem dX5_checkPlayable_5 : decode cX5_checkPlayable 5 = .ok (.invokevirtual 78, 3) := by decide +kernel
theorem dX5_checkPlayable_8 : decode cX5_checkPlayable 8 = .ok (.ifCond .ne 13, 3) := by decide +kernel
theorem dX5_checkPlayable_11 : decode cX5_checkPlayable 11 = .ok (.new 113, 3) := by decide +kernel
theorem dX5_checkPlayable_14 : decode cX5_checkPlayable 14 = .ok (.dup, 1) := by decide +kernel
theorem dX5_checkPlayable_15 : decode cX5_checkPlayable 15 = .ok (.ldc 232, 2) := by decide +kernel
theorem dX5_checkPlayable_17 : decode cX5_checkPlayable 17 = .ok (.invokespecial 117, 3) := by decide +kernel
theorem dX5_checkPlayable_20 : decode cX5_checkPlayable 20 = .ok (.athrow, 1) := by decide +kernel
theorem dX5_checkPlayable_21 : decode cX5_checkPlayable 21 = .ok (.return_, 1) := by decide +kernel
theorem dX5_checkMood_0 : decode cX5_checkMood 0 = .ok (.iload_n 1, 1) := by decide +kernel
theorem dX5_checkMood_1 : decode cX5_checkMood 1 = .ok (.ifCond .lt 9, 3) := by decide +kernel
theorem dX5_checkMood_4 : decode cX5_checkMood 4 = .ok (.iload_n 1, 1) := by decide +kernel
theorem dX5_checkMood_5 : decode cX5_checkMood 5 = .ok (.bipush 8, 2) := by decide +kernel
theorem dX5_checkMood_7 : decode cX5_checkMood 7 = .ok (.if_icmp .lt 13, 3) := by decide +kernel
theorem dX5_checkMood_10 : decode cX5_checkMood 10 = .ok (.new 67, 3) := by decide +kernel
theorem dX5_checkMood_13 : decode cX5_checkMood 13 = .ok (.dup, 1) := by decide +kernel
theorem dX5_checkMood_14 : decode cX5_checkMood 14 = .ok (.ldc 234, 2) := by decide +kernel
theorem dX5_checkMood_16 : decode cX5_checkMood 16 = .ok (.invokespecial 71, 3) := by decide +kernel
theorem dX5_checkMood_19 : decode cX5_checkMood 19 = .ok (.athrow, 1) := by decide +kernel
theorem dX5_checkMood_20 : decode cX5_checkMood 20 = .ok (.return_, 1) := by decide +kernel
theorem dX5_slotAt_0 : decode cX5_slotAt 0 = .ok (.iload_n 1, 1) := by decide +kernel
theorem dX5_slotAt_1 : decode cX5_slotAt 1 = .ok (.ifCond .lt 17, 3) := by decide +kernel
theorem dX5_slotAt_4 : decode cX5_slotAt 4 = .ok (.iload_n 1, 1) := by decide +kernel
theorem dX5_slotAt_5 : decode cX5_slotAt 5 = .ok (.iconst 4, 1) := by decide +kernel
theorem dX5_slotAt_6 : decode cX5_slotAt 6 = .ok (.if_icmp .ge 12, 3) := by decide +kernel
theorem dX5_slotAt_9 : decode cX5_slotAt 9 = .ok (.aload_n 0, 1) := by decide +kernel
theorem dX5_slotAt_10 : decode cX5_slotAt 10 = .ok (.getfield 23, 3) := by decide +kernel
theorem dX5_slotAt_13 : decode cX5_slotAt 13 = .ok (.iload_n 1, 1) := by decide +kernel
theorem dX5_slotAt_14 : decode cX5_slotAt 14 = .ok (.aaload, 1) := by decide +kernel
theorem dX5_slotAt_15 : decode cX5_slotAt 15 = .ok (.ifnonnull 13, 3) := by decide +kernel
theorem dX5_slotAt_18 : decode cX5_slotAt 18 = .ok (.new 67, 3) := by decide +kernel
theorem dX5_slotAt_21 : decode cX5_slotAt 21 = .ok (.dup, 1) := by decide +kernel
theorem dX5_slotAt_22 : decode cX5_slotAt 22 = .ok (.ldc 236, 2) := by decide +kernel
theorem dX5_slotAt_24 : decode cX5_slotAt 24 = .ok (.invokespecial 71, 3) := by decide +kernel
theorem dX5_slotAt_27 : decode cX5_slotAt 27 = .ok (.athrow, 1) := by decide +kernel
theorem dX5_slotAt_28 : decode cX5_slotAt 28 = .ok (.aload_n 0, 1) := by decide +kernel
theorem dX5_slotAt_29 : decode cX5_slotAt 29 = .ok (.getfield 23, 3) := by decide +kernel
theorem dX5_slotAt_32 : decode cX5_slotAt 32 = .ok (.iload_n 1, 1) := by decide +kernel
theorem dX5_slotAt_33 : decode cX5_slotAt 33 = .ok (.aaload, 1) := by decide +kernel
theorem dX5_slotAt_34 : decode cX5_slotAt 34 = .ok (.areturn, 1) := by decide +kernel
theorem dX5_stepsLeft_0 : decode cX5_stepsLeft 0 = .ok (.aload_n 0, 1) := by decide +kernel
theorem dX5_stepsLeft_1 : decode cX5_stepsLeft 1 = .ok (.getfield 48, 3) := by decide +kernel
theorem dX5_stepsLeft_4 : decode cX5_stepsLeft 4 = .ok (.invokevirtual 110, 3) := by decide +kernel
theorem dX5_stepsLeft_7 : decode cX5_stepsLeft 7 = .ok (.istore_n 1, 1) := by decide +kernel
theorem dX5_stepsLeft_8 : decode cX5_stepsLeft 8 = .ok (.iload_n 1, 1) := by decide +kernel
theorem dX5_stepsLeft_9 : decode cX5_stepsLeft 9 = .ok (.ifCond .ne 7, 3) := by decide +kernel
theorem dX5_stepsLeft_12 : decode cX5_stepsLeft 12 = .ok (.iconst (-1), 1) := by decide +kernel
theorem dX5_stepsLeft_13 : decode cX5_stepsLeft 13 = .ok (.goto 4, 3) := by decide +kernel
theorem dX5_stepsLeft_16 : decode cX5_stepsLeft 16 = .ok (.iload_n 1, 1) := by decide +kernel
theorem dX5_stepsLeft_17 : decode cX5_stepsLeft 17 = .ok (.ireturn, 1) := by decide +kernel
theorem dX5_beatEnd_0 : decode cX5_beatEnd 0 = .ok (.aload_n 0, 1) := by decide +kernel
theorem dX5_beatEnd_1 : decode cX5_beatEnd 1 = .ok (.getfield 19, 3) := by decide +kernel
theorem dX5_beatEnd_4 : decode cX5_beatEnd 4 = .ok (.getfield 238, 3) := by decide +kernel
theorem dX5_beatEnd_7 : decode cX5_beatEnd 7 = .ok (.aload_n 0, 1) := by decide +kernel
theorem dX5_beatEnd_8 : decode cX5_beatEnd 8 = .ok (.getfield 12, 3) := by decide +kernel
theorem dX5_beatEnd_11 : decode cX5_beatEnd 11 = .ok (.getfield 241, 3) := by decide +kernel
theorem dX5_beatEnd_14 : decode cX5_beatEnd 14 = .ok (.aload_n 0, 1) := by decide +kernel
theorem dX5_beatEnd_15 : decode cX5_beatEnd 15 = .ok (.getfield 19, 3) := by decide +kernel
theorem dX5_beatEnd_18 : decode cX5_beatEnd 18 = .ok (.getfield 175, 3) := by decide +kernel
theorem dX5_beatEnd_21 : decode cX5_beatEnd 21 = .ok (.iaload, 1) := by decide +kernel
theorem dX5_beatEnd_22 : decode cX5_beatEnd 22 = .ok (.i2l, 1) := by decide +kernel
theorem dX5_beatEnd_23 : decode cX5_beatEnd 23 = .ok (.ladd, 1) := by decide +kernel
theorem dX5_beatEnd_24 : decode cX5_beatEnd 24 = .ok (.lreturn, 1) := by decide +kernel
theorem dX5_nextMoment_0 : decode cX5_nextMoment 0 = .ok (.ldc2_w 246, 3) := by decide +kernel
theorem dX5_nextMoment_3 : decode cX5_nextMoment 3 = .ok (.lstore_n 1, 1) := by decide +kernel
theorem dX5_nextMoment_4 : decode cX5_nextMoment 4 = .ok (.aload_n 0, 1) := by decide +kernel
theorem dX5_nextMoment_5 : decode cX5_nextMoment 5 = .ok (.getfield 19, 3) := by decide +kernel
theorem dX5_nextMoment_8 : decode cX5_nextMoment 8 = .ok (.getfield 175, 3) := by decide +kernel
theorem dX5_nextMoment_11 : decode cX5_nextMoment 11 = .ok (.iconst (-1), 1) := by decide +kernel
theorem dX5_nextMoment_12 : decode cX5_nextMoment 12 = .ok (.if_icmp .eq 8, 3) := by decide +kernel
theorem dX5_nextMoment_15 : decode cX5_nextMoment 15 = .ok (.aload_n 0, 1) := by decide +kernel
theorem dX5_nextMoment_16 : decode cX5_nextMoment 16 = .ok (.invokevirtual 178, 3) := by decide +kernel
theorem dX5_nextMoment_19 : decode cX5_nextMoment 19 = .ok (.lstore_n 1, 1) := by decide +kernel
theorem dX5_nextMoment_20 : decode cX5_nextMoment 20 = .ok (.aload_n 0, 1) := by decide +kernel
theorem dX5_nextMoment_21 : decode cX5_nextMoment 21 = .ok (.getfield 19, 3) := by decide +kernel
theorem dX5_nextMoment_24 : decode cX5_nextMoment 24 = .ok (.getfield 166, 3) := by decide +kernel
theorem dX5_nextMoment_27 : decode cX5_nextMoment 27 = .ok (.iconst (-1), 1) := by decide +kernel
theorem dX5_nextMoment_28 : decode cX5_nextMoment 28 = .ok (.if_icmp .eq 15, 3) := by decide +kernel
theorem dX5_nextMoment_31 : decode cX5_nextMoment 31 = .ok (.lload_n 1, 1) := by decide +kernel
theorem dX5_nextMoment_32 : decode cX5_nextMoment 32 = .ok (.aload_n 0, 1) := by decide +kernel
theorem dX5_nextMoment_33 : decode cX5_nextMoment 33 = .ok (.getfield 19, 3) := by decide +kernel
theorem dX5_nextMoment_36 : decode cX5_nextMoment 36 = .ok (.getfield 169, 3) := by decide +kernel
theorem dX5_nextMoment_39 : decode cX5_nextMoment 39 = .ok (.invokestatic 248, 3) := by decide +kernel
theorem dX5_nextMoment_42 : decode cX5_nextMoment 42 = .ok (.lstore_n 1, 1) := by decide +kernel
theorem dX5_nextMoment_43 : decode cX5_nextMoment 43 = .ok (.lload_n 1, 1) := by decide +kernel
theorem dX5_nextMoment_44 : decode cX5_nextMoment 44 = .ok (.lreturn, 1) := by decide +kernel
theorem dX5_endBeat_0 : decode cX5_endBeat 0 = .ok (.aload_n 0, 1) := by decide +kernel
theorem dX5_endBeat_1 : decode cX5_endBeat 1 = .ok (.getfield 19, 3) := by decide +kernel
theorem dX5_endBeat_4 : decode cX5_endBeat 4 = .ok (.dup, 1) := by decide +kernel
theorem dX5_endBeat_5 : decode cX5_endBeat 5 = .ok (.getfield 184, 3) := by decide +kernel
theorem dX5_endBeat_8 : decode cX5_endBeat 8 = .ok (.iconst 1, 1) := by decide +kernel
theorem dX5_endBeat_9 : decode cX5_endBeat 9 = .ok (.iadd, 1) := by decide +kernel
theorem dX5_endBeat_10 : decode cX5_endBeat 10 = .ok (.putfield 184, 3) := by decide +kernel
theorem dX5_endBeat_13 : decode cX5_endBeat 13 = .ok (.aload_n 0, 1) := by decide +kernel
theorem dX5_endBeat_14 : decode cX5_endBeat 14 = .ok (.getfield 19, 3) := by decide +kernel
theorem dX5_endBeat_17 : decode cX5_endBeat 17 = .ok (.aload_n 0, 1) := by decide +kernel
theorem dX5_endBeat_18 : decode cX5_endBeat 18 = .ok (.getfield 19, 3) := by decide +kernel
theorem dX5_endBeat_21 : decode cX5_endBeat 21 = .ok (.getfield 159, 3) := by decide +kernel
theorem dX5_endBeat_24 : decode cX5_endBeat 24 = .ok (.putfield 238, 3) := by decide +kernel
theorem dX5_endBeat_27 : decode cX5_endBeat 27 = .ok (.aload_n 0, 1) := by decide +kernel
theorem dX5_endBeat_28 : decode cX5_endBeat 28 = .ok (.getfield 19, 3) := by decide +kernel
theorem dX5_endBeat_31 : decode cX5_endBeat 31 = .ok (.getfield 184, 3) := by decide +kernel
theorem dX5_endBeat_34 : decode cX5_endBeat 34 = .ok (.aload_n 0, 1) := by decide +kernel
theorem dX5_endBeat_35 : decode cX5_endBeat 35 = .ok (.getfield 12, 3) := by decide +kernel
theorem dX5_endBeat_38 : decode cX5_endBeat 38 = .ok (.getfield 254, 3) := by decide +kernel
theorem dX5_endBeat_41 : decode cX5_endBeat 41 = .ok (.aload_n 0, 1) := by decide +kernel
theorem dX5_endBeat_42 : decode cX5_endBeat 42 = .ok (.getfield 19, 3) := by decide +kernel
theorem dX5_endBeat_45 : decode cX5_endBeat 45 = .ok (.getfield 175, 3) := by decide +kernel
theorem dX5_endBeat_48 : decode cX5_endBeat 48 = .ok (.iaload, 1) := by decide +kernel
theorem dX5_endBeat_49 : decode cX5_endBeat 49 = .ok (.if_icmp .lt 7, 3) := by decide +kernel
theorem dX5_endBeat_52 : decode cX5_endBeat 52 = .ok (.iconst 1, 1) := by decide +kernel
theorem dX5_endBeat_53 : decode cX5_endBeat 53 = .ok (.goto 4, 3) := by decide +kernel
theorem dX5_endBeat_56 : decode cX5_endBeat 56 = .ok (.iconst 0, 1) := by decide +kernel
theorem dX5_endBeat_57 : decode cX5_endBeat 57 = .ok (.istore_n 1, 1) := by decide +kernel
theorem dX5_endBeat_58 : decode cX5_endBeat 58 = .ok (.aload_n 0, 1) := by decide +kernel
theorem dX5_endBeat_59 : decode cX5_endBeat 59 = .ok (.getfield 48, 3) := by decide +kernel
theorem dX5_endBeat_62 : decode cX5_endBeat 62 = .ok (.iconst 0, 1) := by decide +kernel
theorem dX5_endBeat_63 : decode cX5_endBeat 63 = .ok (.invokevirtual 118, 3) := by decide +kernel
theorem dX5_endBeat_66 : decode cX5_endBeat 66 = .ok (.istore_n 2, 1) := by decide +kernel
theorem dX5_endBeat_67 : decode cX5_endBeat 67 = .ok (.aload_n 0, 1) := by decide +kernel
theorem dX5_endBeat_68 : decode cX5_endBeat 68 = .ok (.iload_n 2, 1) := by decide +kernel
theorem dX5_endBeat_69 : decode cX5_endBeat 69 = .ok (.iload_n 1, 1) := by decide +kernel
theorem dX5_endBeat_70 : decode cX5_endBeat 70 = .ok (.invokevirtual 257, 3) := by decide +kernel
theorem dX5_endBeat_73 : decode cX5_endBeat 73 = .ok (.ifCond .eq 19, 3) := by decide +kernel
theorem dX5_endBeat_76 : decode cX5_endBeat 76 = .ok (.aload_n 0, 1) := by decide +kernel
theorem dX5_endBeat_77 : decode cX5_endBeat 77 = .ok (.getfield 48, 3) := by decide +kernel
theorem dX5_endBeat_80 : decode cX5_endBeat 80 = .ok (.invokevirtual 261, 3) := by decide +kernel
theorem dX5_endBeat_83 : decode cX5_endBeat 83 = .ok (.aload_n 0, 1) := by decide +kernel
theorem dX5_endBeat_84 : decode cX5_endBeat 84 = .ok (.iload_n 2, 1) := by decide +kernel
theorem dX5_endBeat_85 : decode cX5_endBeat 85 = .ok (.iconst 1, 1) := by decide +kernel
theorem dX5_endBeat_86 : decode cX5_endBeat 86 = .ok (.invokevirtual 264, 3) := by decide +kernel
theorem dX5_endBeat_89 : decode cX5_endBeat 89 = .ok (.goto 11, 3) := by decide +kernel
theorem dX5_endBeat_92 : decode cX5_endBeat 92 = .ok (.iload_n 1, 1) := by decide +kernel
theorem dX5_endBeat_93 : decode cX5_endBeat 93 = .ok (.ifCond .eq 7, 3) := by decide +kernel
theorem dX5_endBeat_96 : decode cX5_endBeat 96 = .ok (.aload_n 0, 1) := by decide +kernel
theorem dX5_endBeat_97 : decode cX5_endBeat 97 = .ok (.invokevirtual 267, 3) := by decide +kernel
theorem dX5_endBeat_100 : decode cX5_endBeat 100 = .ok (.aload_n 0, 1) := by decide +kernel
theorem dX5_endBeat_101 : decode cX5_endBeat 101 = .ok (.invokevirtual 270, 3) := by decide +kernel
theorem dX5_endBeat_104 : decode cX5_endBeat 104 = .ok (.aload_n 0, 1) := by decide +kernel
theorem dX5_endBeat_105 : decode cX5_endBeat 105 = .ok (.invokevirtual 273, 3) := by decide +kernel
theorem dX5_endBeat_108 : decode cX5_endBeat 108 = .ok (.return_, 1) := by decide +kernel
theorem dX5_isDue_0 : decode cX5_isDue 0 = .ok (.iload_n 1, 1) := by decide +kernel
theorem dX5_isDue_1 : decode cX5_isDue 1 = .ok (.iconst (-1), 1) := by decide +kernel
theorem dX5_isDue_2 : decode cX5_isDue 2 = .ok (.if_icmp .eq 9, 3) := by decide +kernel
theorem dX5_isDue_5 : decode cX5_isDue 5 = .ok (.iload_n 1, 1) := by decide +kernel
theorem dX5_isDue_6 : decode cX5_isDue 6 = .ok (.bipush 100, 2) := by decide +kernel
theorem dX5_isDue_8 : decode cX5_isDue 8 = .ok (.if_icmp .ne 19, 3) := by decide +kernel
theorem dX5_isDue_11 : decode cX5_isDue 11 = .ok (.iload_n 1, 1) := by decide +kernel
theorem dX5_isDue_12 : decode cX5_isDue 12 = .ok (.bipush 100, 2) := by decide +kernel
theorem dX5_isDue_14 : decode cX5_isDue 14 = .ok (.if_icmp .ne 11, 3) := by decide +kernel
theorem dX5_isDue_17 : decode cX5_isDue 17 = .ok (.iload_n 2, 1) := by decide +kernel
theorem dX5_isDue_18 : decode cX5_isDue 18 = .ok (.ifCond .eq 7, 3) := by decide +kernel
theorem dX5_isDue_21 : decode cX5_isDue 21 = .ok (.iconst 1, 1) := by decide +kernel
theorem dX5_isDue_22 : decode cX5_isDue 22 = .ok (.goto 4, 3) := by decide +kernel
theorem dX5_isDue_25 : decode cX5_isDue 25 = .ok (.iconst 0, 1) := by decide +kernel
theorem dX5_isDue_26 : decode cX5_isDue 26 = .ok (.ireturn, 1) := by decide +kernel
theorem dX5_isDue_27 : decode cX5_isDue 27 = .ok (.aload_n 0, 1) := by decide +kernel
theorem dX5_isDue_28 : decode cX5_isDue 28 = .ok (.getfield 12, 3) := by decide +kernel
theorem dX5_isDue_31 : decode cX5_isDue 31 = .ok (.getfield 276, 3) := by decide +kernel
theorem dX5_isDue_34 : decode cX5_isDue 34 = .ok (.iload_n 1, 1) := by decide +kernel
theorem dX5_isDue_35 : decode cX5_isDue 35 = .ok (.iaload, 1) := by decide +kernel
theorem dX5_isDue_36 : decode cX5_isDue 36 = .ok (.aload_n 0, 1) := by decide +kernel
theorem dX5_isDue_37 : decode cX5_isDue 37 = .ok (.getfield 19, 3) := by decide +kernel
theorem dX5_isDue_40 : decode cX5_isDue 40 = .ok (.getfield 184, 3) := by decide +kernel
theorem dX5_isDue_43 : decode cX5_isDue 43 = .ok (.if_icmp .ne 7, 3) := by decide +kernel
theorem dX5_isDue_46 : decode cX5_isDue 46 = .ok (.iconst 1, 1) := by decide +kernel
theorem dX5_isDue_47 : decode cX5_isDue 47 = .ok (.goto 4, 3) := by decide +kernel
theorem dX5_isDue_50 : decode cX5_isDue 50 = .ok (.iconst 0, 1) := by decide +kernel
theorem dX5_isDue_51 : decode cX5_isDue 51 = .ok (.ireturn, 1) := by decide +kernel
theorem dX5_endPiece_0 : decode cX5_endPiece 0 = .ok (.aload_n 0, 1) := by decide +kernel
theorem dX5_endPiece_1 : decode cX5_endPiece 1 = .ok (.invokevirtual 279, 3) := by decide +kernel
theorem dX5_endPiece_4 : decode cX5_endPiece 4 = .ok (.istore_n 1, 1) := by decide +kernel
theorem dX5_endPiece_5 : decode cX5_endPiece 5 = .ok (.iload_n 1, 1) := by decide +kernel
theorem dX5_endPiece_6 : decode cX5_endPiece 6 = .ok (.iconst (-1), 1) := by decide +kernel
theorem dX5_endPiece_7 : decode cX5_endPiece 7 = .ok (.if_icmp .ne 10, 3) := by decide +kernel
theorem dX5_endPiece_10 : decode cX5_endPiece 10 = .ok (.aload_n 0, 1) := by decide +kernel
theorem dX5_endPiece_11 : decode cX5_endPiece 11 = .ok (.invokevirtual 282, 3) := by decide +kernel
theorem dX5_endPiece_14 : decode cX5_endPiece 14 = .ok (.goto 9, 3) := by decide +kernel
theorem dX5_endPiece_17 : decode cX5_endPiece 17 = .ok (.aload_n 0, 1) := by decide +kernel
theorem dX5_endPiece_18 : decode cX5_endPiece 18 = .ok (.iload_n 1, 1) := by decide +kernel
theorem dX5_endPiece_19 : decode cX5_endPiece 19 = .ok (.iconst 2, 1) := by decide +kernel
theorem dX5_endPiece_20 : decode cX5_endPiece 20 = .ok (.invokevirtual 264, 3) := by decide +kernel
theorem dX5_endPiece_23 : decode cX5_endPiece 23 = .ok (.aload_n 0, 1) := by decide +kernel
theorem dX5_endPiece_24 : decode cX5_endPiece 24 = .ok (.getfield 48, 3) := by decide +kernel
theorem dX5_endPiece_27 : decode cX5_endPiece 27 = .ok (.invokevirtual 89, 3) := by decide +kernel
theorem dX5_endPiece_30 : decode cX5_endPiece 30 = .ok (.return_, 1) := by decide +kernel
theorem dX5_stepAtEnd_0 : decode cX5_stepAtEnd 0 = .ok (.aload_n 0, 1) := by decide +kernel
theorem dX5_stepAtEnd_1 : decode cX5_stepAtEnd 1 = .ok (.getfield 19, 3) := by decide +kernel
theorem dX5_stepAtEnd_4 : decode cX5_stepAtEnd 4 = .ok (.getfield 175, 3) := by decide +kernel
theorem dX5_stepAtEnd_7 : decode cX5_stepAtEnd 7 = .ok (.istore_n 1, 1) := by decide +kernel
theorem dX5_stepAtEnd_8 : decode cX5_stepAtEnd 8 = .ok (.aload_n 0, 1) := by decide +kernel
theorem dX5_stepAtEnd_9 : decode cX5_stepAtEnd 9 = .ok (.getfield 12, 3) := by decide +kernel
theorem dX5_stepAtEnd_12 : decode cX5_stepAtEnd 12 = .ok (.iload_n 1, 1) := by decide +kernel
theorem dX5_stepAtEnd_13 : decode cX5_stepAtEnd 13 = .ok (.invokevirtual 285, 3) := by decide +kernel
theorem dX5_stepAtEnd_16 : decode cX5_stepAtEnd 16 = .ok (.istore_n 2, 1) := by decide +kernel
theorem dX5_stepAtEnd_17 : decode cX5_stepAtEnd 17 = .ok (.aload_n 0, 1) := by decide +kernel
theorem dX5_stepAtEnd_18 : decode cX5_stepAtEnd 18 = .ok (.getfield 19, 3) := by decide +kernel
theorem dX5_stepAtEnd_21 : decode cX5_stepAtEnd 21 = .ok (.getfield 187, 3) := by decide +kernel
theorem dX5_stepAtEnd_24 : decode cX5_stepAtEnd 24 = .ok (.aload_n 0, 1) := by decide +kernel
theorem dX5_stepAtEnd_25 : decode cX5_stepAtEnd 25 = .ok (.getfield 12, 3) := by decide +kernel
theorem dX5_stepAtEnd_28 : decode cX5_stepAtEnd 28 = .ok (.getfield 288, 3) := by decide +kernel
theorem dX5_stepAtEnd_31 : decode cX5_stepAtEnd 31 = .ok (.iload_n 1, 1) := by decide +kernel
theorem dX5_stepAtEnd_32 : decode cX5_stepAtEnd 32 = .ok (.iaload, 1) := by decide +kernel
theorem dX5_stepAtEnd_33 : decode cX5_stepAtEnd 33 = .ok (.if_icmp .lt 8, 3) := by decide +kernel
theorem dX5_stepAtEnd_36 : decode cX5_stepAtEnd 36 = .ok (.iload_n 2, 1) := by decide +kernel
theorem dX5_stepAtEnd_37 : decode cX5_stepAtEnd 37 = .ok (.iconst (-1), 1) := by decide +kernel
theorem dX5_stepAtEnd_38 : decode cX5_stepAtEnd 38 = .ok (.if_icmp .ne 7, 3) := by decide +kernel
theorem dX5_stepAtEnd_41 : decode cX5_stepAtEnd 41 = .ok (.iconst 1, 1) := by decide +kernel
theorem dX5_stepAtEnd_42 : decode cX5_stepAtEnd 42 = .ok (.goto 4, 3) := by decide +kernel
theorem dX5_stepAtEnd_45 : decode cX5_stepAtEnd 45 = .ok (.iconst 0, 1) := by decide +kernel
theorem dX5_stepAtEnd_46 : decode cX5_stepAtEnd 46 = .ok (.istore_n 3, 1) := by decide +kernel
theorem dX5_stepAtEnd_47 : decode cX5_stepAtEnd 47 = .ok (.aload_n 0, 1) := by decide +kernel
theorem dX5_stepAtEnd_48 : decode cX5_stepAtEnd 48 = .ok (.getfield 12, 3) := by decide +kernel
theorem dX5_stepAtEnd_51 : decode cX5_stepAtEnd 51 = .ok (.getfield 145, 3) := by decide +kernel
theorem dX5_stepAtEnd_54 : decode cX5_stepAtEnd 54 = .ok (.iload_n 1, 1) := by decide +kernel
theorem dX5_stepAtEnd_55 : decode cX5_stepAtEnd 55 = .ok (.iaload, 1) := by decide +kernel
theorem dX5_stepAtEnd_56 : decode cX5_stepAtEnd 56 = .ok (.ifCond .ne 12, 3) := by decide +kernel
theorem dX5_stepAtEnd_59 : decode cX5_stepAtEnd 59 = .ok (.iload_n 3, 1) := by decide +kernel
theorem dX5_stepAtEnd_60 : decode cX5_stepAtEnd 60 = .ok (.ifCond .eq 8, 3) := by decide +kernel
theorem dX5_stepAtEnd_63 : decode cX5_stepAtEnd 63 = .ok (.bipush 100, 2) := by decide +kernel
theorem dX5_stepAtEnd_65 : decode cX5_stepAtEnd 65 = .ok (.goto 4, 3) := by decide +kernel
theorem dX5_stepAtEnd_68 : decode cX5_stepAtEnd 68 = .ok (.iload_n 2, 1) := by decide +kernel
theorem dX5_stepAtEnd_69 : decode cX5_stepAtEnd 69 = .ok (.ireturn, 1) := by decide +kernel
theorem dX5_takeStep_0 : decode cX5_takeStep 0 = .ok (.aload_n 0, 1) := by decide +kernel
theorem dX5_takeStep_1 : decode cX5_takeStep 1 = .ok (.getfield 19, 3) := by decide +kernel
theorem dX5_takeStep_4 : decode cX5_takeStep 4 = .ok (.getfield 175, 3) := by decide +kernel
theorem dX5_takeStep_7 : decode cX5_takeStep 7 = .ok (.istore_n 3, 1) := by decide +kernel
theorem dX5_takeStep_8 : decode cX5_takeStep 8 = .ok (.iload_n 3, 1) := by decide +kernel
theorem dX5_takeStep_9 : decode cX5_takeStep 9 = .ok (.istore 4, 2) := by decide +kernel
theorem dX5_takeStep_11 : decode cX5_takeStep 11 = .ok (.iload_n 1, 1) := by decide +kernel
theorem dX5_takeStep_12 : decode cX5_takeStep 12 = .ok (.bipush 100, 2) := by decide +kernel
theorem dX5_takeStep_14 : decode cX5_takeStep 14 = .ok (.if_icmp .ne 15, 3) := by decide +kernel
theorem dX5_takeStep_17 : decode cX5_takeStep 17 = .ok (.aload_n 0, 1) := by decide +kernel
theorem dX5_takeStep_18 : decode cX5_takeStep 18 = .ok (.getfield 32, 3) := by decide +kernel
theorem dX5_takeStep_21 : decode cX5_takeStep 21 = .ok (.iconst 3, 1) := by decide +kernel
theorem dX5_takeStep_22 : decode cX5_takeStep 22 = .ok (.iload_n 3, 1) := by decide +kernel
theorem dX5_takeStep_23 : decode cX5_takeStep 23 = .ok (.invokevirtual 82, 3) := by decide +kernel
theorem dX5_takeStep_26 : decode cX5_takeStep 26 = .ok (.goto 23, 3) := by decide +kernel
theorem dX5_takeStep_29 : decode cX5_takeStep 29 = .ok (.aload_n 0, 1) := by decide +kernel
theorem dX5_takeStep_30 : decode cX5_takeStep 30 = .ok (.getfield 32, 3) := by decide +kernel
theorem dX5_takeStep_33 : decode cX5_takeStep 33 = .ok (.iload_n 2, 1) := by decide +kernel
theorem dX5_takeStep_34 : decode cX5_takeStep 34 = .ok (.iload_n 1, 1) := by decide +kernel
theorem dX5_takeStep_35 : decode cX5_takeStep 35 = .ok (.invokevirtual 82, 3) := by decide +kernel
theorem dX5_takeStep_38 : decode cX5_takeStep 38 = .ok (.aload_n 0, 1) := by decide +kernel
theorem dX5_takeStep_39 : decode cX5_takeStep 39 = .ok (.getfield 12, 3) := by decide +kernel
theorem dX5_takeStep_42 : decode cX5_takeStep 42 = .ok (.getfield 291, 3) := by decide +kernel
theorem dX5_takeStep_45 : decode cX5_takeStep 45 = .ok (.iload_n 1, 1) := by decide +kernel
theorem dX5_takeStep_46 : decode cX5_takeStep 46 = .ok (.iaload, 1) := by decide +kernel
theorem dX5_takeStep_47 : decode cX5_takeStep 47 = .ok (.istore 4, 2) := by decide +kernel
theorem dX5_takeStep_49 : decode cX5_takeStep 49 = .ok (.aload_n 0, 1) := by decide +kernel
theorem dX5_takeStep_50 : decode cX5_takeStep 50 = .ok (.iload 4, 2) := by decide +kernel
theorem dX5_takeStep_52 : decode cX5_takeStep 52 = .ok (.iload 4, 2) := by decide +kernel
theorem dX5_takeStep_54 : decode cX5_takeStep 54 = .ok (.iload_n 3, 1) := by decide +kernel
theorem dX5_takeStep_55 : decode cX5_takeStep 55 = .ok (.if_icmp .ne 15, 3) := by decide +kernel
theorem dX5_takeStep_58 : decode cX5_takeStep 58 = .ok (.aload_n 0, 1) := by decide +kernel
theorem dX5_takeStep_59 : decode cX5_takeStep 59 = .ok (.getfield 19, 3) := by decide +kernel
theorem dX5_takeStep_62 : decode cX5_takeStep 62 = .ok (.getfield 187, 3) := by decide +kernel
theorem dX5_takeStep_65 : decode cX5_takeStep 65 = .ok (.iconst 1, 1) := by decide +kernel
theorem dX5_takeStep_66 : decode cX5_takeStep 66 = .ok (.iadd, 1) := by decide +kernel
theorem dX5_takeStep_67 : decode cX5_takeStep 67 = .ok (.goto 4, 3) := by decide +kernel
theorem dX5_takeStep_70 : decode cX5_takeStep 70 = .ok (.iconst 1, 1) := by decide +kernel
theorem dX5_takeStep_71 : decode cX5_takeStep 71 = .ok (.invokevirtual 86, 3) := by decide +kernel
theorem dX5_takeStep_74 : decode cX5_takeStep 74 = .ok (.return_, 1) := by decide +kernel
theorem dX5_begin_0 : decode cX5_begin 0 = .ok (.aload_n 0, 1) := by decide +kernel
theorem dX5_begin_1 : decode cX5_begin 1 = .ok (.getfield 19, 3) := by decide +kernel
theorem dX5_begin_4 : decode cX5_begin 4 = .ok (.iload_n 1, 1) := by decide +kernel
theorem dX5_begin_5 : decode cX5_begin 5 = .ok (.putfield 175, 3) := by decide +kernel
theorem dX5_begin_8 : decode cX5_begin 8 = .ok (.aload_n 0, 1) := by decide +kernel
theorem dX5_begin_9 : decode cX5_begin 9 = .ok (.getfield 19, 3) := by decide +kernel
theorem dX5_begin_12 : decode cX5_begin 12 = .ok (.iload_n 2, 1) := by decide +kernel
theorem dX5_begin_13 : decode cX5_begin 13 = .ok (.putfield 187, 3) := by decide +kernel
theorem dX5_begin_16 : decode cX5_begin 16 = .ok (.aload_n 0, 1) := by decide +kernel
theorem dX5_begin_17 : decode cX5_begin 17 = .ok (.getfield 19, 3) := by decide +kernel
theorem dX5_begin_20 : decode cX5_begin 20 = .ok (.iconst 0, 1) := by decide +kernel
theorem dX5_begin_21 : decode cX5_begin 21 = .ok (.putfield 184, 3) := by decide +kernel
theorem dX5_begin_24 : decode cX5_begin 24 = .ok (.aload_n 0, 1) := by decide +kernel
theorem dX5_begin_25 : decode cX5_begin 25 = .ok (.getfield 19, 3) := by decide +kernel
theorem dX5_begin_28 : decode cX5_begin 28 = .ok (.aload_n 0, 1) := by decide +kernel
theorem dX5_begin_29 : decode cX5_begin 29 = .ok (.getfield 19, 3) := by decide +kernel
theorem dX5_begin_32 : decode cX5_begin 32 = .ok (.getfield 159, 3) := by decide +kernel
theorem dX5_begin_35 : decode cX5_begin 35 = .ok (.putfield 238, 3) := by decide +kernel
theorem dX5_begin_38 : decode cX5_begin 38 = .ok (.aload_n 0, 1) := by decide +kernel
theorem dX5_begin_39 : decode cX5_begin 39 = .ok (.invokevirtual 99, 3) := by decide +kernel
theorem dX5_begin_42 : decode cX5_begin 42 = .ok (.pop, 1) := by decide +kernel
theorem dX5_begin_43 : decode cX5_begin 43 = .ok (.return_, 1) := by decide +kernel
theorem dX5_meetMood_0 : decode cX5_meetMood 0 = .ok (.aload_n 0, 1) := by decide +kernel
theorem dX5_meetMood_1 : decode cX5_meetMood 1 = .ok (.getfield 19, 3) := by decide +kernel
theorem dX5_meetMood_4 : decode cX5_meetMood 4 = .ok (.getfield 175, 3) := by decide +kernel
theorem dX5_meetMood_7 : decode cX5_meetMood 7 = .ok (.iconst (-1), 1) := by decide +kernel
theorem dX5_meetMood_8 : decode cX5_meetMood 8 = .ok (.if_icmp .eq 38, 3) := by decide +kernel
theorem dX5_meetMood_11 : decode cX5_meetMood 11 = .ok (.aload_n 0, 1) := by decide +kernel
theorem dX5_meetMood_12 : decode cX5_meetMood 12 = .ok (.getfield 19, 3) := by decide +kernel
theorem dX5_meetMood_15 : decode cX5_meetMood 15 = .ok (.getfield 95, 3) := by decide +kernel
theorem dX5_meetMood_18 : decode cX5_meetMood 18 = .ok (.iconst (-1), 1) := by decide +kernel
theorem dX5_meetMood_19 : decode cX5_meetMood 19 = .ok (.if_icmp .eq 27, 3) := by decide +kernel
theorem dX5_meetMood_22 : decode cX5_meetMood 22 = .ok (.aload_n 0, 1) := by decide +kernel
theorem dX5_meetMood_23 : decode cX5_meetMood 23 = .ok (.getfield 12, 3) := by decide +kernel
theorem dX5_meetMood_26 : decode cX5_meetMood 26 = .ok (.aload_n 0, 1) := by decide +kernel
theorem dX5_meetMood_27 : decode cX5_meetMood 27 = .ok (.getfield 19, 3) := by decide +kernel
theorem dX5_meetMood_30 : decode cX5_meetMood 30 = .ok (.getfield 175, 3) := by decide +kernel
theorem dX5_meetMood_33 : decode cX5_meetMood 33 = .ok (.aload_n 0, 1) := by decide +kernel
theorem dX5_meetMood_34 : decode cX5_meetMood 34 = .ok (.getfield 19, 3) := by decide +kernel
theorem dX5_meetMood_37 : decode cX5_meetMood 37 = .ok (.getfield 95, 3) := by decide +kernel
theorem dX5_meetMood_40 : decode cX5_meetMood 40 = .ok (.invokevirtual 294, 3) := by decide +kernel
theorem dX5_meetMood_43 : decode cX5_meetMood 43 = .ok (.ifCond .ne 5, 3) := by decide +kernel
theorem dX5_meetMood_46 : decode cX5_meetMood 46 = .ok (.iconst 0, 1) := by decide +kernel
theorem dX5_meetMood_47 : decode cX5_meetMood 47 = .ok (.ireturn, 1) := by decide +kernel
theorem dX5_meetMood_48 : decode cX5_meetMood 48 = .ok (.aload_n 0, 1) := by decide +kernel
theorem dX5_meetMood_49 : decode cX5_meetMood 49 = .ok (.getfield 32, 3) := by decide +kernel
theorem dX5_meetMood_52 : decode cX5_meetMood 52 = .ok (.iconst 4, 1) := by decide +kernel
theorem dX5_meetMood_53 : decode cX5_meetMood 53 = .ok (.aload_n 0, 1) := by decide +kernel
theorem dX5_meetMood_54 : decode cX5_meetMood 54 = .ok (.getfield 19, 3) := by decide +kernel
theorem dX5_meetMood_57 : decode cX5_meetMood 57 = .ok (.getfield 95, 3) := by decide +kernel
theorem dX5_meetMood_60 : decode cX5_meetMood 60 = .ok (.invokevirtual 82, 3) := by decide +kernel
theorem dX5_meetMood_63 : decode cX5_meetMood 63 = .ok (.aload_n 0, 1) := by decide +kernel
theorem dX5_meetMood_64 : decode cX5_meetMood 64 = .ok (.getfield 19, 3) := by decide +kernel
theorem dX5_meetMood_67 : decode cX5_meetMood 67 = .ok (.iconst (-1), 1) := by decide +kernel
theorem dX5_meetMood_68 : decode cX5_meetMood 68 = .ok (.putfield 95, 3) := by decide +kernel
theorem dX5_meetMood_71 : decode cX5_meetMood 71 = .ok (.aload_n 0, 1) := by decide +kernel
theorem dX5_meetMood_72 : decode cX5_meetMood 72 = .ok (.getfield 48, 3) := by decide +kernel
theorem dX5_meetMood_75 : decode cX5_meetMood 75 = .ok (.invokevirtual 107, 3) := by decide +kernel
theorem dX5_meetMood_78 : decode cX5_meetMood 78 = .ok (.iconst 1, 1) := by decide +kernel
theorem dX5_meetMood_79 : decode cX5_meetMood 79 = .ok (.ireturn, 1) := by decide +kernel
theorem dX5_fallSilent_0 : decode cX5_fallSilent 0 = .ok (.aload_n 0, 1) := by decide +kernel
theorem dX5_fallSilent_1 : decode cX5_fallSilent 1 = .ok (.getfield 32, 3) := by decide +kernel
theorem dX5_fallSilent_4 : decode cX5_fallSilent 4 = .ok (.bipush 7, 2) := by decide +kernel
theorem dX5_fallSilent_6 : decode cX5_fallSilent 6 = .ok (.aload_n 0, 1) := by decide +kernel
theorem dX5_fallSilent_7 : decode cX5_fallSilent 7 = .ok (.getfield 19, 3) := by decide +kernel
theorem dX5_fallSilent_10 : decode cX5_fallSilent 10 = .ok (.getfield 175, 3) := by decide +kernel
theorem dX5_fallSilent_13 : decode cX5_fallSilent 13 = .ok (.invokevirtual 82, 3) := by decide +kernel
theorem dX5_fallSilent_16 : decode cX5_fallSilent 16 = .ok (.aload_n 0, 1) := by decide +kernel
theorem dX5_fallSilent_17 : decode cX5_fallSilent 17 = .ok (.getfield 19, 3) := by decide +kernel
theorem dX5_fallSilent_20 : decode cX5_fallSilent 20 = .ok (.iconst (-1), 1) := by decide +kernel
theorem dX5_fallSilent_21 : decode cX5_fallSilent 21 = .ok (.putfield 175, 3) := by decide +kernel
theorem dX5_fallSilent_24 : decode cX5_fallSilent 24 = .ok (.aload_n 0, 1) := by decide +kernel
theorem dX5_fallSilent_25 : decode cX5_fallSilent 25 = .ok (.getfield 19, 3) := by decide +kernel
theorem dX5_fallSilent_28 : decode cX5_fallSilent 28 = .ok (.iconst 0, 1) := by decide +kernel
theorem dX5_fallSilent_29 : decode cX5_fallSilent 29 = .ok (.putfield 187, 3) := by decide +kernel
theorem dX5_fallSilent_32 : decode cX5_fallSilent 32 = .ok (.aload_n 0, 1) := by decide +kernel
theorem dX5_fallSilent_33 : decode cX5_fallSilent 33 = .ok (.getfield 19, 3) := by decide +kernel
theorem dX5_fallSilent_36 : decode cX5_fallSilent 36 = .ok (.iconst 0, 1) := by decide +kernel
theorem dX5_fallSilent_37 : decode cX5_fallSilent 37 = .ok (.putfield 184, 3) := by decide +kernel
theorem dX5_fallSilent_40 : decode cX5_fallSilent 40 = .ok (.return_, 1) := by decide +kernel
theorem dX5_moveLayers_0 : decode cX5_moveLayers 0 = .ok (.aload_n 0, 1) := by decide +kernel
theorem dX5_moveLayers_1 : decode cX5_moveLayers 1 = .ok (.getfield 19, 3) := by decide +kernel
theorem dX5_moveLayers_4 : decode cX5_moveLayers 4 = .ok (.getfield 175, 3) := by decide +kernel
theorem dX5_moveLayers_7 : decode cX5_moveLayers 7 = .ok (.iconst (-1), 1) := by decide +kernel
theorem dX5_moveLayers_8 : decode cX5_moveLayers 8 = .ok (.if_icmp .ne 15, 3) := by decide +kernel
theorem dX5_moveLayers_11 : decode cX5_moveLayers 11 = .ok (.aload_n 0, 1) := by decide +kernel
theorem dX5_moveLayers_12 : decode cX5_moveLayers 12 = .ok (.getfield 19, 3) := by decide +kernel
theorem dX5_moveLayers_15 : decode cX5_moveLayers 15 = .ok (.getfield 207, 3) := by decide +kernel
theorem dX5_moveLayers_18 : decode cX5_moveLayers 18 = .ok (.iconst 0, 1) := by decide +kernel
theorem dX5_moveLayers_19 : decode cX5_moveLayers 19 = .ok (.invokestatic 298, 3) := by decide +kernel
theorem dX5_moveLayers_22 : decode cX5_moveLayers 22 = .ok (.return_, 1) := by decide +kernel
theorem dX5_moveLayers_23 : decode cX5_moveLayers 23 = .ok (.aload_n 0, 1) := by decide +kernel
theorem dX5_moveLayers_24 : decode cX5_moveLayers 24 = .ok (.getfield 19, 3) := by decide +kernel
theorem dX5_moveLayers_27 : decode cX5_moveLayers 27 = .ok (.invokevirtual 193, 3) := by decide +kernel
theorem dX5_moveLayers_30 : decode cX5_moveLayers 30 = .ok (.istore_n 1, 1) := by decide +kernel
theorem dX5_moveLayers_31 : decode cX5_moveLayers 31 = .ok (.iconst 0, 1) := by decide +kernel
theorem dX5_moveLayers_32 : decode cX5_moveLayers 32 = .ok (.istore_n 2, 1) := by decide +kernel
theorem dX5_moveLayers_33 : decode cX5_moveLayers 33 = .ok (.iload_n 2, 1) := by decide +kernel
theorem dX5_moveLayers_34 : decode cX5_moveLayers 34 = .ok (.aload_n 0, 1) := by decide +kernel
theorem dX5_moveLayers_35 : decode cX5_moveLayers 35 = .ok (.getfield 12, 3) := by decide +kernel
theorem dX5_moveLayers_38 : decode cX5_moveLayers 38 = .ok (.getfield 199, 3) := by decide +kernel
theorem dX5_moveLayers_41 : decode cX5_moveLayers 41 = .ok (.if_icmp .ge 52, 3) := by decide +kernel
theorem dX5_moveLayers_44 : decode cX5_moveLayers 44 = .ok (.aload_n 0, 1) := by decide +kernel
theorem dX5_moveLayers_45 : decode cX5_moveLayers 45 = .ok (.getfield 12, 3) := by decide +kernel
theorem dX5_moveLayers_48 : decode cX5_moveLayers 48 = .ok (.getfield 145, 3) := by decide +kernel
theorem dX5_moveLayers_51 : decode cX5_moveLayers 51 = .ok (.iload_n 2, 1) := by decide +kernel
theorem dX5_moveLayers_52 : decode cX5_moveLayers 52 = .ok (.iaload, 1) := by decide +kernel
theorem dX5_moveLayers_53 : decode cX5_moveLayers 53 = .ok (.iconst 2, 1) := by decide +kernel
theorem dX5_moveLayers_54 : decode cX5_moveLayers 54 = .ok (.if_icmp .ne 33, 3) := by decide +kernel
theorem dX5_moveLayers_57 : decode cX5_moveLayers 57 = .ok (.aload_n 0, 1) := by decide +kernel
theorem dX5_moveLayers_58 : decode cX5_moveLayers 58 = .ok (.getfield 12, 3) := by decide +kernel
theorem dX5_moveLayers_61 : decode cX5_moveLayers 61 = .ok (.aload_n 0, 1) := by decide +kernel
theorem dX5_moveLayers_62 : decode cX5_moveLayers 62 = .ok (.getfield 19, 3) := by decide +kernel
theorem dX5_moveLayers_65 : decode cX5_moveLayers 65 = .ok (.getfield 184, 3) := by decide +kernel
theorem dX5_moveLayers_68 : decode cX5_moveLayers 68 = .ok (.iload_n 2, 1) := by decide +kernel
theorem dX5_moveLayers_69 : decode cX5_moveLayers 69 = .ok (.invokevirtual 303, 3) := by decide +kernel
theorem dX5_moveLayers_72 : decode cX5_moveLayers 72 = .ok (.ifCond .eq 15, 3) := by decide +kernel
theorem dX5_moveLayers_75 : decode cX5_moveLayers 75 = .ok (.iload_n 1, 1) := by decide +kernel
theorem dX5_moveLayers_76 : decode cX5_moveLayers 76 = .ok (.aload_n 0, 1) := by decide +kernel
theorem dX5_moveLayers_77 : decode cX5_moveLayers 77 = .ok (.getfield 19, 3) := by decide +kernel
theorem dX5_moveLayers_80 : decode cX5_moveLayers 80 = .ok (.iload_n 2, 1) := by decide +kernel
theorem dX5_moveLayers_81 : decode cX5_moveLayers 81 = .ok (.iload_n 1, 1) := by decide +kernel
theorem dX5_moveLayers_82 : decode cX5_moveLayers 82 = .ok (.invokevirtual 306, 3) := by decide +kernel
theorem dX5_moveLayers_85 : decode cX5_moveLayers 85 = .ok (.iadd, 1) := by decide +kernel
theorem dX5_moveLayers_86 : decode cX5_moveLayers 86 = .ok (.istore_n 1, 1) := by decide +kernel
theorem dX5_moveLayers_87 : decode cX5_moveLayers 87 = .ok (.iinc 2 1, 3) := by decide +kernel
theorem dX5_moveLayers_90 : decode cX5_moveLayers 90 = .ok (.goto (-57), 3) := by decide +kernel
theorem dX5_moveLayers_93 : decode cX5_moveLayers 93 = .ok (.return_, 1) := by decide +kernel
theorem dX5_beginSting_0 : decode cX5_beginSting 0 = .ok (.aload_n 0, 1) := by decide +kernel
theorem dX5_beginSting_1 : decode cX5_beginSting 1 = .ok (.getfield 19, 3) := by decide +kernel
theorem dX5_beginSting_4 : decode cX5_beginSting 4 = .ok (.getfield 175, 3) := by decide +kernel
theorem dX5_beginSting_7 : decode cX5_beginSting 7 = .ok (.iconst (-1), 1) := by decide +kernel
theorem dX5_beginSting_8 : decode cX5_beginSting 8 = .ok (.if_icmp .eq 24, 3) := by decide +kernel
theorem dX5_beginSting_11 : decode cX5_beginSting 11 = .ok (.aload_n 0, 1) := by decide +kernel
theorem dX5_beginSting_12 : decode cX5_beginSting 12 = .ok (.getfield 19, 3) := by decide +kernel
theorem dX5_beginSting_15 : decode cX5_beginSting 15 = .ok (.getfield 166, 3) := by decide +kernel
theorem dX5_beginSting_18 : decode cX5_beginSting 18 = .ok (.iconst (-1), 1) := by decide +kernel
theorem dX5_beginSting_19 : decode cX5_beginSting 19 = .ok (.if_icmp .ne 13, 3) := by decide +kernel
theorem dX5_beginSting_22 : decode cX5_beginSting 22 = .ok (.aload_n 0, 1) := by decide +kernel
theorem dX5_beginSting_23 : decode cX5_beginSting 23 = .ok (.getfield 19, 3) := by decide +kernel
theorem dX5_beginSting_26 : decode cX5_beginSting 26 = .ok (.getfield 151, 3) := by decide +kernel
theorem dX5_beginSting_29 : decode cX5_beginSting 29 = .ok (.ifCond .ne 4, 3) := by decide +kernel
theorem dX5_beginSting_32 : decode cX5_beginSting 32 = .ok (.return_, 1) := by decide +kernel
theorem dX5_beginSting_33 : decode cX5_beginSting 33 = .ok (.aload_n 0, 1) := by decide +kernel
theorem dX5_beginSting_34 : decode cX5_beginSting 34 = .ok (.getfield 19, 3) := by decide +kernel
theorem dX5_beginSting_37 : decode cX5_beginSting 37 = .ok (.getfield 154, 3) := by decide +kernel
theorem dX5_beginSting_40 : decode cX5_beginSting 40 = .ok (.iconst 0, 1) := by decide +kernel
theorem dX5_beginSting_41 : decode cX5_beginSting 41 = .ok (.iaload, 1) := by decide +kernel
theorem dX5_beginSting_42 : decode cX5_beginSting 42 = .ok (.istore_n 1, 1) := by decide +kernel
theorem dX5_beginSting_43 : decode cX5_beginSting 43 = .ok (.aload_n 0, 1) := by decide +kernel
theorem dX5_beginSting_44 : decode cX5_beginSting 44 = .ok (.getfield 12, 3) := by decide +kernel
theorem dX5_beginSting_47 : decode cX5_beginSting 47 = .ok (.getfield 254, 3) := by decide +kernel
theorem dX5_beginSting_50 : decode cX5_beginSting 50 = .ok (.aload_n 0, 1) := by decide +kernel
theorem dX5_beginSting_51 : decode cX5_beginSting 51 = .ok (.getfield 19, 3) := by decide +kernel
theorem dX5_beginSting_54 : decode cX5_beginSting 54 = .ok (.getfield 175, 3) := by decide +kernel
theorem dX5_beginSting_57 : decode cX5_beginSting 57 = .ok (.iaload, 1) := by decide +kernel
theorem dX5_beginSting_58 : decode cX5_beginSting 58 = .ok (.aload_n 0, 1) := by decide +kernel
theorem dX5_beginSting_59 : decode cX5_beginSting 59 = .ok (.getfield 19, 3) := by decide +kernel
theorem dX5_beginSting_62 : decode cX5_beginSting 62 = .ok (.getfield 184, 3) := by decide +kernel
theorem dX5_beginSting_65 : decode cX5_beginSting 65 = .ok (.isub, 1) := by decide +kernel
theorem dX5_beginSting_66 : decode cX5_beginSting 66 = .ok (.aload_n 0, 1) := by decide +kernel
theorem dX5_beginSting_67 : decode cX5_beginSting 67 = .ok (.getfield 12, 3) := by decide +kernel
theorem dX5_beginSting_70 : decode cX5_beginSting 70 = .ok (.getfield 254, 3) := by decide +kernel
theorem dX5_beginSting_73 : decode cX5_beginSting 73 = .ok (.iload_n 1, 1) := by decide +kernel
theorem dX5_beginSting_74 : decode cX5_beginSting 74 = .ok (.iaload, 1) := by decide +kernel
theorem dX5_beginSting_75 : decode cX5_beginSting 75 = .ok (.if_icmp .ge 4, 3) := by decide +kernel
theorem dX5_beginSting_78 : decode cX5_beginSting 78 = .ok (.return_, 1) := by decide +kernel
theorem dX5_beginSting_79 : decode cX5_beginSting 79 = .ok (.aload_n 0, 1) := by decide +kernel
theorem dX5_beginSting_80 : decode cX5_beginSting 80 = .ok (.getfield 19, 3) := by decide +kernel
theorem dX5_beginSting_83 : decode cX5_beginSting 83 = .ok (.invokevirtual 310, 3) := by decide +kernel
theorem dX5_beginSting_86 : decode cX5_beginSting 86 = .ok (.aload_n 0, 1) := by decide +kernel
theorem dX5_beginSting_87 : decode cX5_beginSting 87 = .ok (.getfield 19, 3) := by decide +kernel
theorem dX5_beginSting_90 : decode cX5_beginSting 90 = .ok (.iload_n 1, 1) := by decide +kernel
theorem dX5_beginSting_91 : decode cX5_beginSting 91 = .ok (.putfield 166, 3) := by decide +kernel
theorem dX5_beginSting_94 : decode cX5_beginSting 94 = .ok (.aload_n 0, 1) := by decide +kernel
theorem dX5_beginSting_95 : decode cX5_beginSting 95 = .ok (.getfield 19, 3) := by decide +kernel
theorem dX5_beginSting_98 : decode cX5_beginSting 98 = .ok (.aload_n 0, 1) := by decide +kernel
theorem dX5_beginSting_99 : decode cX5_beginSting 99 = .ok (.getfield 19, 3) := by decide +kernel
theorem dX5_beginSting_102 : decode cX5_beginSting 102 = .ok (.getfield 159, 3) := by decide +kernel
theorem dX5_beginSting_105 : decode cX5_beginSting 105 = .ok (.aload_n 0, 1) := by decide +kernel
theorem dX5_beginSting_106 : decode cX5_beginSting 106 = .ok (.getfield 12, 3) := by decide +kernel
theorem dX5_beginSting_109 : decode cX5_beginSting 109 = .ok (.iload_n 1, 1) := by decide +kernel
theorem dX5_beginSting_110 : decode cX5_beginSting 110 = .ok (.invokevirtual 313, 3) := by decide +kernel
theorem dX5_beginSting_113 : decode cX5_beginSting 113 = .ok (.ladd, 1) := by decide +kernel
theorem dX5_beginSting_114 : decode cX5_beginSting 114 = .ok (.putfield 169, 3) := by decide +kernel
theorem dX5_beginSting_117 : decode cX5_beginSting 117 = .ok (.aload_n 0, 1) := by decide +kernel
theorem dX5_beginSting_118 : decode cX5_beginSting 118 = .ok (.getfield 32, 3) := by decide +kernel
theorem dX5_beginSting_121 : decode cX5_beginSting 121 = .ok (.iconst 5, 1) := by decide +kernel
theorem dX5_beginSting_122 : decode cX5_beginSting 122 = .ok (.iload_n 1, 1) := by decide +kernel
theorem dX5_beginSting_123 : decode cX5_beginSting 123 = .ok (.invokevirtual 82, 3) := by decide +kernel
theorem dX5_beginSting_126 : decode cX5_beginSting 126 = .ok (.return_, 1) := by decide +kernel
theorem dX5_endSting_0 : decode cX5_endSting 0 = .ok (.aload_n 0, 1) := by decide +kernel
theorem dX5_endSting_1 : decode cX5_endSting 1 = .ok (.getfield 32, 3) := by decide +kernel
theorem dX5_endSting_4 : decode cX5_endSting 4 = .ok (.bipush 6, 2) := by decide +kernel
theorem dX5_endSting_6 : decode cX5_endSting 6 = .ok (.aload_n 0, 1) := by decide +kernel
theorem dX5_endSting_7 : decode cX5_endSting 7 = .ok (.getfield 19, 3) := by decide +kernel
theorem dX5_endSting_10 : decode cX5_endSting 10 = .ok (.getfield 166, 3) := by decide +kernel
theorem dX5_endSting_13 : decode cX5_endSting 13 = .ok (.invokevirtual 82, 3) := by decide +kernel
theorem dX5_endSting_16 : decode cX5_endSting 16 = .ok (.aload_n 0, 1) := by decide +kernel
theorem dX5_endSting_17 : decode cX5_endSting 17 = .ok (.getfield 19, 3) := by decide +kernel
theorem dX5_endSting_20 : decode cX5_endSting 20 = .ok (.iconst (-1), 1) := by decide +kernel
theorem dX5_endSting_21 : decode cX5_endSting 21 = .ok (.putfield 166, 3) := by decide +kernel
theorem dX5_endSting_24 : decode cX5_endSting 24 = .ok (.return_, 1) := by decide +kernel
theorem dX6_init_0 : decode cX6_init 0 = .ok (.aload_n 0, 1) := by decide +kernel
theorem dX6_init_1 : decode cX6_init 1 = .ok (.invokespecial 1, 3) := by decide +kernel
theorem dX6_init_4 : decode cX6_init 4 = .ok (.aload_n 0, 1) := by decide +kernel
theorem dX6_init_5 : decode cX6_init 5 = .ok (.bipush 20, 2) := by decide +kernel
theorem dX6_init_7 : decode cX6_init 7 = .ok (.newarray .int, 2) := by decide +kernel
theorem dX6_init_9 : decode cX6_init 9 = .ok (.putfield 7, 3) := by decide +kernel
theorem dX6_init_12 : decode cX6_init 12 = .ok (.aload_n 0, 1) := by decide +kernel
theorem dX6_init_13 : decode cX6_init 13 = .ok (.bipush 20, 2) := by decide +kernel
theorem dX6_init_15 : decode cX6_init 15 = .ok (.newarray .int, 2) := by decide +kernel
theorem dX6_init_17 : decode cX6_init 17 = .ok (.putfield 13, 3) := by decide +kernel
theorem dX6_init_20 : decode cX6_init 20 = .ok (.aload_n 0, 1) := by decide +kernel
theorem dX6_init_21 : decode cX6_init 21 = .ok (.bipush 20, 2) := by decide +kernel
theorem dX6_init_23 : decode cX6_init 23 = .ok (.newarray .int, 2) := by decide +kernel
theorem dX6_init_25 : decode cX6_init 25 = .ok (.putfield 16, 3) := by decide +kernel
theorem dX6_init_28 : decode cX6_init 28 = .ok (.aload_n 0, 1) := by decide +kernel
theorem dX6_init_29 : decode cX6_init 29 = .ok (.bipush 20, 2) := by decide +kernel
theorem dX6_init_31 : decode cX6_init 31 = .ok (.newarray .int, 2) := by decide +kernel
theorem dX6_init_33 : decode cX6_init 33 = .ok (.putfield 19, 3) := by decide +kernel
theorem dX6_init_36 : decode cX6_init 36 = .ok (.aload_n 0, 1) := by decide +kernel
theorem dX6_init_37 : decode cX6_init 37 = .ok (.bipush 20, 2) := by decide +kernel
theorem dX6_init_39 : decode cX6_init 39 = .ok (.newarray .int, 2) := by decide +kernel
theorem dX6_init_41 : decode cX6_init 41 = .ok (.putfield 22, 3) := by decide +kernel
theorem dX6_init_44 : decode cX6_init 44 = .ok (.aload_n 0, 1) := by decide +kernel
theorem dX6_init_45 : decode cX6_init 45 = .ok (.bipush 100, 2) := by decide +kernel
theorem dX6_init_47 : decode cX6_init 47 = .ok (.newarray .int, 2) := by decide +kernel
theorem dX6_init_49 : decode cX6_init 49 = .ok (.putfield 25, 3) := by decide +kernel
theorem dX6_init_52 : decode cX6_init 52 = .ok (.aload_n 0, 1) := by decide +kernel
theorem dX6_init_53 : decode cX6_init 53 = .ok (.bipush 100, 2) := by decide +kernel
theorem dX6_init_55 : decode cX6_init 55 = .ok (.newarray .int, 2) := by decide +kernel
theorem dX6_init_57 : decode cX6_init 57 = .ok (.putfield 28, 3) := by decide +kernel
theorem dX6_init_60 : decode cX6_init 60 = .ok (.aload_n 0, 1) := by decide +kernel
theorem dX6_init_61 : decode cX6_init 61 = .ok (.bipush 100, 2) := by decide +kernel
theorem dX6_init_63 : decode cX6_init 63 = .ok (.newarray .int, 2) := by decide +kernel
theorem dX6_init_65 : decode cX6_init 65 = .ok (.putfield 31, 3) := by decide +kernel
theorem dX6_init_68 : decode cX6_init 68 = .ok (.aload_n 0, 1) := by decide +kernel
theorem dX6_init_69 : decode cX6_init 69 = .ok (.bipush 100, 2) := by decide +kernel
theorem dX6_init_71 : decode cX6_init 71 = .ok (.newarray .int, 2) := by decide +kernel
theorem dX6_init_73 : decode cX6_init 73 = .ok (.putfield 34, 3) := by decide +kernel
theorem dX6_init_76 : decode cX6_init 76 = .ok (.aload_n 0, 1) := by decide +kernel
theorem dX6_init_77 : decode cX6_init 77 = .ok (.iconst 2, 1) := by decide +kernel
theorem dX6_init_78 : decode cX6_init 78 = .ok (.newarray .int, 2) := by decide +kernel
theorem dX6_init_80 : decode cX6_init 80 = .ok (.dup, 1) := by decide +kernel
theorem dX6_init_81 : decode cX6_init 81 = .ok (.iconst 0, 1) := by decide +kernel
theorem dX6_init_82 : decode cX6_init 82 = .ok (.bipush 10, 2) := by decide +kernel
theorem dX6_init_84 : decode cX6_init 84 = .ok (.iastore, 1) := by decide +kernel
theorem dX6_init_85 : decode cX6_init 85 = .ok (.dup, 1) := by decide +kernel
theorem dX6_init_86 : decode cX6_init 86 = .ok (.iconst 1, 1) := by decide +kernel
theorem dX6_init_87 : decode cX6_init 87 = .ok (.iconst 1, 1) := by decide +kernel
theorem dX6_init_88 : decode cX6_init 88 = .ok (.iastore, 1) := by decide +kernel
theorem dX6_init_89 : decode cX6_init 89 = .ok (.putfield 37, 3) := by decide +kernel
end
section
theorem dX6_init_92 : decode cX6_init 92 = .ok (.aload_n 0, 1) := by decide +kernel
theorem dX6_init_93 : decode cX6_init 93 = .ok (.bipush 56, 2) := by decide +kernel
theorem dX6_init_95 : decode cX6_init 95 = .ok (.newarray .long, 2) := by decide +kernel
theorem dX6_init_97 : decode cX6_init 97 = .ok (.putfield 40, 3) := by decide +kernel
theorem dX6_init_100 : decode cX6_init 100 = .ok (.aload_n 0, 1) := by decide +kernel
theorem dX6_init_101 : decode cX6_init 101 = .ok (.sipush 224, 3) := by decide +kernel
theorem dX6_init_104 : decode cX6_init 104 = .ok (.newarray .long, 2) := by decide +kernel
theorem dX6_init_106 : decode cX6_init 106 = .ok (.putfield 44, 3) := by decide +kernel
theorem dX6_init_109 : decode cX6_init 109 = .ok (.aload_n 0, 1) := by decide +kernel
theorem dX6_init_110 : decode cX6_init 110 = .ok (.iconst 4, 1) := by decide +kernel
theorem dX6_init_111 : decode cX6_init 111 = .ok (.newarray .long, 2) := by decide +kernel
theorem dX6_init_113 : decode cX6_init 113 = .ok (.putfield 47, 3) := by decide +kernel
theorem dX6_init_116 : decode cX6_init 116 = .ok (.aload_n 0, 1) := by decide +kernel
theorem dX6_init_117 : decode cX6_init 117 = .ok (.iconst 4, 1) := by decide +kernel
theorem dX6_init_118 : decode cX6_init 118 = .ok (.newarray .long, 2) := by decide +kernel
theorem dX6_init_120 : decode cX6_init 120 = .ok (.putfield 50, 3) := by decide +kernel
theorem dX6_init_123 : decode cX6_init 123 = .ok (.aload_n 0, 1) := by decide +kernel
theorem dX6_init_124 : decode cX6_init 124 = .ok (.iconst 4, 1) := by decide +kernel
theorem dX6_init_125 : decode cX6_init 125 = .ok (.newarray .boolean, 2) := by decide +kernel
theorem dX6_init_127 : decode cX6_init 127 = .ok (.putfield 53, 3) := by decide +kernel
theorem dX6_init_130 : decode cX6_init 130 = .ok (.aload_n 0, 1) := by decide +kernel
theorem dX6_init_131 : decode cX6_init 131 = .ok (.bipush 32, 2) := by decide +kernel
theorem dX6_init_133 : decode cX6_init 133 = .ok (.newarray .int, 2) := by decide +kernel
theorem dX6_init_135 : decode cX6_init 135 = .ok (.putfield 57, 3) := by decide +kernel
theorem dX6_init_138 : decode cX6_init 138 = .ok (.aload_n 0, 1) := by decide +kernel
theorem dX6_init_139 : decode cX6_init 139 = .ok (.sipush 300, 3) := by decide +kernel
theorem dX6_init_142 : decode cX6_init 142 = .ok (.newarray .long, 2) := by decide +kernel
theorem dX6_init_144 : decode cX6_init 144 = .ok (.putfield 60, 3) := by decide +kernel
theorem dX6_init_147 : decode cX6_init 147 = .ok (.aload_n 0, 1) := by decide +kernel
theorem dX6_init_148 : decode cX6_init 148 = .ok (.sipush 300, 3) := by decide +kernel
theorem dX6_init_151 : decode cX6_init 151 = .ok (.newarray .int, 2) := by decide +kernel
theorem dX6_init_153 : decode cX6_init 153 = .ok (.putfield 63, 3) := by decide +kernel
theorem dX6_init_156 : decode cX6_init 156 = .ok (.aload_n 0, 1) := by decide +kernel
theorem dX6_init_157 : decode cX6_init 157 = .ok (.sipush 300, 3) := by decide +kernel
theorem dX6_init_160 : decode cX6_init 160 = .ok (.newarray .int, 2) := by decide +kernel
theorem dX6_init_162 : decode cX6_init 162 = .ok (.putfield 66, 3) := by decide +kernel
theorem dX6_init_165 : decode cX6_init 165 = .ok (.aload_n 0, 1) := by decide +kernel
theorem dX6_init_166 : decode cX6_init 166 = .ok (.bipush 20, 2) := by decide +kernel
theorem dX6_init_168 : decode cX6_init 168 = .ok (.newarray .long, 2) := by decide +kernel
theorem dX6_init_170 : decode cX6_init 170 = .ok (.putfield 69, 3) := by decide +kernel
theorem dX6_init_173 : decode cX6_init 173 = .ok (.aload_n 0, 1) := by decide +kernel
theorem dX6_init_174 : decode cX6_init 174 = .ok (.bipush 20, 2) := by decide +kernel
theorem dX6_init_176 : decode cX6_init 176 = .ok (.newarray .int, 2) := by decide +kernel
theorem dX6_init_178 : decode cX6_init 178 = .ok (.putfield 72, 3) := by decide +kernel
theorem dX6_init_181 : decode cX6_init 181 = .ok (.aload_n 0, 1) := by decide +kernel
theorem dX6_init_182 : decode cX6_init 182 = .ok (.bipush 20, 2) := by decide +kernel
theorem dX6_init_184 : decode cX6_init 184 = .ok (.newarray .boolean, 2) := by decide +kernel
theorem dX6_init_186 : decode cX6_init 186 = .ok (.putfield 75, 3) := by decide +kernel
theorem dX6_init_189 : decode cX6_init 189 = .ok (.aload_n 0, 1) := by decide +kernel
theorem dX6_init_190 : decode cX6_init 190 = .ok (.getfield 40, 3) := by decide +kernel
theorem dX6_init_193 : decode cX6_init 193 = .ok (.iconst 0, 1) := by decide +kernel
theorem dX6_init_194 : decode cX6_init 194 = .ok (.ldc2_w 78, 3) := by decide +kernel
theorem dX6_init_197 : decode cX6_init 197 = .ok (.lastore, 1) := by decide +kernel
theorem dX6_init_198 : decode cX6_init 198 = .ok (.aload_n 0, 1) := by decide +kernel
theorem dX6_init_199 : decode cX6_init 199 = .ok (.getfield 40, 3) := by decide +kernel
theorem dX6_init_202 : decode cX6_init 202 = .ok (.iconst 4, 1) := by decide +kernel
theorem dX6_init_203 : decode cX6_init 203 = .ok (.ldc2_w 78, 3) := by decide +kernel
theorem dX6_init_206 : decode cX6_init 206 = .ok (.lastore, 1) := by decide +kernel
theorem dX6_init_207 : decode cX6_init 207 = .ok (.aload_n 0, 1) := by decide +kernel
theorem dX6_init_208 : decode cX6_init 208 = .ok (.getfield 40, 3) := by decide +kernel
theorem dX6_init_211 : decode cX6_init 211 = .ok (.iconst 5, 1) := by decide +kernel
theorem dX6_init_212 : decode cX6_init 212 = .ok (.ldc2_w 78, 3) := by decide +kernel
theorem dX6_init_215 : decode cX6_init 215 = .ok (.lastore, 1) := by decide +kernel
theorem dX6_init_216 : decode cX6_init 216 = .ok (.return_, 1) := by decide +kernel
theorem dX6_thrown_0 : decode cX6_thrown 0 = .ok (.aload_n 0, 1) := by decide +kernel
theorem dX6_thrown_1 : decode cX6_thrown 1 = .ok (.getfield 80, 3) := by decide +kernel
theorem dX6_thrown_4 : decode cX6_thrown 4 = .ok (.ireturn, 1) := by decide +kernel
theorem dX6_right_0 : decode cX6_right 0 = .ok (.aload_n 0, 1) := by decide +kernel
theorem dX6_right_1 : decode cX6_right 1 = .ok (.getfield 80, 3) := by decide +kernel
theorem dX6_right_4 : decode cX6_right 4 = .ok (.ifCond .ne 12, 3) := by decide +kernel
theorem dX6_right_7 : decode cX6_right 7 = .ok (.iload_n 1, 1) := by decide +kernel
theorem dX6_right_8 : decode cX6_right 8 = .ok (.ifCond .ne 8, 3) := by decide +kernel
theorem dX6_right_11 : decode cX6_right 11 = .ok (.aload_n 0, 1) := by decide +kernel
theorem dX6_right_12 : decode cX6_right 12 = .ok (.iload_n 2, 1) := by decide +kernel
theorem dX6_right_13 : decode cX6_right 13 = .ok (.putfield 80, 3) := by decide +kernel
theorem dX6_right_16 : decode cX6_right 16 = .ok (.aload_n 0, 1) := by decide +kernel
theorem dX6_right_17 : decode cX6_right 17 = .ok (.getfield 80, 3) := by decide +kernel
theorem dX6_right_20 : decode cX6_right 20 = .ok (.ifCond .ne 7, 3) := by decide +kernel
theorem dX6_right_23 : decode cX6_right 23 = .ok (.iconst 1, 1) := by decide +kernel
theorem dX6_right_24 : decode cX6_right 24 = .ok (.goto 4, 3) := by decide +kernel
theorem dX6_right_27 : decode cX6_right 27 = .ok (.iconst 0, 1) := by decide +kernel
theorem dX6_right_28 : decode cX6_right 28 = .ok (.ireturn, 1) := by decide +kernel
theorem dX6_isPiece_0 : decode cX6_isPiece 0 = .ok (.aload_n 0, 1) := by decide +kernel
theorem dX6_isPiece_1 : decode cX6_isPiece 1 = .ok (.iload_n 1, 1) := by decide +kernel
theorem dX6_isPiece_2 : decode cX6_isPiece 2 = .ok (.ifCond .lt 15, 3) := by decide +kernel
theorem dX6_isPiece_5 : decode cX6_isPiece 5 = .ok (.iload_n 1, 1) := by decide +kernel
theorem dX6_isPiece_6 : decode cX6_isPiece 6 = .ok (.aload_n 0, 1) := by decide +kernel
theorem dX6_isPiece_7 : decode cX6_isPiece 7 = .ok (.getfield 84, 3) := by decide +kernel
theorem dX6_isPiece_10 : decode cX6_isPiece 10 = .ok (.if_icmp .ge 7, 3) := by decide +kernel
theorem dX6_isPiece_13 : decode cX6_isPiece 13 = .ok (.iconst 1, 1) := by decide +kernel
theorem dX6_isPiece_14 : decode cX6_isPiece 14 = .ok (.goto 4, 3) := by decide +kernel
theorem dX6_isPiece_17 : decode cX6_isPiece 17 = .ok (.iconst 0, 1) := by decide +kernel
theorem dX6_isPiece_18 : decode cX6_isPiece 18 = .ok (.iconst 1, 1) := by decide +kernel
theorem dX6_isPiece_19 : decode cX6_isPiece 19 = .ok (.invokevirtual 87, 3) := by decide +kernel
theorem dX6_isPiece_22 : decode cX6_isPiece 22 = .ok (.ireturn, 1) := by decide +kernel
theorem dX6_get_0 : decode cX6_get 0 = .ok (.aload_n 0, 1) := by decide +kernel
theorem dX6_get_1 : decode cX6_get 1 = .ok (.getfield 40, 3) := by decide +kernel
theorem dX6_get_4 : decode cX6_get 4 = .ok (.iload_n 1, 1) := by decide +kernel
theorem dX6_get_5 : decode cX6_get 5 = .ok (.laload, 1) := by decide +kernel
theorem dX6_get_6 : decode cX6_get 6 = .ok (.l2i, 1) := by decide +kernel
theorem dX6_get_7 : decode cX6_get 7 = .ok (.ireturn, 1) := by decide +kernel
theorem dX6_isMain_0 : decode cX6_isMain 0 = .ok (.aload_n 0, 1) := by decide +kernel
theorem dX6_isMain_1 : decode cX6_isMain 1 = .ok (.getfield 7, 3) := by decide +kernel
theorem dX6_isMain_4 : decode cX6_isMain 4 = .ok (.iload_n 1, 1) := by decide +kernel
theorem dX6_isMain_5 : decode cX6_isMain 5 = .ok (.iaload, 1) := by decide +kernel
theorem dX6_isMain_6 : decode cX6_isMain 6 = .ok (.ifCond .eq 13, 3) := by decide +kernel
theorem dX6_isMain_9 : decode cX6_isMain 9 = .ok (.aload_n 0, 1) := by decide +kernel
theorem dX6_isMain_10 : decode cX6_isMain 10 = .ok (.getfield 7, 3) := by decide +kernel
theorem dX6_isMain_13 : decode cX6_isMain 13 = .ok (.iload_n 1, 1) := by decide +kernel
theorem dX6_isMain_14 : decode cX6_isMain 14 = .ok (.iaload, 1) := by decide +kernel
theorem dX6_isMain_15 : decode cX6_isMain 15 = .ok (.iconst 1, 1) := by decide +kernel
theorem dX6_isMain_16 : decode cX6_isMain 16 = .ok (.if_icmp .ne 7, 3) := by decide +kernel
theorem dX6_isMain_19 : decode cX6_isMain 19 = .ok (.iconst 1, 1) := by decide +kernel
theorem dX6_isMain_20 : decode cX6_isMain 20 = .ok (.goto 4, 3) := by decide +kernel
theorem dX6_isMain_23 : decode cX6_isMain 23 = .ok (.iconst 0, 1) := by decide +kernel
theorem dX6_isMain_24 : decode cX6_isMain 24 = .ok (.ireturn, 1) := by decide +kernel
theorem dX6_has_0 : decode cX6_has 0 = .ok (.aload_n 0, 1) := by decide +kernel
theorem dX6_has_1 : decode cX6_has 1 = .ok (.getfield 19, 3) := by decide +kernel
theorem dX6_has_4 : decode cX6_has 4 = .ok (.iload_n 1, 1) := by decide +kernel
theorem dX6_has_5 : decode cX6_has 5 = .ok (.iaload, 1) := by decide +kernel
theorem dX6_has_6 : decode cX6_has 6 = .ok (.iload_n 2, 1) := by decide +kernel
theorem dX6_has_7 : decode cX6_has 7 = .ok (.ishr, 1) := by decide +kernel
theorem dX6_has_8 : decode cX6_has 8 = .ok (.iconst 1, 1) := by decide +kernel
theorem dX6_has_9 : decode cX6_has 9 = .ok (.iand, 1) := by decide +kernel
theorem dX6_has_10 : decode cX6_has 10 = .ok (.iconst 1, 1) := by decide +kernel
theorem dX6_has_11 : decode cX6_has 11 = .ok (.if_icmp .ne 7, 3) := by decide +kernel
theorem dX6_has_14 : decode cX6_has 14 = .ok (.iconst 1, 1) := by decide +kernel
theorem dX6_has_15 : decode cX6_has 15 = .ok (.goto 4, 3) := by decide +kernel
theorem dX6_has_18 : decode cX6_has 18 = .ok (.iconst 0, 1) := by decide +kernel
theorem dX6_has_19 : decode cX6_has 19 = .ok (.ireturn, 1) := by decide +kernel
theorem dX6_piece_0 : decode cX6_piece 0 = .ok (.aload_n 0, 1) := by decide +kernel
theorem dX6_piece_1 : decode cX6_piece 1 = .ok (.iconst 0, 1) := by decide +kernel
theorem dX6_piece_2 : decode cX6_piece 2 = .ok (.putfield 80, 3) := by decide +kernel
theorem dX6_piece_5 : decode cX6_piece 5 = .ok (.aload_n 0, 1) := by decide +kernel
theorem dX6_piece_6 : decode cX6_piece 6 = .ok (.getfield 84, 3) := by decide +kernel
theorem dX6_piece_9 : decode cX6_piece 9 = .ok (.bipush 20, 2) := by decide +kernel
theorem dX6_piece_11 : decode cX6_piece 11 = .ok (.if_icmp .eq 62, 3) := by decide +kernel
theorem dX6_piece_14 : decode cX6_piece 14 = .ok (.iload_n 1, 1) := by decide +kernel
theorem dX6_piece_15 : decode cX6_piece 15 = .ok (.ifCond .lt 58, 3) := by decide +kernel
theorem dX6_piece_18 : decode cX6_piece 18 = .ok (.iload_n 1, 1) := by decide +kernel
theorem dX6_piece_19 : decode cX6_piece 19 = .ok (.iconst 3, 1) := by decide +kernel
theorem dX6_piece_20 : decode cX6_piece 20 = .ok (.if_icmp .gt 53, 3) := by decide +kernel
theorem dX6_piece_23 : decode cX6_piece 23 = .ok (.iload_n 2, 1) := by decide +kernel
theorem dX6_piece_24 : decode cX6_piece 24 = .ok (.iconst 1, 1) := by decide +kernel
theorem dX6_piece_25 : decode cX6_piece 25 = .ok (.if_icmp .lt 48, 3) := by decide +kernel
theorem dX6_piece_28 : decode cX6_piece 28 = .ok (.iload_n 2, 1) := by decide +kernel
theorem dX6_piece_29 : decode cX6_piece 29 = .ok (.bipush 64, 2) := by decide +kernel
theorem dX6_piece_31 : decode cX6_piece 31 = .ok (.if_icmp .gt 42, 3) := by decide +kernel
theorem dX6_piece_34 : decode cX6_piece 34 = .ok (.iload_n 3, 1) := by decide +kernel
theorem dX6_piece_35 : decode cX6_piece 35 = .ok (.bipush 24, 2) := by decide +kernel
theorem dX6_piece_37 : decode cX6_piece 37 = .ok (.if_icmp .lt 36, 3) := by decide +kernel
theorem dX6_piece_40 : decode cX6_piece 40 = .ok (.iload_n 3, 1) := by decide +kernel
theorem dX6_piece_41 : decode cX6_piece 41 = .ok (.sipush 2400, 3) := by decide +kernel
theorem dX6_piece_44 : decode cX6_piece 44 = .ok (.if_icmp .gt 29, 3) := by decide +kernel
theorem dX6_piece_47 : decode cX6_piece 47 = .ok (.iload 4, 2) := by decide +kernel
theorem dX6_piece_49 : decode cX6_piece 49 = .ok (.ifCond .lt 24, 3) := by decide +kernel
theorem dX6_piece_52 : decode cX6_piece 52 = .ok (.iload 4, 2) := by decide +kernel
theorem dX6_piece_54 : decode cX6_piece 54 = .ok (.sipush 255, 3) := by decide +kernel
theorem dX6_piece_57 : decode cX6_piece 57 = .ok (.if_icmp .gt 16, 3) := by decide +kernel
theorem dX6_piece_60 : decode cX6_piece 60 = .ok (.iload 5, 2) := by decide +kernel
theorem dX6_piece_62 : decode cX6_piece 62 = .ok (.iconst 1, 1) := by decide +kernel
theorem dX6_piece_63 : decode cX6_piece 63 = .ok (.if_icmp .lt 10, 3) := by decide +kernel
theorem dX6_piece_66 : decode cX6_piece 66 = .ok (.iload 5, 2) := by decide +kernel
theorem dX6_piece_68 : decode cX6_piece 68 = .ok (.bipush 9, 2) := by decide +kernel
theorem dX6_piece_70 : decode cX6_piece 70 = .ok (.if_icmp .le 5, 3) := by decide +kernel
theorem dX6_piece_73 : decode cX6_piece 73 = .ok (.iconst (-1), 1) := by decide +kernel
theorem dX6_piece_74 : decode cX6_piece 74 = .ok (.ireturn, 1) := by decide +kernel
theorem dX6_piece_75 : decode cX6_piece 75 = .ok (.iload_n 1, 1) := by decide +kernel
theorem dX6_piece_76 : decode cX6_piece 76 = .ok (.iconst 2, 1) := by decide +kernel
theorem dX6_piece_77 : decode cX6_piece 77 = .ok (.if_icmp .lt 10, 3) := by decide +kernel
theorem dX6_piece_80 : decode cX6_piece 80 = .ok (.iload 4, 2) := by decide +kernel
theorem dX6_piece_82 : decode cX6_piece 82 = .ok (.ifCond .eq 5, 3) := by decide +kernel
theorem dX6_piece_85 : decode cX6_piece 85 = .ok (.iconst (-1), 1) := by decide +kernel
theorem dX6_piece_86 : decode cX6_piece 86 = .ok (.ireturn, 1) := by decide +kernel
theorem dX6_piece_87 : decode cX6_piece 87 = .ok (.aload_n 0, 1) := by decide +kernel
theorem dX6_piece_88 : decode cX6_piece 88 = .ok (.getfield 7, 3) := by decide +kernel
theorem dX6_piece_91 : decode cX6_piece 91 = .ok (.aload_n 0, 1) := by decide +kernel
theorem dX6_piece_92 : decode cX6_piece 92 = .ok (.getfield 84, 3) := by decide +kernel
theorem dX6_piece_95 : decode cX6_piece 95 = .ok (.iload_n 1, 1) := by decide +kernel
theorem dX6_piece_96 : decode cX6_piece 96 = .ok (.iastore, 1) := by decide +kernel
theorem dX6_piece_97 : decode cX6_piece 97 = .ok (.aload_n 0, 1) := by decide +kernel
theorem dX6_piece_98 : decode cX6_piece 98 = .ok (.getfield 13, 3) := by decide +kernel
theorem dX6_piece_101 : decode cX6_piece 101 = .ok (.aload_n 0, 1) := by decide +kernel
theorem dX6_piece_102 : decode cX6_piece 102 = .ok (.getfield 84, 3) := by decide +kernel
theorem dX6_piece_105 : decode cX6_piece 105 = .ok (.iload_n 2, 1) := by decide +kernel
theorem dX6_piece_106 : decode cX6_piece 106 = .ok (.iastore, 1) := by decide +kernel
theorem dX6_piece_107 : decode cX6_piece 107 = .ok (.aload_n 0, 1) := by decide +kernel
theorem dX6_piece_108 : decode cX6_piece 108 = .ok (.getfield 16, 3) := by decide +kernel
theorem dX6_piece_111 : decode cX6_piece 111 = .ok (.aload_n 0, 1) := by decide +kernel
theorem dX6_piece_112 : decode cX6_piece 112 = .ok (.getfield 84, 3) := by decide +kernel
theorem dX6_piece_115 : decode cX6_piece 115 = .ok (.iload_n 3, 1) := by decide +kernel
theorem dX6_piece_116 : decode cX6_piece 116 = .ok (.iastore, 1) := by decide +kernel
theorem dX6_piece_117 : decode cX6_piece 117 = .ok (.aload_n 0, 1) := by decide +kernel
theorem dX6_piece_118 : decode cX6_piece 118 = .ok (.getfield 19, 3) := by decide +kernel
theorem dX6_piece_121 : decode cX6_piece 121 = .ok (.aload_n 0, 1) := by decide +kernel
theorem dX6_piece_122 : decode cX6_piece 122 = .ok (.getfield 84, 3) := by decide +kernel
theorem dX6_piece_125 : decode cX6_piece 125 = .ok (.iload 4, 2) := by decide +kernel
theorem dX6_piece_127 : decode cX6_piece 127 = .ok (.iastore, 1) := by decide +kernel
theorem dX6_piece_128 : decode cX6_piece 128 = .ok (.aload_n 0, 1) := by decide +kernel
theorem dX6_piece_129 : decode cX6_piece 129 = .ok (.getfield 22, 3) := by decide +kernel
theorem dX6_piece_132 : decode cX6_piece 132 = .ok (.aload_n 0, 1) := by decide +kernel
theorem dX6_piece_133 : decode cX6_piece 133 = .ok (.getfield 84, 3) := by decide +kernel
theorem dX6_piece_136 : decode cX6_piece 136 = .ok (.iload 5, 2) := by decide +kernel
theorem dX6_piece_138 : decode cX6_piece 138 = .ok (.iastore, 1) := by decide +kernel
theorem dX6_piece_139 : decode cX6_piece 139 = .ok (.aload_n 0, 1) := by decide +kernel
theorem dX6_piece_140 : decode cX6_piece 140 = .ok (.dup, 1) := by decide +kernel
theorem dX6_piece_141 : decode cX6_piece 141 = .ok (.getfield 84, 3) := by decide +kernel
theorem dX6_piece_144 : decode cX6_piece 144 = .ok (.iconst 1, 1) := by decide +kernel
theorem dX6_piece_145 : decode cX6_piece 145 = .ok (.iadd, 1) := by decide +kernel
theorem dX6_piece_146 : decode cX6_piece 146 = .ok (.putfield 84, 3) := by decide +kernel
theorem dX6_piece_149 : decode cX6_piece 149 = .ok (.aload_n 0, 1) := by decide +kernel
theorem dX6_piece_150 : decode cX6_piece 150 = .ok (.invokevirtual 91, 3) := by decide +kernel
theorem dX6_piece_153 : decode cX6_piece 153 = .ok (.aload_n 0, 1) := by decide +kernel
theorem dX6_piece_154 : decode cX6_piece 154 = .ok (.getfield 84, 3) := by decide +kernel
theorem dX6_piece_157 : decode cX6_piece 157 = .ok (.iconst 1, 1) := by decide +kernel
theorem dX6_piece_158 : decode cX6_piece 158 = .ok (.isub, 1) := by decide +kernel
theorem dX6_piece_159 : decode cX6_piece 159 = .ok (.ireturn, 1) := by decide +kernel
theorem dX6_joint_0 : decode cX6_joint 0 = .ok (.aload_n 0, 1) := by decide +kernel
theorem dX6_joint_1 : decode cX6_joint 1 = .ok (.iconst 0, 1) := by decide +kernel
theorem dX6_joint_2 : decode cX6_joint 2 = .ok (.putfield 80, 3) := by decide +kernel
theorem dX6_joint_5 : decode cX6_joint 5 = .ok (.aload_n 0, 1) := by decide +kernel
theorem dX6_joint_6 : decode cX6_joint 6 = .ok (.iload_n 1, 1) := by decide +kernel
theorem dX6_joint_7 : decode cX6_joint 7 = .ok (.invokevirtual 94, 3) := by decide +kernel
theorem dX6_joint_10 : decode cX6_joint 10 = .ok (.ifCond .eq 11, 3) := by decide +kernel
theorem dX6_joint_13 : decode cX6_joint 13 = .ok (.aload_n 0, 1) := by decide +kernel
theorem dX6_joint_14 : decode cX6_joint 14 = .ok (.iload_n 3, 1) := by decide +kernel
theorem dX6_joint_15 : decode cX6_joint 15 = .ok (.invokevirtual 94, 3) := by decide +kernel
theorem dX6_joint_18 : decode cX6_joint 18 = .ok (.ifCond .ne 5, 3) := by decide +kernel
theorem dX6_joint_21 : decode cX6_joint 21 = .ok (.iconst 0, 1) := by decide +kernel
theorem dX6_joint_22 : decode cX6_joint 22 = .ok (.ireturn, 1) := by decide +kernel
theorem dX6_joint_23 : decode cX6_joint 23 = .ok (.aload_n 0, 1) := by decide +kernel
theorem dX6_joint_24 : decode cX6_joint 24 = .ok (.getfield 98, 3) := by decide +kernel
theorem dX6_joint_27 : decode cX6_joint 27 = .ok (.bipush 100, 2) := by decide +kernel
theorem dX6_joint_29 : decode cX6_joint 29 = .ok (.if_icmp .eq 46, 3) := by decide +kernel
theorem dX6_joint_32 : decode cX6_joint 32 = .ok (.aload_n 0, 1) := by decide +kernel
theorem dX6_joint_33 : decode cX6_joint 33 = .ok (.iload_n 1, 1) := by decide +kernel
theorem dX6_joint_34 : decode cX6_joint 34 = .ok (.invokevirtual 101, 3) := by decide +kernel
theorem dX6_joint_37 : decode cX6_joint 37 = .ok (.ifCond .eq 38, 3) := by decide +kernel
theorem dX6_joint_40 : decode cX6_joint 40 = .ok (.aload_n 0, 1) := by decide +kernel
theorem dX6_joint_41 : decode cX6_joint 41 = .ok (.iload_n 3, 1) := by decide +kernel
theorem dX6_joint_42 : decode cX6_joint 42 = .ok (.invokevirtual 101, 3) := by decide +kernel
theorem dX6_joint_45 : decode cX6_joint 45 = .ok (.ifCond .eq 30, 3) := by decide +kernel
theorem dX6_joint_48 : decode cX6_joint 48 = .ok (.iload_n 2, 1) := by decide +kernel
theorem dX6_joint_49 : decode cX6_joint 49 = .ok (.iconst 1, 1) := by decide +kernel
theorem dX6_joint_50 : decode cX6_joint 50 = .ok (.if_icmp .lt 25, 3) := by decide +kernel
theorem dX6_joint_53 : decode cX6_joint 53 = .ok (.iload_n 2, 1) := by decide +kernel
theorem dX6_joint_54 : decode cX6_joint 54 = .ok (.aload_n 0, 1) := by decide +kernel
theorem dX6_joint_55 : decode cX6_joint 55 = .ok (.getfield 13, 3) := by decide +kernel
theorem dX6_joint_58 : decode cX6_joint 58 = .ok (.iload_n 1, 1) := by decide +kernel
theorem dX6_joint_59 : decode cX6_joint 59 = .ok (.iaload, 1) := by decide +kernel
theorem dX6_joint_60 : decode cX6_joint 60 = .ok (.if_icmp .gt 15, 3) := by decide +kernel
theorem dX6_joint_63 : decode cX6_joint 63 = .ok (.iload 4, 2) := by decide +kernel
theorem dX6_joint_65 : decode cX6_joint 65 = .ok (.ifCond .lt 10, 3) := by decide +kernel
theorem dX6_joint_68 : decode cX6_joint 68 = .ok (.iload 4, 2) := by decide +kernel
theorem dX6_joint_70 : decode cX6_joint 70 = .ok (.bipush 99, 2) := by decide +kernel
theorem dX6_joint_72 : decode cX6_joint 72 = .ok (.if_icmp .le 5, 3) := by decide +kernel
theorem dX6_joint_75 : decode cX6_joint 75 = .ok (.iconst (-1), 1) := by decide +kernel
theorem dX6_joint_76 : decode cX6_joint 76 = .ok (.ireturn, 1) := by decide +kernel
theorem dX6_joint_77 : decode cX6_joint 77 = .ok (.iconst 0, 1) := by decide +kernel
theorem dX6_joint_78 : decode cX6_joint 78 = .ok (.istore 5, 2) := by decide +kernel
theorem dX6_joint_80 : decode cX6_joint 80 = .ok (.iload 5, 2) := by decide +kernel
theorem dX6_joint_82 : decode cX6_joint 82 = .ok (.aload_n 0, 1) := by decide +kernel
theorem dX6_joint_83 : decode cX6_joint 83 = .ok (.getfield 98, 3) := by decide +kernel
theorem dX6_joint_86 : decode cX6_joint 86 = .ok (.if_icmp .ge 44, 3) := by decide +kernel
theorem dX6_joint_89 : decode cX6_joint 89 = .ok (.aload_n 0, 1) := by decide +kernel
theorem dX6_joint_90 : decode cX6_joint 90 = .ok (.getfield 25, 3) := by decide +kernel
theorem dX6_joint_93 : decode cX6_joint 93 = .ok (.iload 5, 2) := by decide +kernel
theorem dX6_joint_95 : decode cX6_joint 95 = .ok (.iaload, 1) := by decide +kernel
theorem dX6_joint_96 : decode cX6_joint 96 = .ok (.iload_n 1, 1) := by decide +kernel
theorem dX6_joint_97 : decode cX6_joint 97 = .ok (.if_icmp .ne 27, 3) := by decide +kernel
theorem dX6_joint_100 : decode cX6_joint 100 = .ok (.aload_n 0, 1) := by decide +kernel
theorem dX6_joint_101 : decode cX6_joint 101 = .ok (.getfield 28, 3) := by decide +kernel
theorem dX6_joint_104 : decode cX6_joint 104 = .ok (.iload 5, 2) := by decide +kernel
theorem dX6_joint_106 : decode cX6_joint 106 = .ok (.iaload, 1) := by decide +kernel
theorem dX6_joint_107 : decode cX6_joint 107 = .ok (.iload_n 2, 1) := by decide +kernel
theorem dX6_joint_108 : decode cX6_joint 108 = .ok (.if_icmp .ne 16, 3) := by decide +kernel
theorem dX6_joint_111 : decode cX6_joint 111 = .ok (.aload_n 0, 1) := by decide +kernel
theorem dX6_joint_112 : decode cX6_joint 112 = .ok (.getfield 31, 3) := by decide +kernel
theorem dX6_joint_115 : decode cX6_joint 115 = .ok (.iload 5, 2) := by decide +kernel
theorem dX6_joint_117 : decode cX6_joint 117 = .ok (.iaload, 1) := by decide +kernel
theorem dX6_joint_118 : decode cX6_joint 118 = .ok (.iload_n 3, 1) := by decide +kernel
theorem dX6_joint_119 : decode cX6_joint 119 = .ok (.if_icmp .ne 5, 3) := by decide +kernel
theorem dX6_joint_122 : decode cX6_joint 122 = .ok (.iconst (-1), 1) := by decide +kernel
theorem dX6_joint_123 : decode cX6_joint 123 = .ok (.ireturn, 1) := by decide +kernel
theorem dX6_joint_124 : decode cX6_joint 124 = .ok (.iinc 5 1, 3) := by decide +kernel
theorem dX6_joint_127 : decode cX6_joint 127 = .ok (.goto (-47), 3) := by decide +kernel
theorem dX6_joint_130 : decode cX6_joint 130 = .ok (.aload_n 0, 1) := by decide +kernel
theorem dX6_joint_131 : decode cX6_joint 131 = .ok (.getfield 25, 3) := by decide +kernel
theorem dX6_joint_134 : decode cX6_joint 134 = .ok (.aload_n 0, 1) := by decide +kernel
theorem dX6_joint_135 : decode cX6_joint 135 = .ok (.getfield 98, 3) := by decide +kernel
theorem dX6_joint_138 : decode cX6_joint 138 = .ok (.iload_n 1, 1) := by decide +kernel
theorem dX6_joint_139 : decode cX6_joint 139 = .ok (.iastore, 1) := by decide +kernel
theorem dX6_joint_140 : decode cX6_joint 140 = .ok (.aload_n 0, 1) := by decide +kernel
theorem dX6_joint_141 : decode cX6_joint 141 = .ok (.getfield 28, 3) := by decide +kernel
theorem dX6_joint_144 : decode cX6_joint 144 = .ok (.aload_n 0, 1) := by decide +kernel
theorem dX6_joint_145 : decode cX6_joint 145 = .ok (.getfield 98, 3) := by decide +kernel
theorem dX6_joint_148 : decode cX6_joint 148 = .ok (.iload_n 2, 1) := by decide +kernel
theorem dX6_joint_149 : decode cX6_joint 149 = .ok (.iastore, 1) := by decide +kernel
theorem dX6_joint_150 : decode cX6_joint 150 = .ok (.aload_n 0, 1) := by decide +kernel
theorem dX6_joint_151 : decode cX6_joint 151 = .ok (.getfield 31, 3) := by decide +kernel
theorem dX6_joint_154 : decode cX6_joint 154 = .ok (.aload_n 0, 1) := by decide +kernel
theorem dX6_joint_155 : decode cX6_joint 155 = .ok (.getfield 98, 3) := by decide +kernel
theorem dX6_joint_158 : decode cX6_joint 158 = .ok (.iload_n 3, 1) := by decide +kernel
theorem dX6_joint_159 : decode cX6_joint 159 = .ok (.iastore, 1) := by decide +kernel
theorem dX6_joint_160 : decode cX6_joint 160 = .ok (.aload_n 0, 1) := by decide +kernel
theorem dX6_joint_161 : decode cX6_joint 161 = .ok (.getfield 34, 3) := by decide +kernel
theorem dX6_joint_164 : decode cX6_joint 164 = .ok (.aload_n 0, 1) := by decide +kernel
theorem dX6_joint_165 : decode cX6_joint 165 = .ok (.getfield 98, 3) := by decide +kernel
theorem dX6_joint_168 : decode cX6_joint 168 = .ok (.iload 4, 2) := by decide +kernel
theorem dX6_joint_170 : decode cX6_joint 170 = .ok (.iastore, 1) := by decide +kernel
theorem dX6_joint_171 : decode cX6_joint 171 = .ok (.aload_n 0, 1) := by decide +kernel
theorem dX6_joint_172 : decode cX6_joint 172 = .ok (.dup, 1) := by decide +kernel
theorem dX6_joint_173 : decode cX6_joint 173 = .ok (.getfield 98, 3) := by decide +kernel
theorem dX6_joint_176 : decode cX6_joint 176 = .ok (.iconst 1, 1) := by decide +kernel
theorem dX6_joint_177 : decode cX6_joint 177 = .ok (.iadd, 1) := by decide +kernel
theorem dX6_joint_178 : decode cX6_joint 178 = .ok (.putfield 98, 3) := by decide +kernel
theorem dX6_joint_181 : decode cX6_joint 181 = .ok (.aload_n 0, 1) := by decide +kernel
theorem dX6_joint_182 : decode cX6_joint 182 = .ok (.invokevirtual 91, 3) := by decide +kernel
theorem dX6_joint_185 : decode cX6_joint 185 = .ok (.aload_n 0, 1) := by decide +kernel
theorem dX6_joint_186 : decode cX6_joint 186 = .ok (.getfield 98, 3) := by decide +kernel
theorem dX6_joint_189 : decode cX6_joint 189 = .ok (.iconst 1, 1) := by decide +kernel
theorem dX6_joint_190 : decode cX6_joint 190 = .ok (.isub, 1) := by decide +kernel
theorem dX6_joint_191 : decode cX6_joint 191 = .ok (.ireturn, 1) := by decide +kernel
theorem dX6_price_0 : decode cX6_price 0 = .ok (.aload_n 0, 1) := by decide +kernel
theorem dX6_price_1 : decode cX6_price 1 = .ok (.iconst 0, 1) := by decide +kernel
theorem dX6_price_2 : decode cX6_price 2 = .ok (.putfield 80, 3) := by decide +kernel
theorem dX6_price_5 : decode cX6_price 5 = .ok (.aload_n 0, 1) := by decide +kernel
theorem dX6_price_6 : decode cX6_price 6 = .ok (.iload_n 1, 1) := by decide +kernel
theorem dX6_price_7 : decode cX6_price 7 = .ok (.ifCond .eq 8, 3) := by decide +kernel
theorem dX6_price_10 : decode cX6_price 10 = .ok (.iload_n 1, 1) := by decide +kernel
theorem dX6_price_11 : decode cX6_price 11 = .ok (.iconst 1, 1) := by decide +kernel
theorem dX6_price_12 : decode cX6_price 12 = .ok (.if_icmp .ne 17, 3) := by decide +kernel
theorem dX6_price_15 : decode cX6_price 15 = .ok (.iload_n 2, 1) := by decide +kernel
theorem dX6_price_16 : decode cX6_price 16 = .ok (.ifCond .lt 13, 3) := by decide +kernel
theorem dX6_price_19 : decode cX6_price 19 = .ok (.iload_n 2, 1) := by decide +kernel
theorem dX6_price_20 : decode cX6_price 20 = .ok (.bipush 99, 2) := by decide +kernel
theorem dX6_price_22 : decode cX6_price 22 = .ok (.if_icmp .gt 7, 3) := by decide +kernel
theorem dX6_price_25 : decode cX6_price 25 = .ok (.iconst 1, 1) := by decide +kernel
theorem dX6_price_26 : decode cX6_price 26 = .ok (.goto 4, 3) := by decide +kernel
theorem dX6_price_29 : decode cX6_price 29 = .ok (.iconst 0, 1) := by decide +kernel
theorem dX6_price_30 : decode cX6_price 30 = .ok (.iconst 1, 1) := by decide +kernel
theorem dX6_price_31 : decode cX6_price 31 = .ok (.invokevirtual 87, 3) := by decide +kernel
theorem dX6_price_34 : decode cX6_price 34 = .ok (.ifCond .ne 5, 3) := by decide +kernel
theorem dX6_price_37 : decode cX6_price 37 = .ok (.iconst 0, 1) := by decide +kernel
theorem dX6_price_38 : decode cX6_price 38 = .ok (.ireturn, 1) := by decide +kernel
theorem dX6_price_39 : decode cX6_price 39 = .ok (.aload_n 0, 1) := by decide +kernel
theorem dX6_price_40 : decode cX6_price 40 = .ok (.getfield 37, 3) := by decide +kernel
theorem dX6_price_43 : decode cX6_price 43 = .ok (.iload_n 1, 1) := by decide +kernel
theorem dX6_price_44 : decode cX6_price 44 = .ok (.iaload, 1) := by decide +kernel
theorem dX6_price_45 : decode cX6_price 45 = .ok (.istore_n 3, 1) := by decide +kernel
theorem dX6_price_46 : decode cX6_price 46 = .ok (.aload_n 0, 1) := by decide +kernel
theorem dX6_price_47 : decode cX6_price 47 = .ok (.getfield 37, 3) := by decide +kernel
theorem dX6_price_50 : decode cX6_price 50 = .ok (.iload_n 1, 1) := by decide +kernel
theorem dX6_price_51 : decode cX6_price 51 = .ok (.iload_n 2, 1) := by decide +kernel
theorem dX6_price_52 : decode cX6_price 52 = .ok (.iastore, 1) := by decide +kernel
theorem dX6_price_53 : decode cX6_price 53 = .ok (.aload_n 0, 1) := by decide +kernel
theorem dX6_price_54 : decode cX6_price 54 = .ok (.invokevirtual 91, 3) := by decide +kernel
theorem dX6_price_57 : decode cX6_price 57 = .ok (.iload_n 3, 1) := by decide +kernel
theorem dX6_price_58 : decode cX6_price 58 = .ok (.ireturn, 1) := by decide +kernel
theorem dX6_reckons_0 : decode cX6_reckons 0 = .ok (.iconst 0, 1) := by decide +kernel
theorem dX6_reckons_1 : decode cX6_reckons 1 = .ok (.istore_n 3, 1) := by decide +kernel
theorem dX6_reckons_2 : decode cX6_reckons 2 = .ok (.iload_n 3, 1) := by decide +kernel
theorem dX6_reckons_3 : decode cX6_reckons 3 = .ok (.aload_n 0, 1) := by decide +kernel
theorem dX6_reckons_4 : decode cX6_reckons 4 = .ok (.getfield 84, 3) := by decide +kernel
theorem dX6_reckons_7 : decode cX6_reckons 7 = .ok (.if_icmp .ge 38, 3) := by decide +kernel
theorem dX6_reckons_10 : decode cX6_reckons 10 = .ok (.aload_n 0, 1) := by decide +kernel
theorem dX6_reckons_11 : decode cX6_reckons 11 = .ok (.getfield 69, 3) := by decide +kernel
theorem dX6_reckons_14 : decode cX6_reckons 14 = .ok (.iload_n 3, 1) := by decide +kernel
theorem dX6_reckons_15 : decode cX6_reckons 15 = .ok (.aload_n 0, 1) := by decide +kernel
theorem dX6_reckons_16 : decode cX6_reckons 16 = .ok (.iload_n 3, 1) := by decide +kernel
theorem dX6_reckons_17 : decode cX6_reckons 17 = .ok (.iload_n 1, 1) := by decide +kernel
theorem dX6_reckons_18 : decode cX6_reckons 18 = .ok (.invokevirtual 104, 3) := by decide +kernel
theorem dX6_reckons_21 : decode cX6_reckons 21 = .ok (.ifCond .eq 7, 3) := by decide +kernel
theorem dX6_reckons_24 : decode cX6_reckons 24 = .ok (.lconst 0, 1) := by decide +kernel
theorem dX6_reckons_25 : decode cX6_reckons 25 = .ok (.goto 6, 3) := by decide +kernel
theorem dX6_reckons_28 : decode cX6_reckons 28 = .ok (.ldc2_w 108, 3) := by decide +kernel
theorem dX6_reckons_31 : decode cX6_reckons 31 = .ok (.lastore, 1) := by decide +kernel
theorem dX6_reckons_32 : decode cX6_reckons 32 = .ok (.aload_n 0, 1) := by decide +kernel
theorem dX6_reckons_33 : decode cX6_reckons 33 = .ok (.getfield 72, 3) := by decide +kernel
theorem dX6_reckons_36 : decode cX6_reckons 36 = .ok (.iload_n 3, 1) := by decide +kernel
theorem dX6_reckons_37 : decode cX6_reckons 37 = .ok (.iconst 0, 1) := by decide +kernel
theorem dX6_reckons_38 : decode cX6_reckons 38 = .ok (.iastore, 1) := by decide +kernel
theorem dX6_reckons_39 : decode cX6_reckons 39 = .ok (.iinc 3 1, 3) := by decide +kernel
theorem dX6_reckons_42 : decode cX6_reckons 42 = .ok (.goto (-40), 3) := by decide +kernel
theorem dX6_reckons_45 : decode cX6_reckons 45 = .ok (.iconst 1, 1) := by decide +kernel
theorem dX6_reckons_46 : decode cX6_reckons 46 = .ok (.istore_n 3, 1) := by decide +kernel
theorem dX6_reckons_47 : decode cX6_reckons 47 = .ok (.iload_n 3, 1) := by decide +kernel
theorem dX6_reckons_48 : decode cX6_reckons 48 = .ok (.ifCond .eq 200, 3) := by decide +kernel
theorem dX6_reckons_51 : decode cX6_reckons 51 = .ok (.iconst 0, 1) := by decide +kernel
theorem dX6_reckons_52 : decode cX6_reckons 52 = .ok (.istore_n 3, 1) := by decide +kernel
theorem dX6_reckons_53 : decode cX6_reckons 53 = .ok (.iconst 0, 1) := by decide +kernel
theorem dX6_reckons_54 : decode cX6_reckons 54 = .ok (.istore 4, 2) := by decide +kernel
theorem dX6_reckons_56 : decode cX6_reckons 56 = .ok (.iload 4, 2) := by decide +kernel
theorem dX6_reckons_58 : decode cX6_reckons 58 = .ok (.aload_n 0, 1) := by decide +kernel
theorem dX6_reckons_59 : decode cX6_reckons 59 = .ok (.getfield 98, 3) := by decide +kernel
theorem dX6_reckons_62 : decode cX6_reckons 62 = .ok (.if_icmp .ge 183, 3) := by decide +kernel
theorem dX6_reckons_65 : decode cX6_reckons 65 = .ok (.aload_n 0, 1) := by decide +kernel
theorem dX6_reckons_66 : decode cX6_reckons 66 = .ok (.getfield 25, 3) := by decide +kernel
theorem dX6_reckons_69 : decode cX6_reckons 69 = .ok (.iload 4, 2) := by decide +kernel
theorem dX6_reckons_71 : decode cX6_reckons 71 = .ok (.iaload, 1) := by decide +kernel
theorem dX6_reckons_72 : decode cX6_reckons 72 = .ok (.istore 5, 2) := by decide +kernel
theorem dX6_reckons_74 : decode cX6_reckons 74 = .ok (.aload_n 0, 1) := by decide +kernel
theorem dX6_reckons_75 : decode cX6_reckons 75 = .ok (.getfield 69, 3) := by decide +kernel
theorem dX6_reckons_78 : decode cX6_reckons 78 = .ok (.aload_n 0, 1) := by decide +kernel
theorem dX6_reckons_79 : decode cX6_reckons 79 = .ok (.getfield 31, 3) := by decide +kernel
theorem dX6_reckons_82 : decode cX6_reckons 82 = .ok (.iload 4, 2) := by decide +kernel
theorem dX6_reckons_84 : decode cX6_reckons 84 = .ok (.iaload, 1) := by decide +kernel
theorem dX6_reckons_85 : decode cX6_reckons 85 = .ok (.laload, 1) := by decide +kernel
theorem dX6_reckons_86 : decode cX6_reckons 86 = .ok (.ldc2_w 108, 3) := by decide +kernel
theorem dX6_reckons_89 : decode cX6_reckons 89 = .ok (.lcmp, 1) := by decide +kernel
theorem dX6_reckons_90 : decode cX6_reckons 90 = .ok (.ifCond .lt 6, 3) := by decide +kernel
theorem dX6_reckons_93 : decode cX6_reckons 93 = .ok (.goto 146, 3) := by decide +kernel
theorem dX6_reckons_96 : decode cX6_reckons 96 = .ok (.aload_n 0, 1) := by decide +kernel
theorem dX6_reckons_97 : decode cX6_reckons 97 = .ok (.getfield 28, 3) := by decide +kernel
theorem dX6_reckons_100 : decode cX6_reckons 100 = .ok (.iload 4, 2) := by decide +kernel
theorem dX6_reckons_102 : decode cX6_reckons 102 = .ok (.iaload, 1) := by decide +kernel
theorem dX6_reckons_103 : decode cX6_reckons 103 = .ok (.i2l, 1) := by decide +kernel
theorem dX6_reckons_104 : decode cX6_reckons 104 = .ok (.aload_n 0, 1) := by decide +kernel
theorem dX6_reckons_105 : decode cX6_reckons 105 = .ok (.getfield 16, 3) := by decide +kernel
theorem dX6_reckons_108 : decode cX6_reckons 108 = .ok (.iload 5, 2) := by decide +kernel
theorem dX6_reckons_110 : decode cX6_reckons 110 = .ok (.iaload, 1) := by decide +kernel
theorem dX6_reckons_111 : decode cX6_reckons 111 = .ok (.i2l, 1) := by decide +kernel
theorem dX6_reckons_112 : decode cX6_reckons 112 = .ok (.lmul, 1) := by decide +kernel
theorem dX6_reckons_113 : decode cX6_reckons 113 = .ok (.lstore 6, 2) := by decide +kernel
theorem dX6_reckons_115 : decode cX6_reckons 115 = .ok (.aload_n 0, 1) := by decide +kernel
theorem dX6_reckons_116 : decode cX6_reckons 116 = .ok (.getfield 69, 3) := by decide +kernel
theorem dX6_reckons_119 : decode cX6_reckons 119 = .ok (.aload_n 0, 1) := by decide +kernel
theorem dX6_reckons_120 : decode cX6_reckons 120 = .ok (.getfield 31, 3) := by decide +kernel
theorem dX6_reckons_123 : decode cX6_reckons 123 = .ok (.iload 4, 2) := by decide +kernel
theorem dX6_reckons_125 : decode cX6_reckons 125 = .ok (.iaload, 1) := by decide +kernel
theorem dX6_reckons_126 : decode cX6_reckons 126 = .ok (.laload, 1) := by decide +kernel
theorem dX6_reckons_127 : decode cX6_reckons 127 = .ok (.iload_n 2, 1) := by decide +kernel
theorem dX6_reckons_128 : decode cX6_reckons 128 = .ok (.ifCond .eq 8, 3) := by decide +kernel
theorem dX6_reckons_131 : decode cX6_reckons 131 = .ok (.lload 6, 2) := by decide +kernel
theorem dX6_reckons_133 : decode cX6_reckons 133 = .ok (.goto 26, 3) := by decide +kernel
theorem dX6_reckons_136 : decode cX6_reckons 136 = .ok (.ldc2_w 110, 3) := by decide +kernel
theorem dX6_reckons_139 : decode cX6_reckons 139 = .ok (.aload_n 0, 1) := by decide +kernel
theorem dX6_reckons_140 : decode cX6_reckons 140 = .ok (.getfield 34, 3) := by decide +kernel
theorem dX6_reckons_143 : decode cX6_reckons 143 = .ok (.iload 4, 2) := by decide +kernel
theorem dX6_reckons_145 : decode cX6_reckons 145 = .ok (.iaload, 1) := by decide +kernel
theorem dX6_reckons_146 : decode cX6_reckons 146 = .ok (.i2l, 1) := by decide +kernel
theorem dX6_reckons_147 : decode cX6_reckons 147 = .ok (.lmul, 1) := by decide +kernel
theorem dX6_reckons_148 : decode cX6_reckons 148 = .ok (.aload_n 0, 1) := by decide +kernel
theorem dX6_reckons_149 : decode cX6_reckons 149 = .ok (.getfield 37, 3) := by decide +kernel
theorem dX6_reckons_152 : decode cX6_reckons 152 = .ok (.iconst 1, 1) := by decide +kernel
theorem dX6_reckons_153 : decode cX6_reckons 153 = .ok (.iaload, 1) := by decide +kernel
theorem dX6_reckons_154 : decode cX6_reckons 154 = .ok (.i2l, 1) := by decide +kernel
theorem dX6_reckons_155 : decode cX6_reckons 155 = .ok (.lload 6, 2) := by decide +kernel
theorem dX6_reckons_157 : decode cX6_reckons 157 = .ok (.lmul, 1) := by decide +kernel
theorem dX6_reckons_158 : decode cX6_reckons 158 = .ok (.ladd, 1) := by decide +kernel
theorem dX6_reckons_159 : decode cX6_reckons 159 = .ok (.ladd, 1) := by decide +kernel
theorem dX6_reckons_160 : decode cX6_reckons 160 = .ok (.lstore 8, 2) := by decide +kernel
theorem dX6_reckons_162 : decode cX6_reckons 162 = .ok (.aload_n 0, 1) := by decide +kernel
theorem dX6_reckons_163 : decode cX6_reckons 163 = .ok (.getfield 72, 3) := by decide +kernel
theorem dX6_reckons_166 : decode cX6_reckons 166 = .ok (.aload_n 0, 1) := by decide +kernel
theorem dX6_reckons_167 : decode cX6_reckons 167 = .ok (.getfield 31, 3) := by decide +kernel
theorem dX6_reckons_170 : decode cX6_reckons 170 = .ok (.iload 4, 2) := by decide +kernel
theorem dX6_reckons_172 : decode cX6_reckons 172 = .ok (.iaload, 1) := by decide +kernel
theorem dX6_reckons_173 : decode cX6_reckons 173 = .ok (.iaload, 1) := by decide +kernel
theorem dX6_reckons_174 : decode cX6_reckons 174 = .ok (.iconst 1, 1) := by decide +kernel
theorem dX6_reckons_175 : decode cX6_reckons 175 = .ok (.iadd, 1) := by decide +kernel
theorem dX6_reckons_176 : decode cX6_reckons 176 = .ok (.istore 10, 2) := by decide +kernel
theorem dX6_reckons_178 : decode cX6_reckons 178 = .ok (.lload 8, 2) := by decide +kernel
theorem dX6_reckons_180 : decode cX6_reckons 180 = .ok (.aload_n 0, 1) := by decide +kernel
theorem dX6_reckons_181 : decode cX6_reckons 181 = .ok (.getfield 69, 3) := by decide +kernel
theorem dX6_reckons_184 : decode cX6_reckons 184 = .ok (.iload 5, 2) := by decide +kernel
theorem dX6_reckons_186 : decode cX6_reckons 186 = .ok (.laload, 1) := by decide +kernel
theorem dX6_reckons_187 : decode cX6_reckons 187 = .ok (.lcmp, 1) := by decide +kernel
theorem dX6_reckons_188 : decode cX6_reckons 188 = .ok (.ifCond .gt 51, 3) := by decide +kernel
theorem dX6_reckons_191 : decode cX6_reckons 191 = .ok (.lload 8, 2) := by decide +kernel
theorem dX6_reckons_193 : decode cX6_reckons 193 = .ok (.aload_n 0, 1) := by decide +kernel
theorem dX6_reckons_194 : decode cX6_reckons 194 = .ok (.getfield 69, 3) := by decide +kernel
theorem dX6_reckons_197 : decode cX6_reckons 197 = .ok (.iload 5, 2) := by decide +kernel
theorem dX6_reckons_199 : decode cX6_reckons 199 = .ok (.laload, 1) := by decide +kernel
theorem dX6_reckons_200 : decode cX6_reckons 200 = .ok (.lcmp, 1) := by decide +kernel
theorem dX6_reckons_201 : decode cX6_reckons 201 = .ok (.ifCond .ne 18, 3) := by decide +kernel
theorem dX6_reckons_204 : decode cX6_reckons 204 = .ok (.iload 10, 2) := by decide +kernel
theorem dX6_reckons_206 : decode cX6_reckons 206 = .ok (.aload_n 0, 1) := by decide +kernel
theorem dX6_reckons_207 : decode cX6_reckons 207 = .ok (.getfield 72, 3) := by decide +kernel
theorem dX6_reckons_210 : decode cX6_reckons 210 = .ok (.iload 5, 2) := by decide +kernel
theorem dX6_reckons_212 : decode cX6_reckons 212 = .ok (.iaload, 1) := by decide +kernel
theorem dX6_reckons_213 : decode cX6_reckons 213 = .ok (.if_icmp .lt 6, 3) := by decide +kernel
theorem dX6_reckons_216 : decode cX6_reckons 216 = .ok (.goto 23, 3) := by decide +kernel
theorem dX6_reckons_219 : decode cX6_reckons 219 = .ok (.aload_n 0, 1) := by decide +kernel
theorem dX6_reckons_220 : decode cX6_reckons 220 = .ok (.getfield 69, 3) := by decide +kernel
theorem dX6_reckons_223 : decode cX6_reckons 223 = .ok (.iload 5, 2) := by decide +kernel
theorem dX6_reckons_225 : decode cX6_reckons 225 = .ok (.lload 8, 2) := by decide +kernel
theorem dX6_reckons_227 : decode cX6_reckons 227 = .ok (.lastore, 1) := by decide +kernel
theorem dX6_reckons_228 : decode cX6_reckons 228 = .ok (.aload_n 0, 1) := by decide +kernel
theorem dX6_reckons_229 : decode cX6_reckons 229 = .ok (.getfield 72, 3) := by decide +kernel
theorem dX6_reckons_232 : decode cX6_reckons 232 = .ok (.iload 5, 2) := by decide +kernel
theorem dX6_reckons_234 : decode cX6_reckons 234 = .ok (.iload 10, 2) := by decide +kernel
theorem dX6_reckons_236 : decode cX6_reckons 236 = .ok (.iastore, 1) := by decide +kernel
theorem dX6_reckons_237 : decode cX6_reckons 237 = .ok (.iconst 1, 1) := by decide +kernel
theorem dX6_reckons_238 : decode cX6_reckons 238 = .ok (.istore_n 3, 1) := by decide +kernel
theorem dX6_reckons_239 : decode cX6_reckons 239 = .ok (.iinc 4 1, 3) := by decide +kernel
theorem dX6_reckons_242 : decode cX6_reckons 242 = .ok (.goto (-186), 3) := by decide +kernel
theorem dX6_reckons_245 : decode cX6_reckons 245 = .ok (.goto (-198), 3) := by decide +kernel
theorem dX6_reckons_248 : decode cX6_reckons 248 = .ok (.return_, 1) := by decide +kernel
theorem dX6_until_0 : decode cX6_until 0 = .ok (.iload 4, 2) := by decide +kernel
theorem dX6_until_2 : decode cX6_until 2 = .ok (.iload_n 2, 1) := by decide +kernel
theorem dX6_until_3 : decode cX6_until 3 = .ok (.isub, 1) := by decide +kernel
theorem dX6_until_4 : decode cX6_until 4 = .ok (.i2l, 1) := by decide +kernel
theorem dX6_until_5 : decode cX6_until 5 = .ok (.aload_n 0, 1) := by decide +kernel
theorem dX6_until_6 : decode cX6_until 6 = .ok (.getfield 16, 3) := by decide +kernel
theorem dX6_until_9 : decode cX6_until 9 = .ok (.iload_n 1, 1) := by decide +kernel
theorem dX6_until_10 : decode cX6_until 10 = .ok (.iaload, 1) := by decide +kernel
theorem dX6_until_11 : decode cX6_until 11 = .ok (.i2l, 1) := by decide +kernel
theorem dX6_until_12 : decode cX6_until 12 = .ok (.lmul, 1) := by decide +kernel
theorem dX6_until_13 : decode cX6_until 13 = .ok (.iload_n 3, 1) := by decide +kernel
theorem dX6_until_14 : decode cX6_until 14 = .ok (.i2l, 1) := by decide +kernel
theorem dX6_until_15 : decode cX6_until 15 = .ok (.lsub, 1) := by decide +kernel
theorem dX6_until_16 : decode cX6_until 16 = .ok (.lreturn, 1) := by decide +kernel
theorem dX6_stepCost_0 : decode cX6_stepCost 0 = .ok (.iload_n 1, 1) := by decide +kernel
theorem dX6_stepCost_1 : decode cX6_stepCost 1 = .ok (.bipush 100, 2) := by decide +kernel
theorem dX6_stepCost_3 : decode cX6_stepCost 3 = .ok (.if_icmp .ne 38, 3) := by decide +kernel
theorem dX6_stepCost_6 : decode cX6_stepCost 6 = .ok (.ldc2_w 110, 3) := by decide +kernel
theorem dX6_stepCost_9 : decode cX6_stepCost 9 = .ok (.aload_n 0, 1) := by decide +kernel
theorem dX6_stepCost_10 : decode cX6_stepCost 10 = .ok (.getfield 37, 3) := by decide +kernel
theorem dX6_stepCost_13 : decode cX6_stepCost 13 = .ok (.iconst 0, 1) := by decide +kernel
theorem dX6_stepCost_14 : decode cX6_stepCost 14 = .ok (.iaload, 1) := by decide +kernel
theorem dX6_stepCost_15 : decode cX6_stepCost 15 = .ok (.i2l, 1) := by decide +kernel
theorem dX6_stepCost_16 : decode cX6_stepCost 16 = .ok (.lmul, 1) := by decide +kernel
theorem dX6_stepCost_17 : decode cX6_stepCost 17 = .ok (.aload_n 0, 1) := by decide +kernel
theorem dX6_stepCost_18 : decode cX6_stepCost 18 = .ok (.getfield 37, 3) := by decide +kernel
theorem dX6_stepCost_21 : decode cX6_stepCost 21 = .ok (.iconst 1, 1) := by decide +kernel
theorem dX6_stepCost_22 : decode cX6_stepCost 22 = .ok (.iaload, 1) := by decide +kernel
theorem dX6_stepCost_23 : decode cX6_stepCost 23 = .ok (.i2l, 1) := by decide +kernel
theorem dX6_stepCost_24 : decode cX6_stepCost 24 = .ok (.aload_n 0, 1) := by decide +kernel
theorem dX6_stepCost_25 : decode cX6_stepCost 25 = .ok (.iload_n 2, 1) := by decide +kernel
theorem dX6_stepCost_26 : decode cX6_stepCost 26 = .ok (.iload_n 3, 1) := by decide +kernel
theorem dX6_stepCost_27 : decode cX6_stepCost 27 = .ok (.iload 4, 2) := by decide +kernel
theorem dX6_stepCost_29 : decode cX6_stepCost 29 = .ok (.aload_n 0, 1) := by decide +kernel
theorem dX6_stepCost_30 : decode cX6_stepCost 30 = .ok (.getfield 13, 3) := by decide +kernel
theorem dX6_stepCost_33 : decode cX6_stepCost 33 = .ok (.iload_n 2, 1) := by decide +kernel
theorem dX6_stepCost_34 : decode cX6_stepCost 34 = .ok (.iaload, 1) := by decide +kernel
theorem dX6_stepCost_35 : decode cX6_stepCost 35 = .ok (.invokevirtual 112, 3) := by decide +kernel
theorem dX6_stepCost_38 : decode cX6_stepCost 38 = .ok (.lmul, 1) := by decide +kernel
theorem dX6_stepCost_39 : decode cX6_stepCost 39 = .ok (.ladd, 1) := by decide +kernel
theorem dX6_stepCost_40 : decode cX6_stepCost 40 = .ok (.lreturn, 1) := by decide +kernel
theorem dX6_stepCost_41 : decode cX6_stepCost 41 = .ok (.ldc2_w 110, 3) := by decide +kernel
theorem dX6_stepCost_44 : decode cX6_stepCost 44 = .ok (.aload_n 0, 1) := by decide +kernel
theorem dX6_stepCost_45 : decode cX6_stepCost 45 = .ok (.getfield 34, 3) := by decide +kernel
theorem dX6_stepCost_48 : decode cX6_stepCost 48 = .ok (.iload_n 1, 1) := by decide +kernel
theorem dX6_stepCost_49 : decode cX6_stepCost 49 = .ok (.iaload, 1) := by decide +kernel
theorem dX6_stepCost_50 : decode cX6_stepCost 50 = .ok (.i2l, 1) := by decide +kernel
theorem dX6_stepCost_51 : decode cX6_stepCost 51 = .ok (.lmul, 1) := by decide +kernel
theorem dX6_stepCost_52 : decode cX6_stepCost 52 = .ok (.aload_n 0, 1) := by decide +kernel
theorem dX6_stepCost_53 : decode cX6_stepCost 53 = .ok (.getfield 37, 3) := by decide +kernel
theorem dX6_stepCost_56 : decode cX6_stepCost 56 = .ok (.iconst 1, 1) := by decide +kernel
theorem dX6_stepCost_57 : decode cX6_stepCost 57 = .ok (.iaload, 1) := by decide +kernel
theorem dX6_stepCost_58 : decode cX6_stepCost 58 = .ok (.i2l, 1) := by decide +kernel
theorem dX6_stepCost_59 : decode cX6_stepCost 59 = .ok (.aload_n 0, 1) := by decide +kernel
theorem dX6_stepCost_60 : decode cX6_stepCost 60 = .ok (.iload_n 2, 1) := by decide +kernel
theorem dX6_stepCost_61 : decode cX6_stepCost 61 = .ok (.iload_n 3, 1) := by decide +kernel
theorem dX6_stepCost_62 : decode cX6_stepCost 62 = .ok (.iload 4, 2) := by decide +kernel
theorem dX6_stepCost_64 : decode cX6_stepCost 64 = .ok (.aload_n 0, 1) := by decide +kernel
theorem dX6_stepCost_65 : decode cX6_stepCost 65 = .ok (.getfield 28, 3) := by decide +kernel
theorem dX6_stepCost_68 : decode cX6_stepCost 68 = .ok (.iload_n 1, 1) := by decide +kernel
theorem dX6_stepCost_69 : decode cX6_stepCost 69 = .ok (.iaload, 1) := by decide +kernel
theorem dX6_stepCost_70 : decode cX6_stepCost 70 = .ok (.invokevirtual 112, 3) := by decide +kernel
theorem dX6_stepCost_73 : decode cX6_stepCost 73 = .ok (.lmul, 1) := by decide +kernel
theorem dX6_stepCost_74 : decode cX6_stepCost 74 = .ok (.ladd, 1) := by decide +kernel
theorem dX6_stepCost_75 : decode cX6_stepCost 75 = .ok (.lreturn, 1) := by decide +kernel
theorem dX6_isStep_0 : decode cX6_isStep 0 = .ok (.iload_n 1, 1) := by decide +kernel
theorem dX6_isStep_1 : decode cX6_isStep 1 = .ok (.bipush 100, 2) := by decide +kernel
theorem dX6_isStep_3 : decode cX6_isStep 3 = .ok (.if_icmp .ne 18, 3) := by decide +kernel
theorem dX6_isStep_6 : decode cX6_isStep 6 = .ok (.aload_n 0, 1) := by decide +kernel
theorem dX6_isStep_7 : decode cX6_isStep 7 = .ok (.getfield 7, 3) := by decide +kernel
theorem dX6_isStep_10 : decode cX6_isStep 10 = .ok (.iload_n 2, 1) := by decide +kernel
theorem dX6_isStep_11 : decode cX6_isStep 11 = .ok (.iaload, 1) := by decide +kernel
theorem dX6_isStep_12 : decode cX6_isStep 12 = .ok (.ifCond .ne 7, 3) := by decide +kernel
theorem dX6_isStep_15 : decode cX6_isStep 15 = .ok (.iconst 1, 1) := by decide +kernel
theorem dX6_isStep_16 : decode cX6_isStep 16 = .ok (.goto 4, 3) := by decide +kernel
theorem dX6_isStep_19 : decode cX6_isStep 19 = .ok (.iconst 0, 1) := by decide +kernel
theorem dX6_isStep_20 : decode cX6_isStep 20 = .ok (.ireturn, 1) := by decide +kernel
theorem dX6_isStep_21 : decode cX6_isStep 21 = .ok (.iload_n 1, 1) := by decide +kernel
theorem dX6_isStep_22 : decode cX6_isStep 22 = .ok (.aload_n 0, 1) := by decide +kernel
theorem dX6_isStep_23 : decode cX6_isStep 23 = .ok (.getfield 98, 3) := by decide +kernel
theorem dX6_isStep_26 : decode cX6_isStep 26 = .ok (.if_icmp .ge 27, 3) := by decide +kernel
theorem dX6_isStep_29 : decode cX6_isStep 29 = .ok (.aload_n 0, 1) := by decide +kernel
theorem dX6_isStep_30 : decode cX6_isStep 30 = .ok (.getfield 25, 3) := by decide +kernel
theorem dX6_isStep_33 : decode cX6_isStep 33 = .ok (.iload_n 1, 1) := by decide +kernel
theorem dX6_isStep_34 : decode cX6_isStep 34 = .ok (.iaload, 1) := by decide +kernel
theorem dX6_isStep_35 : decode cX6_isStep 35 = .ok (.iload_n 2, 1) := by decide +kernel
theorem dX6_isStep_36 : decode cX6_isStep 36 = .ok (.if_icmp .ne 17, 3) := by decide +kernel
theorem dX6_isStep_39 : decode cX6_isStep 39 = .ok (.aload_n 0, 1) := by decide +kernel
theorem dX6_isStep_40 : decode cX6_isStep 40 = .ok (.getfield 28, 3) := by decide +kernel
theorem dX6_isStep_43 : decode cX6_isStep 43 = .ok (.iload_n 1, 1) := by decide +kernel
theorem dX6_isStep_44 : decode cX6_isStep 44 = .ok (.iaload, 1) := by decide +kernel
theorem dX6_isStep_45 : decode cX6_isStep 45 = .ok (.iload_n 3, 1) := by decide +kernel
theorem dX6_isStep_46 : decode cX6_isStep 46 = .ok (.if_icmp .le 7, 3) := by decide +kernel
theorem dX6_isStep_49 : decode cX6_isStep 49 = .ok (.iconst 1, 1) := by decide +kernel
theorem dX6_isStep_50 : decode cX6_isStep 50 = .ok (.goto 4, 3) := by decide +kernel
theorem dX6_isStep_53 : decode cX6_isStep 53 = .ok (.iconst 0, 1) := by decide +kernel
theorem dX6_isStep_54 : decode cX6_isStep 54 = .ok (.ireturn, 1) := by decide +kernel
theorem dX6_leads_0 : decode cX6_leads 0 = .ok (.iload_n 1, 1) := by decide +kernel
theorem dX6_leads_1 : decode cX6_leads 1 = .ok (.bipush 100, 2) := by decide +kernel
theorem dX6_leads_3 : decode cX6_leads 3 = .ok (.if_icmp .ne 7, 3) := by decide +kernel
theorem dX6_leads_6 : decode cX6_leads 6 = .ok (.iload_n 2, 1) := by decide +kernel
theorem dX6_leads_7 : decode cX6_leads 7 = .ok (.goto 9, 3) := by decide +kernel
theorem dX6_leads_10 : decode cX6_leads 10 = .ok (.aload_n 0, 1) := by decide +kernel
theorem dX6_leads_11 : decode cX6_leads 11 = .ok (.getfield 31, 3) := by decide +kernel
theorem dX6_leads_14 : decode cX6_leads 14 = .ok (.iload_n 1, 1) := by decide +kernel
theorem dX6_leads_15 : decode cX6_leads 15 = .ok (.iaload, 1) := by decide +kernel
theorem dX6_leads_16 : decode cX6_leads 16 = .ok (.ireturn, 1) := by decide +kernel
theorem dX6_finds_0 : decode cX6_finds 0 = .ok (.aload_n 0, 1) := by decide +kernel
theorem dX6_finds_1 : decode cX6_finds 1 = .ok (.iconst 0, 1) := by decide +kernel
theorem dX6_finds_2 : decode cX6_finds 2 = .ok (.putfield 116, 3) := by decide +kernel
theorem dX6_finds_5 : decode cX6_finds 5 = .ok (.aload_n 0, 1) := by decide +kernel
theorem dX6_finds_6 : decode cX6_finds 6 = .ok (.iconst 0, 1) := by decide +kernel
theorem dX6_finds_7 : decode cX6_finds 7 = .ok (.putfield 120, 3) := by decide +kernel
theorem dX6_finds_10 : decode cX6_finds 10 = .ok (.aload_n 0, 1) := by decide +kernel
theorem dX6_finds_11 : decode cX6_finds 11 = .ok (.iconst 0, 1) := by decide +kernel
theorem dX6_finds_12 : decode cX6_finds 12 = .ok (.putfield 123, 3) := by decide +kernel
theorem dX6_finds_15 : decode cX6_finds 15 = .ok (.aload_n 0, 1) := by decide +kernel
theorem dX6_finds_16 : decode cX6_finds 16 = .ok (.iconst 4, 1) := by decide +kernel
theorem dX6_finds_17 : decode cX6_finds 17 = .ok (.invokevirtual 126, 3) := by decide +kernel
theorem dX6_finds_20 : decode cX6_finds 20 = .ok (.iconst (-1), 1) := by decide +kernel
theorem dX6_finds_21 : decode cX6_finds 21 = .ok (.if_icmp .eq 12, 3) := by decide +kernel
theorem dX6_finds_24 : decode cX6_finds 24 = .ok (.aload_n 0, 1) := by decide +kernel
theorem dX6_finds_25 : decode cX6_finds 25 = .ok (.iconst 0, 1) := by decide +kernel
theorem dX6_finds_26 : decode cX6_finds 26 = .ok (.invokevirtual 126, 3) := by decide +kernel
theorem dX6_finds_29 : decode cX6_finds 29 = .ok (.iconst (-1), 1) := by decide +kernel
theorem dX6_finds_30 : decode cX6_finds 30 = .ok (.if_icmp .ne 4, 3) := by decide +kernel
theorem dX6_finds_33 : decode cX6_finds 33 = .ok (.return_, 1) := by decide +kernel
theorem dX6_finds_34 : decode cX6_finds 34 = .ok (.aload_n 0, 1) := by decide +kernel
theorem dX6_finds_35 : decode cX6_finds 35 = .ok (.aload_n 0, 1) := by decide +kernel
theorem dX6_finds_36 : decode cX6_finds 36 = .ok (.iconst 4, 1) := by decide +kernel
theorem dX6_finds_37 : decode cX6_finds 37 = .ok (.invokevirtual 126, 3) := by decide +kernel
theorem dX6_finds_40 : decode cX6_finds 40 = .ok (.iconst 0, 1) := by decide +kernel
theorem dX6_finds_41 : decode cX6_finds 41 = .ok (.invokevirtual 130, 3) := by decide +kernel
theorem dX6_finds_44 : decode cX6_finds 44 = .ok (.aload_n 0, 1) := by decide +kernel
theorem dX6_finds_45 : decode cX6_finds 45 = .ok (.iconst 0, 1) := by decide +kernel
theorem dX6_finds_46 : decode cX6_finds 46 = .ok (.invokevirtual 126, 3) := by decide +kernel
theorem dX6_finds_49 : decode cX6_finds 49 = .ok (.istore_n 1, 1) := by decide +kernel
theorem dX6_finds_50 : decode cX6_finds 50 = .ok (.aload_n 0, 1) := by decide +kernel
theorem dX6_finds_51 : decode cX6_finds 51 = .ok (.iconst 1, 1) := by decide +kernel
theorem dX6_finds_52 : decode cX6_finds 52 = .ok (.invokevirtual 126, 3) := by decide +kernel
theorem dX6_finds_55 : decode cX6_finds 55 = .ok (.istore_n 2, 1) := by decide +kernel
theorem dX6_finds_56 : decode cX6_finds 56 = .ok (.aload_n 0, 1) := by decide +kernel
theorem dX6_finds_57 : decode cX6_finds 57 = .ok (.iconst 3, 1) := by decide +kernel
theorem dX6_finds_58 : decode cX6_finds 58 = .ok (.invokevirtual 126, 3) := by decide +kernel
theorem dX6_finds_61 : decode cX6_finds 61 = .ok (.istore_n 3, 1) := by decide +kernel
theorem dX6_finds_62 : decode cX6_finds 62 = .ok (.ldc2_w 108, 3) := by decide +kernel
theorem dX6_finds_65 : decode cX6_finds 65 = .ok (.lstore 4, 2) := by decide +kernel
theorem dX6_finds_67 : decode cX6_finds 67 = .ok (.iconst 0, 1) := by decide +kernel
theorem dX6_finds_68 : decode cX6_finds 68 = .ok (.istore 6, 2) := by decide +kernel
theorem dX6_finds_70 : decode cX6_finds 70 = .ok (.iconst 0, 1) := by decide +kernel
theorem dX6_finds_71 : decode cX6_finds 71 = .ok (.istore 7, 2) := by decide +kernel
theorem dX6_finds_73 : decode cX6_finds 73 = .ok (.iload 7, 2) := by decide +kernel
theorem dX6_finds_75 : decode cX6_finds 75 = .ok (.bipush 100, 2) := by decide +kernel
theorem dX6_finds_77 : decode cX6_finds 77 = .ok (.if_icmp .gt 116, 3) := by decide +kernel
theorem dX6_finds_80 : decode cX6_finds 80 = .ok (.aload_n 0, 1) := by decide +kernel
theorem dX6_finds_81 : decode cX6_finds 81 = .ok (.iload 7, 2) := by decide +kernel
theorem dX6_finds_83 : decode cX6_finds 83 = .ok (.iload_n 1, 1) := by decide +kernel
theorem dX6_finds_84 : decode cX6_finds 84 = .ok (.iload_n 2, 1) := by decide +kernel
theorem dX6_finds_85 : decode cX6_finds 85 = .ok (.invokevirtual 134, 3) := by decide +kernel
theorem dX6_finds_88 : decode cX6_finds 88 = .ok (.ifCond .eq 99, 3) := by decide +kernel
theorem dX6_finds_91 : decode cX6_finds 91 = .ok (.aload_n 0, 1) := by decide +kernel
theorem dX6_finds_92 : decode cX6_finds 92 = .ok (.getfield 69, 3) := by decide +kernel
theorem dX6_finds_95 : decode cX6_finds 95 = .ok (.aload_n 0, 1) := by decide +kernel
theorem dX6_finds_96 : decode cX6_finds 96 = .ok (.iload 7, 2) := by decide +kernel
theorem dX6_finds_98 : decode cX6_finds 98 = .ok (.iload_n 1, 1) := by decide +kernel
theorem dX6_finds_99 : decode cX6_finds 99 = .ok (.invokevirtual 138, 3) := by decide +kernel
theorem dX6_finds_102 : decode cX6_finds 102 = .ok (.laload, 1) := by decide +kernel
theorem dX6_finds_103 : decode cX6_finds 103 = .ok (.ldc2_w 108, 3) := by decide +kernel
theorem dX6_finds_106 : decode cX6_finds 106 = .ok (.lcmp, 1) := by decide +kernel
theorem dX6_finds_107 : decode cX6_finds 107 = .ok (.ifCond .lt 6, 3) := by decide +kernel
theorem dX6_finds_110 : decode cX6_finds 110 = .ok (.goto 77, 3) := by decide +kernel
theorem dX6_finds_113 : decode cX6_finds 113 = .ok (.aload_n 0, 1) := by decide +kernel
theorem dX6_finds_114 : decode cX6_finds 114 = .ok (.iload 7, 2) := by decide +kernel
theorem dX6_finds_116 : decode cX6_finds 116 = .ok (.iload_n 1, 1) := by decide +kernel
theorem dX6_finds_117 : decode cX6_finds 117 = .ok (.iload_n 2, 1) := by decide +kernel
theorem dX6_finds_118 : decode cX6_finds 118 = .ok (.iload_n 3, 1) := by decide +kernel
theorem dX6_finds_119 : decode cX6_finds 119 = .ok (.invokevirtual 142, 3) := by decide +kernel
theorem dX6_finds_122 : decode cX6_finds 122 = .ok (.aload_n 0, 1) := by decide +kernel
theorem dX6_finds_123 : decode cX6_finds 123 = .ok (.getfield 69, 3) := by decide +kernel
theorem dX6_finds_126 : decode cX6_finds 126 = .ok (.aload_n 0, 1) := by decide +kernel
theorem dX6_finds_127 : decode cX6_finds 127 = .ok (.iload 7, 2) := by decide +kernel
theorem dX6_finds_129 : decode cX6_finds 129 = .ok (.iload_n 1, 1) := by decide +kernel
theorem dX6_finds_130 : decode cX6_finds 130 = .ok (.invokevirtual 138, 3) := by decide +kernel
theorem dX6_finds_133 : decode cX6_finds 133 = .ok (.laload, 1) := by decide +kernel
theorem dX6_finds_134 : decode cX6_finds 134 = .ok (.ladd, 1) := by decide +kernel
theorem dX6_finds_135 : decode cX6_finds 135 = .ok (.lstore 8, 2) := by decide +kernel
theorem dX6_finds_137 : decode cX6_finds 137 = .ok (.aload_n 0, 1) := by decide +kernel
theorem dX6_finds_138 : decode cX6_finds 138 = .ok (.getfield 72, 3) := by decide +kernel
theorem dX6_finds_141 : decode cX6_finds 141 = .ok (.aload_n 0, 1) := by decide +kernel
theorem dX6_finds_142 : decode cX6_finds 142 = .ok (.iload 7, 2) := by decide +kernel
theorem dX6_finds_144 : decode cX6_finds 144 = .ok (.iload_n 1, 1) := by decide +kernel
theorem dX6_finds_145 : decode cX6_finds 145 = .ok (.invokevirtual 138, 3) := by decide +kernel
theorem dX6_finds_148 : decode cX6_finds 148 = .ok (.iaload, 1) := by decide +kernel
theorem dX6_finds_149 : decode cX6_finds 149 = .ok (.iconst 1, 1) := by decide +kernel
theorem dX6_finds_150 : decode cX6_finds 150 = .ok (.iadd, 1) := by decide +kernel
theorem dX6_finds_151 : decode cX6_finds 151 = .ok (.istore 10, 2) := by decide +kernel
theorem dX6_finds_153 : decode cX6_finds 153 = .ok (.lload 8, 2) := by decide +kernel
theorem dX6_finds_155 : decode cX6_finds 155 = .ok (.lload 4, 2) := by decide +kernel
theorem dX6_finds_157 : decode cX6_finds 157 = .ok (.lcmp, 1) := by decide +kernel
theorem dX6_finds_158 : decode cX6_finds 158 = .ok (.ifCond .gt 29, 3) := by decide +kernel
theorem dX6_finds_161 : decode cX6_finds 161 = .ok (.lload 8, 2) := by decide +kernel
theorem dX6_finds_163 : decode cX6_finds 163 = .ok (.lload 4, 2) := by decide +kernel
theorem dX6_finds_165 : decode cX6_finds 165 = .ok (.lcmp, 1) := by decide +kernel
theorem dX6_finds_166 : decode cX6_finds 166 = .ok (.ifCond .ne 13, 3) := by decide +kernel
theorem dX6_finds_169 : decode cX6_finds 169 = .ok (.iload 10, 2) := by decide +kernel
theorem dX6_finds_171 : decode cX6_finds 171 = .ok (.iload 6, 2) := by decide +kernel
theorem dX6_finds_173 : decode cX6_finds 173 = .ok (.if_icmp .lt 6, 3) := by decide +kernel
theorem dX6_finds_176 : decode cX6_finds 176 = .ok (.goto 11, 3) := by decide +kernel
theorem dX6_finds_179 : decode cX6_finds 179 = .ok (.lload 8, 2) := by decide +kernel
theorem dX6_finds_181 : decode cX6_finds 181 = .ok (.lstore 4, 2) := by decide +kernel
theorem dX6_finds_183 : decode cX6_finds 183 = .ok (.iload 10, 2) := by decide +kernel
theorem dX6_finds_185 : decode cX6_finds 185 = .ok (.istore 6, 2) := by decide +kernel
theorem dX6_finds_187 : decode cX6_finds 187 = .ok (.iinc 7 1, 3) := by decide +kernel
theorem dX6_finds_190 : decode cX6_finds 190 = .ok (.goto (-117), 3) := by decide +kernel
theorem dX6_finds_193 : decode cX6_finds 193 = .ok (.lload 4, 2) := by decide +kernel
theorem dX6_finds_195 : decode cX6_finds 195 = .ok (.ldc2_w 108, 3) := by decide +kernel
theorem dX6_finds_198 : decode cX6_finds 198 = .ok (.lcmp, 1) := by decide +kernel
theorem dX6_finds_199 : decode cX6_finds 199 = .ok (.ifCond .lt 4, 3) := by decide +kernel
theorem dX6_finds_202 : decode cX6_finds 202 = .ok (.return_, 1) := by decide +kernel
theorem dX6_finds_203 : decode cX6_finds 203 = .ok (.aload_n 0, 1) := by decide +kernel
theorem dX6_finds_204 : decode cX6_finds 204 = .ok (.iconst 1, 1) := by decide +kernel
theorem dX6_finds_205 : decode cX6_finds 205 = .ok (.putfield 116, 3) := by decide +kernel
theorem dX6_finds_208 : decode cX6_finds 208 = .ok (.iload 6, 2) := by decide +kernel
theorem dX6_finds_210 : decode cX6_finds 210 = .ok (.ifCond .le 141, 3) := by decide +kernel
theorem dX6_finds_213 : decode cX6_finds 213 = .ok (.iconst 0, 1) := by decide +kernel
theorem dX6_finds_214 : decode cX6_finds 214 = .ok (.istore 7, 2) := by decide +kernel
theorem dX6_finds_216 : decode cX6_finds 216 = .ok (.aload_n 0, 1) := by decide +kernel
theorem dX6_finds_217 : decode cX6_finds 217 = .ok (.iload 7, 2) := by decide +kernel
theorem dX6_finds_219 : decode cX6_finds 219 = .ok (.iload_n 1, 1) := by decide +kernel
theorem dX6_finds_220 : decode cX6_finds 220 = .ok (.iload_n 2, 1) := by decide +kernel
theorem dX6_finds_221 : decode cX6_finds 221 = .ok (.invokevirtual 134, 3) := by decide +kernel
theorem dX6_finds_224 : decode cX6_finds 224 = .ok (.ifCond .eq 69, 3) := by decide +kernel
theorem dX6_finds_227 : decode cX6_finds 227 = .ok (.aload_n 0, 1) := by decide +kernel
theorem dX6_finds_228 : decode cX6_finds 228 = .ok (.getfield 69, 3) := by decide +kernel
theorem dX6_finds_231 : decode cX6_finds 231 = .ok (.aload_n 0, 1) := by decide +kernel
theorem dX6_finds_232 : decode cX6_finds 232 = .ok (.iload 7, 2) := by decide +kernel
theorem dX6_finds_234 : decode cX6_finds 234 = .ok (.iload_n 1, 1) := by decide +kernel
theorem dX6_finds_235 : decode cX6_finds 235 = .ok (.invokevirtual 138, 3) := by decide +kernel
theorem dX6_finds_238 : decode cX6_finds 238 = .ok (.laload, 1) := by decide +kernel
theorem dX6_finds_239 : decode cX6_finds 239 = .ok (.ldc2_w 108, 3) := by decide +kernel
theorem dX6_finds_242 : decode cX6_finds 242 = .ok (.lcmp, 1) := by decide +kernel
theorem dX6_finds_243 : decode cX6_finds 243 = .ok (.ifCond .ge 50, 3) := by decide +kernel
theorem dX6_finds_246 : decode cX6_finds 246 = .ok (.aload_n 0, 1) := by decide +kernel
theorem dX6_finds_247 : decode cX6_finds 247 = .ok (.getfield 72, 3) := by decide +kernel
theorem dX6_finds_250 : decode cX6_finds 250 = .ok (.aload_n 0, 1) := by decide +kernel
theorem dX6_finds_251 : decode cX6_finds 251 = .ok (.iload 7, 2) := by decide +kernel
theorem dX6_finds_253 : decode cX6_finds 253 = .ok (.iload_n 1, 1) := by decide +kernel
theorem dX6_finds_254 : decode cX6_finds 254 = .ok (.invokevirtual 138, 3) := by decide +kernel
theorem dX6_finds_257 : decode cX6_finds 257 = .ok (.iaload, 1) := by decide +kernel
theorem dX6_finds_258 : decode cX6_finds 258 = .ok (.iconst 1, 1) := by decide +kernel
theorem dX6_finds_259 : decode cX6_finds 259 = .ok (.iadd, 1) := by decide +kernel
theorem dX6_finds_260 : decode cX6_finds 260 = .ok (.iload 6, 2) := by decide +kernel
theorem dX6_finds_262 : decode cX6_finds 262 = .ok (.if_icmp .ne 31, 3) := by decide +kernel
theorem dX6_finds_265 : decode cX6_finds 265 = .ok (.aload_n 0, 1) := by decide +kernel
theorem dX6_finds_266 : decode cX6_finds 266 = .ok (.iload 7, 2) := by decide +kernel
theorem dX6_finds_268 : decode cX6_finds 268 = .ok (.iload_n 1, 1) := by decide +kernel
theorem dX6_finds_269 : decode cX6_finds 269 = .ok (.iload_n 2, 1) := by decide +kernel
theorem dX6_finds_270 : decode cX6_finds 270 = .ok (.iload_n 3, 1) := by decide +kernel
theorem dX6_finds_271 : decode cX6_finds 271 = .ok (.invokevirtual 142, 3) := by decide +kernel
theorem dX6_finds_274 : decode cX6_finds 274 = .ok (.aload_n 0, 1) := by decide +kernel
theorem dX6_finds_275 : decode cX6_finds 275 = .ok (.getfield 69, 3) := by decide +kernel
theorem dX6_finds_278 : decode cX6_finds 278 = .ok (.aload_n 0, 1) := by decide +kernel
theorem dX6_finds_279 : decode cX6_finds 279 = .ok (.iload 7, 2) := by decide +kernel
theorem dX6_finds_281 : decode cX6_finds 281 = .ok (.iload_n 1, 1) := by decide +kernel
theorem dX6_finds_282 : decode cX6_finds 282 = .ok (.invokevirtual 138, 3) := by decide +kernel
theorem dX6_finds_285 : decode cX6_finds 285 = .ok (.laload, 1) := by decide +kernel
theorem dX6_finds_286 : decode cX6_finds 286 = .ok (.ladd, 1) := by decide +kernel
theorem dX6_finds_287 : decode cX6_finds 287 = .ok (.lload 4, 2) := by decide +kernel
theorem dX6_finds_289 : decode cX6_finds 289 = .ok (.lcmp, 1) := by decide +kernel
theorem dX6_finds_290 : decode cX6_finds 290 = .ok (.ifCond .eq 9, 3) := by decide +kernel
theorem dX6_finds_293 : decode cX6_finds 293 = .ok (.iinc 7 1, 3) := by decide +kernel
theorem dX6_finds_296 : decode cX6_finds 296 = .ok (.goto (-80), 3) := by decide +kernel
theorem dX6_finds_299 : decode cX6_finds 299 = .ok (.aload_n 0, 1) := by decide +kernel
theorem dX6_finds_300 : decode cX6_finds 300 = .ok (.getfield 57, 3) := by decide +kernel
theorem dX6_finds_303 : decode cX6_finds 303 = .ok (.aload_n 0, 1) := by decide +kernel
theorem dX6_finds_304 : decode cX6_finds 304 = .ok (.getfield 120, 3) := by decide +kernel
theorem dX6_finds_307 : decode cX6_finds 307 = .ok (.iload 7, 2) := by decide +kernel
theorem dX6_finds_309 : decode cX6_finds 309 = .ok (.iastore, 1) := by decide +kernel
theorem dX6_finds_310 : decode cX6_finds 310 = .ok (.aload_n 0, 1) := by decide +kernel
theorem dX6_finds_311 : decode cX6_finds 311 = .ok (.dup, 1) := by decide +kernel
theorem dX6_finds_312 : decode cX6_finds 312 = .ok (.getfield 120, 3) := by decide +kernel
theorem dX6_finds_315 : decode cX6_finds 315 = .ok (.iconst 1, 1) := by decide +kernel
theorem dX6_finds_316 : decode cX6_finds 316 = .ok (.iadd, 1) := by decide +kernel
theorem dX6_finds_317 : decode cX6_finds 317 = .ok (.putfield 120, 3) := by decide +kernel
theorem dX6_finds_320 : decode cX6_finds 320 = .ok (.aload_n 0, 1) := by decide +kernel
theorem dX6_finds_321 : decode cX6_finds 321 = .ok (.iload 7, 2) := by decide +kernel
theorem dX6_finds_323 : decode cX6_finds 323 = .ok (.iload_n 1, 1) := by decide +kernel
theorem dX6_finds_324 : decode cX6_finds 324 = .ok (.invokevirtual 138, 3) := by decide +kernel
theorem dX6_finds_327 : decode cX6_finds 327 = .ok (.istore_n 1, 1) := by decide +kernel
theorem dX6_finds_328 : decode cX6_finds 328 = .ok (.aload_n 0, 1) := by decide +kernel
theorem dX6_finds_329 : decode cX6_finds 329 = .ok (.getfield 69, 3) := by decide +kernel
theorem dX6_finds_332 : decode cX6_finds 332 = .ok (.iload_n 1, 1) := by decide +kernel
theorem dX6_finds_333 : decode cX6_finds 333 = .ok (.laload, 1) := by decide +kernel
theorem dX6_finds_334 : decode cX6_finds 334 = .ok (.lstore 4, 2) := by decide +kernel
theorem dX6_finds_336 : decode cX6_finds 336 = .ok (.aload_n 0, 1) := by decide +kernel
theorem dX6_finds_337 : decode cX6_finds 337 = .ok (.getfield 72, 3) := by decide +kernel
theorem dX6_finds_340 : decode cX6_finds 340 = .ok (.iload_n 1, 1) := by decide +kernel
theorem dX6_finds_341 : decode cX6_finds 341 = .ok (.iaload, 1) := by decide +kernel
theorem dX6_finds_342 : decode cX6_finds 342 = .ok (.istore 6, 2) := by decide +kernel
theorem dX6_finds_344 : decode cX6_finds 344 = .ok (.iconst 0, 1) := by decide +kernel
theorem dX6_finds_345 : decode cX6_finds 345 = .ok (.istore_n 2, 1) := by decide +kernel
theorem dX6_finds_346 : decode cX6_finds 346 = .ok (.iconst 0, 1) := by decide +kernel
theorem dX6_finds_347 : decode cX6_finds 347 = .ok (.istore_n 3, 1) := by decide +kernel
theorem dX6_finds_348 : decode cX6_finds 348 = .ok (.goto (-140), 3) := by decide +kernel
theorem dX6_finds_351 : decode cX6_finds 351 = .ok (.return_, 1) := by decide +kernel
theorem dX6_ask_0 : decode cX6_ask 0 = .ok (.aload_n 0, 1) := by decide +kernel
theorem dX6_ask_1 : decode cX6_ask 1 = .ok (.iconst 0, 1) := by decide +kernel
theorem dX6_ask_2 : decode cX6_ask 2 = .ok (.putfield 80, 3) := by decide +kernel
theorem dX6_ask_5 : decode cX6_ask 5 = .ok (.aload_n 0, 1) := by decide +kernel
theorem dX6_ask_6 : decode cX6_ask 6 = .ok (.iload_n 1, 1) := by decide +kernel
theorem dX6_ask_7 : decode cX6_ask 7 = .ok (.ifCond .lt 13, 3) := by decide +kernel
theorem dX6_ask_10 : decode cX6_ask 10 = .ok (.iload_n 1, 1) := by decide +kernel
theorem dX6_ask_11 : decode cX6_ask 11 = .ok (.bipush 7, 2) := by decide +kernel
theorem dX6_ask_13 : decode cX6_ask 13 = .ok (.if_icmp .gt 7, 3) := by decide +kernel
theorem dX6_ask_16 : decode cX6_ask 16 = .ok (.iconst 1, 1) := by decide +kernel
theorem dX6_ask_17 : decode cX6_ask 17 = .ok (.goto 4, 3) := by decide +kernel
theorem dX6_ask_20 : decode cX6_ask 20 = .ok (.iconst 0, 1) := by decide +kernel
theorem dX6_ask_21 : decode cX6_ask 21 = .ok (.iconst 1, 1) := by decide +kernel
theorem dX6_ask_22 : decode cX6_ask 22 = .ok (.invokevirtual 87, 3) := by decide +kernel
theorem dX6_ask_25 : decode cX6_ask 25 = .ok (.ifCond .ne 5, 3) := by decide +kernel
theorem dX6_ask_28 : decode cX6_ask 28 = .ok (.iconst 0, 1) := by decide +kernel
theorem dX6_ask_29 : decode cX6_ask 29 = .ok (.ireturn, 1) := by decide +kernel
theorem dX6_ask_30 : decode cX6_ask 30 = .ok (.aload_n 0, 1) := by decide +kernel
theorem dX6_ask_31 : decode cX6_ask 31 = .ok (.getfield 40, 3) := by decide +kernel
theorem dX6_ask_34 : decode cX6_ask 34 = .ok (.iconst 4, 1) := by decide +kernel
theorem dX6_ask_35 : decode cX6_ask 35 = .ok (.iload_n 1, 1) := by decide +kernel
theorem dX6_ask_36 : decode cX6_ask 36 = .ok (.i2l, 1) := by decide +kernel
theorem dX6_ask_37 : decode cX6_ask 37 = .ok (.lastore, 1) := by decide +kernel
theorem dX6_ask_38 : decode cX6_ask 38 = .ok (.aload_n 0, 1) := by decide +kernel
theorem dX6_ask_39 : decode cX6_ask 39 = .ok (.iconst 0, 1) := by decide +kernel
theorem dX6_ask_40 : decode cX6_ask 40 = .ok (.invokevirtual 126, 3) := by decide +kernel
theorem dX6_ask_43 : decode cX6_ask 43 = .ok (.iconst (-1), 1) := by decide +kernel
theorem dX6_ask_44 : decode cX6_ask 44 = .ok (.if_icmp .eq 22, 3) := by decide +kernel
theorem dX6_ask_47 : decode cX6_ask 47 = .ok (.aload_n 0, 1) := by decide +kernel
theorem dX6_ask_48 : decode cX6_ask 48 = .ok (.aload_n 0, 1) := by decide +kernel
theorem dX6_ask_49 : decode cX6_ask 49 = .ok (.iconst 0, 1) := by decide +kernel
theorem dX6_ask_50 : decode cX6_ask 50 = .ok (.invokevirtual 126, 3) := by decide +kernel
theorem dX6_ask_53 : decode cX6_ask 53 = .ok (.iload_n 1, 1) := by decide +kernel
theorem dX6_ask_54 : decode cX6_ask 54 = .ok (.invokevirtual 104, 3) := by decide +kernel
theorem dX6_ask_57 : decode cX6_ask 57 = .ok (.ifCond .eq 9, 3) := by decide +kernel
theorem dX6_ask_60 : decode cX6_ask 60 = .ok (.aload_n 0, 1) := by decide +kernel
theorem dX6_ask_61 : decode cX6_ask 61 = .ok (.invokevirtual 145, 3) := by decide +kernel
theorem dX6_ask_64 : decode cX6_ask 64 = .ok (.iconst 0, 1) := by decide +kernel
theorem dX6_ask_65 : decode cX6_ask 65 = .ok (.ireturn, 1) := by decide +kernel
theorem dX6_ask_66 : decode cX6_ask 66 = .ok (.aload_n 0, 1) := by decide +kernel
theorem dX6_ask_67 : decode cX6_ask 67 = .ok (.invokevirtual 91, 3) := by decide +kernel
theorem dX6_ask_70 : decode cX6_ask 70 = .ok (.aload_n 0, 1) := by decide +kernel
theorem dX6_ask_71 : decode cX6_ask 71 = .ok (.getfield 116, 3) := by decide +kernel
theorem dX6_ask_74 : decode cX6_ask 74 = .ok (.ifCond .eq 10, 3) := by decide +kernel
theorem dX6_ask_77 : decode cX6_ask 77 = .ok (.aload_n 0, 1) := by decide +kernel
theorem dX6_ask_78 : decode cX6_ask 78 = .ok (.getfield 120, 3) := by decide +kernel
theorem dX6_ask_81 : decode cX6_ask 81 = .ok (.goto 4, 3) := by decide +kernel
theorem dX6_ask_84 : decode cX6_ask 84 = .ok (.iconst (-1), 1) := by decide +kernel
theorem dX6_ask_85 : decode cX6_ask 85 = .ok (.ireturn, 1) := by decide +kernel
theorem dX6_leave_0 : decode cX6_leave 0 = .ok (.aload_n 0, 1) := by decide +kernel
theorem dX6_leave_1 : decode cX6_leave 1 = .ok (.iconst 0, 1) := by decide +kernel
theorem dX6_leave_2 : decode cX6_leave 2 = .ok (.putfield 80, 3) := by decide +kernel
theorem dX6_leave_5 : decode cX6_leave 5 = .ok (.aload_n 0, 1) := by decide +kernel
theorem dX6_leave_6 : decode cX6_leave 6 = .ok (.iconst 4, 1) := by decide +kernel
theorem dX6_leave_7 : decode cX6_leave 7 = .ok (.invokevirtual 126, 3) := by decide +kernel
theorem dX6_leave_10 : decode cX6_leave 10 = .ok (.istore_n 1, 1) := by decide +kernel
theorem dX6_leave_11 : decode cX6_leave 11 = .ok (.aload_n 0, 1) := by decide +kernel
theorem dX6_leave_12 : decode cX6_leave 12 = .ok (.getfield 40, 3) := by decide +kernel
theorem dX6_leave_15 : decode cX6_leave 15 = .ok (.iconst 4, 1) := by decide +kernel
theorem dX6_leave_16 : decode cX6_leave 16 = .ok (.ldc2_w 78, 3) := by decide +kernel
theorem dX6_leave_19 : decode cX6_leave 19 = .ok (.lastore, 1) := by decide +kernel
theorem dX6_leave_20 : decode cX6_leave 20 = .ok (.aload_n 0, 1) := by decide +kernel
theorem dX6_leave_21 : decode cX6_leave 21 = .ok (.invokevirtual 91, 3) := by decide +kernel
theorem dX6_leave_24 : decode cX6_leave 24 = .ok (.iload_n 1, 1) := by decide +kernel
theorem dX6_leave_25 : decode cX6_leave 25 = .ok (.ireturn, 1) := by decide +kernel
theorem dX6_way_0 : decode cX6_way 0 = .ok (.aload_n 0, 1) := by decide +kernel
theorem dX6_way_1 : decode cX6_way 1 = .ok (.iconst 0, 1) := by decide +kernel
theorem dX6_way_2 : decode cX6_way 2 = .ok (.putfield 80, 3) := by decide +kernel
theorem dX6_way_5 : decode cX6_way 5 = .ok (.aload_n 0, 1) := by decide +kernel
theorem dX6_way_6 : decode cX6_way 6 = .ok (.getfield 116, 3) := by decide +kernel
theorem dX6_way_9 : decode cX6_way 9 = .ok (.ifCond .eq 15, 3) := by decide +kernel
theorem dX6_way_12 : decode cX6_way 12 = .ok (.aload_n 0, 1) := by decide +kernel
theorem dX6_way_13 : decode cX6_way 13 = .ok (.getfield 120, 3) := by decide +kernel
theorem dX6_way_16 : decode cX6_way 16 = .ok (.aload_n 0, 1) := by decide +kernel
theorem dX6_way_17 : decode cX6_way 17 = .ok (.getfield 123, 3) := by decide +kernel
theorem dX6_way_20 : decode cX6_way 20 = .ok (.isub, 1) := by decide +kernel
theorem dX6_way_21 : decode cX6_way 21 = .ok (.goto 4, 3) := by decide +kernel
theorem dX6_way_24 : decode cX6_way 24 = .ok (.iconst 0, 1) := by decide +kernel
theorem dX6_way_25 : decode cX6_way 25 = .ok (.istore_n 2, 1) := by decide +kernel
theorem dX6_way_26 : decode cX6_way 26 = .ok (.aload_n 0, 1) := by decide +kernel
theorem dX6_way_27 : decode cX6_way 27 = .ok (.iload_n 1, 1) := by decide +kernel
theorem dX6_way_28 : decode cX6_way 28 = .ok (.iconst (-1), 1) := by decide +kernel
theorem dX6_way_29 : decode cX6_way 29 = .ok (.if_icmp .eq 12, 3) := by decide +kernel
theorem dX6_way_32 : decode cX6_way 32 = .ok (.iload_n 1, 1) := by decide +kernel
theorem dX6_way_33 : decode cX6_way 33 = .ok (.ifCond .lt 12, 3) := by decide +kernel
theorem dX6_way_36 : decode cX6_way 36 = .ok (.iload_n 1, 1) := by decide +kernel
theorem dX6_way_37 : decode cX6_way 37 = .ok (.iload_n 2, 1) := by decide +kernel
theorem dX6_way_38 : decode cX6_way 38 = .ok (.if_icmp .ge 7, 3) := by decide +kernel
theorem dX6_way_41 : decode cX6_way 41 = .ok (.iconst 1, 1) := by decide +kernel
theorem dX6_way_42 : decode cX6_way 42 = .ok (.goto 4, 3) := by decide +kernel
theorem dX6_way_45 : decode cX6_way 45 = .ok (.iconst 0, 1) := by decide +kernel
theorem dX6_way_46 : decode cX6_way 46 = .ok (.iconst 1, 1) := by decide +kernel
theorem dX6_way_47 : decode cX6_way 47 = .ok (.invokevirtual 87, 3) := by decide +kernel
theorem dX6_way_50 : decode cX6_way 50 = .ok (.ifCond .ne 5, 3) := by decide +kernel
theorem dX6_way_53 : decode cX6_way 53 = .ok (.iconst 0, 1) := by decide +kernel
theorem dX6_way_54 : decode cX6_way 54 = .ok (.ireturn, 1) := by decide +kernel
theorem dX6_way_55 : decode cX6_way 55 = .ok (.iload_n 1, 1) := by decide +kernel
theorem dX6_way_56 : decode cX6_way 56 = .ok (.iconst (-1), 1) := by decide +kernel
theorem dX6_way_57 : decode cX6_way 57 = .ok (.if_icmp .ne 16, 3) := by decide +kernel
theorem dX6_way_60 : decode cX6_way 60 = .ok (.aload_n 0, 1) := by decide +kernel
theorem dX6_way_61 : decode cX6_way 61 = .ok (.getfield 116, 3) := by decide +kernel
theorem dX6_way_64 : decode cX6_way 64 = .ok (.ifCond .eq 7, 3) := by decide +kernel
theorem dX6_way_67 : decode cX6_way 67 = .ok (.iload_n 2, 1) := by decide +kernel
theorem dX6_way_68 : decode cX6_way 68 = .ok (.goto 4, 3) := by decide +kernel
theorem dX6_way_71 : decode cX6_way 71 = .ok (.iconst (-1), 1) := by decide +kernel
theorem dX6_way_72 : decode cX6_way 72 = .ok (.ireturn, 1) := by decide +kernel
theorem dX6_way_73 : decode cX6_way 73 = .ok (.aload_n 0, 1) := by decide +kernel
theorem dX6_way_74 : decode cX6_way 74 = .ok (.getfield 57, 3) := by decide +kernel
theorem dX6_way_77 : decode cX6_way 77 = .ok (.aload_n 0, 1) := by decide +kernel
theorem dX6_way_78 : decode cX6_way 78 = .ok (.getfield 123, 3) := by decide +kernel
theorem dX6_way_81 : decode cX6_way 81 = .ok (.iload_n 1, 1) := by decide +kernel
theorem dX6_way_82 : decode cX6_way 82 = .ok (.iadd, 1) := by decide +kernel
theorem dX6_way_83 : decode cX6_way 83 = .ok (.iaload, 1) := by decide +kernel
theorem dX6_way_84 : decode cX6_way 84 = .ok (.ireturn, 1) := by decide +kernel
theorem dX6_cost_0 : decode cX6_cost 0 = .ok (.aload_n 0, 1) := by decide +kernel
theorem dX6_cost_1 : decode cX6_cost 1 = .ok (.iconst 0, 1) := by decide +kernel
theorem dX6_cost_2 : decode cX6_cost 2 = .ok (.putfield 80, 3) := by decide +kernel
theorem dX6_cost_5 : decode cX6_cost 5 = .ok (.aload_n 0, 1) := by decide +kernel
theorem dX6_cost_6 : decode cX6_cost 6 = .ok (.getfield 116, 3) := by decide +kernel
theorem dX6_cost_9 : decode cX6_cost 9 = .ok (.ifCond .ne 7, 3) := by decide +kernel
theorem dX6_cost_12 : decode cX6_cost 12 = .ok (.ldc2_w 78, 3) := by decide +kernel
theorem dX6_cost_15 : decode cX6_cost 15 = .ok (.lreturn, 1) := by decide +kernel
theorem dX6_cost_16 : decode cX6_cost 16 = .ok (.lconst 0, 1) := by decide +kernel
theorem dX6_cost_17 : decode cX6_cost 17 = .ok (.lstore_n 1, 1) := by decide +kernel
theorem dX6_cost_18 : decode cX6_cost 18 = .ok (.aload_n 0, 1) := by decide +kernel
theorem dX6_cost_19 : decode cX6_cost 19 = .ok (.iconst 0, 1) := by decide +kernel
theorem dX6_cost_20 : decode cX6_cost 20 = .ok (.invokevirtual 126, 3) := by decide +kernel
theorem dX6_cost_23 : decode cX6_cost 23 = .ok (.istore_n 3, 1) := by decide +kernel
theorem dX6_cost_24 : decode cX6_cost 24 = .ok (.aload_n 0, 1) := by decide +kernel
theorem dX6_cost_25 : decode cX6_cost 25 = .ok (.iconst 1, 1) := by decide +kernel
theorem dX6_cost_26 : decode cX6_cost 26 = .ok (.invokevirtual 126, 3) := by decide +kernel
theorem dX6_cost_29 : decode cX6_cost 29 = .ok (.istore 4, 2) := by decide +kernel
theorem dX6_cost_31 : decode cX6_cost 31 = .ok (.aload_n 0, 1) := by decide +kernel
theorem dX6_cost_32 : decode cX6_cost 32 = .ok (.iconst 3, 1) := by decide +kernel
theorem dX6_cost_33 : decode cX6_cost 33 = .ok (.invokevirtual 126, 3) := by decide +kernel
theorem dX6_cost_36 : decode cX6_cost 36 = .ok (.istore 5, 2) := by decide +kernel
theorem dX6_cost_38 : decode cX6_cost 38 = .ok (.aload_n 0, 1) := by decide +kernel
theorem dX6_cost_39 : decode cX6_cost 39 = .ok (.getfield 123, 3) := by decide +kernel
theorem dX6_cost_42 : decode cX6_cost 42 = .ok (.istore 6, 2) := by decide +kernel
theorem dX6_cost_44 : decode cX6_cost 44 = .ok (.iload 6, 2) := by decide +kernel
theorem dX6_cost_46 : decode cX6_cost 46 = .ok (.aload_n 0, 1) := by decide +kernel
theorem dX6_cost_47 : decode cX6_cost 47 = .ok (.getfield 120, 3) := by decide +kernel
theorem dX6_cost_50 : decode cX6_cost 50 = .ok (.if_icmp .ge 47, 3) := by decide +kernel
theorem dX6_cost_53 : decode cX6_cost 53 = .ok (.lload_n 1, 1) := by decide +kernel
theorem dX6_cost_54 : decode cX6_cost 54 = .ok (.aload_n 0, 1) := by decide +kernel
theorem dX6_cost_55 : decode cX6_cost 55 = .ok (.aload_n 0, 1) := by decide +kernel
theorem dX6_cost_56 : decode cX6_cost 56 = .ok (.getfield 57, 3) := by decide +kernel
theorem dX6_cost_59 : decode cX6_cost 59 = .ok (.iload 6, 2) := by decide +kernel
theorem dX6_cost_61 : decode cX6_cost 61 = .ok (.iaload, 1) := by decide +kernel
theorem dX6_cost_62 : decode cX6_cost 62 = .ok (.iload_n 3, 1) := by decide +kernel
theorem dX6_cost_63 : decode cX6_cost 63 = .ok (.iload 4, 2) := by decide +kernel
theorem dX6_cost_65 : decode cX6_cost 65 = .ok (.iload 5, 2) := by decide +kernel
theorem dX6_cost_67 : decode cX6_cost 67 = .ok (.invokevirtual 142, 3) := by decide +kernel
theorem dX6_cost_70 : decode cX6_cost 70 = .ok (.ladd, 1) := by decide +kernel
theorem dX6_cost_71 : decode cX6_cost 71 = .ok (.lstore_n 1, 1) := by decide +kernel
theorem dX6_cost_72 : decode cX6_cost 72 = .ok (.aload_n 0, 1) := by decide +kernel
theorem dX6_cost_73 : decode cX6_cost 73 = .ok (.aload_n 0, 1) := by decide +kernel
theorem dX6_cost_74 : decode cX6_cost 74 = .ok (.getfield 57, 3) := by decide +kernel
theorem dX6_cost_77 : decode cX6_cost 77 = .ok (.iload 6, 2) := by decide +kernel
theorem dX6_cost_79 : decode cX6_cost 79 = .ok (.iaload, 1) := by decide +kernel
theorem dX6_cost_80 : decode cX6_cost 80 = .ok (.iload_n 3, 1) := by decide +kernel
theorem dX6_cost_81 : decode cX6_cost 81 = .ok (.invokevirtual 138, 3) := by decide +kernel
theorem dX6_cost_84 : decode cX6_cost 84 = .ok (.istore_n 3, 1) := by decide +kernel
theorem dX6_cost_85 : decode cX6_cost 85 = .ok (.iconst 0, 1) := by decide +kernel
theorem dX6_cost_86 : decode cX6_cost 86 = .ok (.istore 4, 2) := by decide +kernel
theorem dX6_cost_88 : decode cX6_cost 88 = .ok (.iconst 0, 1) := by decide +kernel
theorem dX6_cost_89 : decode cX6_cost 89 = .ok (.istore 5, 2) := by decide +kernel
theorem dX6_cost_91 : decode cX6_cost 91 = .ok (.iinc 6 1, 3) := by decide +kernel
theorem dX6_cost_94 : decode cX6_cost 94 = .ok (.goto (-50), 3) := by decide +kernel
theorem dX6_cost_97 : decode cX6_cost 97 = .ok (.lload_n 1, 1) := by decide +kernel
theorem dX6_cost_98 : decode cX6_cost 98 = .ok (.lreturn, 1) := by decide +kernel
theorem dX6_isAsked_0 : decode cX6_isAsked 0 = .ok (.aload_n 0, 1) := by decide +kernel
theorem dX6_isAsked_1 : decode cX6_isAsked 1 = .ok (.iconst 0, 1) := by decide +kernel
theorem dX6_isAsked_2 : decode cX6_isAsked 2 = .ok (.putfield 80, 3) := by decide +kernel
theorem dX6_isAsked_5 : decode cX6_isAsked 5 = .ok (.aload_n 0, 1) := by decide +kernel
theorem dX6_isAsked_6 : decode cX6_isAsked 6 = .ok (.iload_n 1, 1) := by decide +kernel
theorem dX6_isAsked_7 : decode cX6_isAsked 7 = .ok (.invokevirtual 94, 3) := by decide +kernel
theorem dX6_isAsked_10 : decode cX6_isAsked 10 = .ok (.ifCond .eq 43, 3) := by decide +kernel
theorem dX6_isAsked_13 : decode cX6_isAsked 13 = .ok (.aload_n 0, 1) := by decide +kernel
theorem dX6_isAsked_14 : decode cX6_isAsked 14 = .ok (.aload_n 0, 1) := by decide +kernel
theorem dX6_isAsked_15 : decode cX6_isAsked 15 = .ok (.iload_n 1, 1) := by decide +kernel
theorem dX6_isAsked_16 : decode cX6_isAsked 16 = .ok (.invokevirtual 101, 3) := by decide +kernel
theorem dX6_isAsked_19 : decode cX6_isAsked 19 = .ok (.iconst 1, 1) := by decide +kernel
theorem dX6_isAsked_20 : decode cX6_isAsked 20 = .ok (.invokevirtual 87, 3) := by decide +kernel
theorem dX6_isAsked_23 : decode cX6_isAsked 23 = .ok (.ifCond .eq 30, 3) := by decide +kernel
theorem dX6_isAsked_26 : decode cX6_isAsked 26 = .ok (.aload_n 0, 1) := by decide +kernel
theorem dX6_isAsked_27 : decode cX6_isAsked 27 = .ok (.iload_n 2, 1) := by decide +kernel
theorem dX6_isAsked_28 : decode cX6_isAsked 28 = .ok (.ifCond .lt 13, 3) := by decide +kernel
theorem dX6_isAsked_31 : decode cX6_isAsked 31 = .ok (.iload_n 2, 1) := by decide +kernel
theorem dX6_isAsked_32 : decode cX6_isAsked 32 = .ok (.bipush 7, 2) := by decide +kernel
theorem dX6_isAsked_34 : decode cX6_isAsked 34 = .ok (.if_icmp .gt 7, 3) := by decide +kernel
theorem dX6_isAsked_37 : decode cX6_isAsked 37 = .ok (.iconst 1, 1) := by decide +kernel
theorem dX6_isAsked_38 : decode cX6_isAsked 38 = .ok (.goto 4, 3) := by decide +kernel
theorem dX6_isAsked_41 : decode cX6_isAsked 41 = .ok (.iconst 0, 1) := by decide +kernel
theorem dX6_isAsked_42 : decode cX6_isAsked 42 = .ok (.iconst 2, 1) := by decide +kernel
theorem dX6_isAsked_43 : decode cX6_isAsked 43 = .ok (.invokevirtual 87, 3) := by decide +kernel
theorem dX6_isAsked_46 : decode cX6_isAsked 46 = .ok (.ifCond .eq 7, 3) := by decide +kernel
theorem dX6_isAsked_49 : decode cX6_isAsked 49 = .ok (.iconst 1, 1) := by decide +kernel
theorem dX6_isAsked_50 : decode cX6_isAsked 50 = .ok (.goto 4, 3) := by decide +kernel
theorem dX6_isAsked_53 : decode cX6_isAsked 53 = .ok (.iconst 0, 1) := by decide +kernel
theorem dX6_isAsked_54 : decode cX6_isAsked 54 = .ok (.ireturn, 1) := by decide +kernel
theorem dX6_reach_0 : decode cX6_reach 0 = .ok (.aload_n 0, 1) := by decide +kernel
theorem dX6_reach_1 : decode cX6_reach 1 = .ok (.iload_n 1, 1) := by decide +kernel
theorem dX6_reach_2 : decode cX6_reach 2 = .ok (.iload_n 2, 1) := by decide +kernel
theorem dX6_reach_3 : decode cX6_reach 3 = .ok (.invokevirtual 148, 3) := by decide +kernel
theorem dX6_reach_6 : decode cX6_reach 6 = .ok (.ifCond .ne 5, 3) := by decide +kernel
theorem dX6_reach_9 : decode cX6_reach 9 = .ok (.lconst 0, 1) := by decide +kernel
theorem dX6_reach_10 : decode cX6_reach 10 = .ok (.lreturn, 1) := by decide +kernel
theorem dX6_reach_11 : decode cX6_reach 11 = .ok (.aload_n 0, 1) := by decide +kernel
theorem dX6_reach_12 : decode cX6_reach 12 = .ok (.iload_n 2, 1) := by decide +kernel
theorem dX6_reach_13 : decode cX6_reach 13 = .ok (.iconst 1, 1) := by decide +kernel
theorem dX6_reach_14 : decode cX6_reach 14 = .ok (.invokevirtual 130, 3) := by decide +kernel
theorem dX6_reach_17 : decode cX6_reach 17 = .ok (.aload_n 0, 1) := by decide +kernel
theorem dX6_reach_18 : decode cX6_reach 18 = .ok (.getfield 69, 3) := by decide +kernel
theorem dX6_reach_21 : decode cX6_reach 21 = .ok (.iload_n 1, 1) := by decide +kernel
theorem dX6_reach_22 : decode cX6_reach 22 = .ok (.laload, 1) := by decide +kernel
theorem dX6_reach_23 : decode cX6_reach 23 = .ok (.ldc2_w 108, 3) := by decide +kernel
theorem dX6_reach_26 : decode cX6_reach 26 = .ok (.lcmp, 1) := by decide +kernel
theorem dX6_reach_27 : decode cX6_reach 27 = .ok (.ifCond .lt 9, 3) := by decide +kernel
theorem dX6_reach_30 : decode cX6_reach 30 = .ok (.ldc2_w 78, 3) := by decide +kernel
theorem dX6_reach_33 : decode cX6_reach 33 = .ok (.goto 9, 3) := by decide +kernel
theorem dX6_reach_36 : decode cX6_reach 36 = .ok (.aload_n 0, 1) := by decide +kernel
theorem dX6_reach_37 : decode cX6_reach 37 = .ok (.getfield 69, 3) := by decide +kernel
theorem dX6_reach_40 : decode cX6_reach 40 = .ok (.iload_n 1, 1) := by decide +kernel
theorem dX6_reach_41 : decode cX6_reach 41 = .ok (.laload, 1) := by decide +kernel
theorem dX6_reach_42 : decode cX6_reach 42 = .ok (.lreturn, 1) := by decide +kernel
theorem dX6_lacks_0 : decode cX6_lacks 0 = .ok (.aload_n 0, 1) := by decide +kernel
theorem dX6_lacks_1 : decode cX6_lacks 1 = .ok (.iload_n 1, 1) := by decide +kernel
theorem dX6_lacks_2 : decode cX6_lacks 2 = .ok (.iload_n 2, 1) := by decide +kernel
theorem dX6_lacks_3 : decode cX6_lacks 3 = .ok (.invokevirtual 148, 3) := by decide +kernel
theorem dX6_lacks_6 : decode cX6_lacks 6 = .ok (.ifCond .ne 5, 3) := by decide +kernel
theorem dX6_lacks_9 : decode cX6_lacks 9 = .ok (.iconst 0, 1) := by decide +kernel
theorem dX6_lacks_10 : decode cX6_lacks 10 = .ok (.ireturn, 1) := by decide +kernel
theorem dX6_lacks_11 : decode cX6_lacks 11 = .ok (.aload_n 0, 1) := by decide +kernel
theorem dX6_lacks_12 : decode cX6_lacks 12 = .ok (.iload_n 2, 1) := by decide +kernel
theorem dX6_lacks_13 : decode cX6_lacks 13 = .ok (.iconst 1, 1) := by decide +kernel
theorem dX6_lacks_14 : decode cX6_lacks 14 = .ok (.invokevirtual 130, 3) := by decide +kernel
theorem dX6_lacks_17 : decode cX6_lacks 17 = .ok (.aload_n 0, 1) := by decide +kernel
theorem dX6_lacks_18 : decode cX6_lacks 18 = .ok (.getfield 69, 3) := by decide +kernel
theorem dX6_lacks_21 : decode cX6_lacks 21 = .ok (.iload_n 1, 1) := by decide +kernel
theorem dX6_lacks_22 : decode cX6_lacks 22 = .ok (.laload, 1) := by decide +kernel
theorem dX6_lacks_23 : decode cX6_lacks 23 = .ok (.ldc2_w 108, 3) := by decide +kernel
theorem dX6_lacks_26 : decode cX6_lacks 26 = .ok (.lcmp, 1) := by decide +kernel
theorem dX6_lacks_27 : decode cX6_lacks 27 = .ok (.ifCond .ge 5, 3) := by decide +kernel
theorem dX6_lacks_30 : decode cX6_lacks 30 = .ok (.iconst (-1), 1) := by decide +kernel
theorem dX6_lacks_31 : decode cX6_lacks 31 = .ok (.ireturn, 1) := by decide +kernel
theorem dX6_lacks_32 : decode cX6_lacks 32 = .ok (.iconst 0, 1) := by decide +kernel
theorem dX6_lacks_33 : decode cX6_lacks 33 = .ok (.istore_n 3, 1) := by decide +kernel
theorem dX6_lacks_34 : decode cX6_lacks 34 = .ok (.iload_n 3, 1) := by decide +kernel
theorem dX6_lacks_35 : decode cX6_lacks 35 = .ok (.aload_n 0, 1) := by decide +kernel
theorem dX6_lacks_36 : decode cX6_lacks 36 = .ok (.getfield 84, 3) := by decide +kernel
theorem dX6_lacks_39 : decode cX6_lacks 39 = .ok (.if_icmp .ge 25, 3) := by decide +kernel
theorem dX6_lacks_42 : decode cX6_lacks 42 = .ok (.aload_n 0, 1) := by decide +kernel
theorem dX6_lacks_43 : decode cX6_lacks 43 = .ok (.getfield 75, 3) := by decide +kernel
theorem dX6_lacks_46 : decode cX6_lacks 46 = .ok (.iload_n 3, 1) := by decide +kernel
theorem dX6_lacks_47 : decode cX6_lacks 47 = .ok (.iload_n 3, 1) := by decide +kernel
theorem dX6_lacks_48 : decode cX6_lacks 48 = .ok (.iload_n 1, 1) := by decide +kernel
theorem dX6_lacks_49 : decode cX6_lacks 49 = .ok (.if_icmp .ne 7, 3) := by decide +kernel
theorem dX6_lacks_52 : decode cX6_lacks 52 = .ok (.iconst 1, 1) := by decide +kernel
theorem dX6_lacks_53 : decode cX6_lacks 53 = .ok (.goto 4, 3) := by decide +kernel
theorem dX6_lacks_56 : decode cX6_lacks 56 = .ok (.iconst 0, 1) := by decide +kernel
theorem dX6_lacks_57 : decode cX6_lacks 57 = .ok (.bastore, 1) := by decide +kernel
theorem dX6_lacks_58 : decode cX6_lacks 58 = .ok (.iinc 3 1, 3) := by decide +kernel
theorem dX6_lacks_61 : decode cX6_lacks 61 = .ok (.goto (-27), 3) := by decide +kernel
theorem dX6_lacks_64 : decode cX6_lacks 64 = .ok (.iconst 1, 1) := by decide +kernel
theorem dX6_lacks_65 : decode cX6_lacks 65 = .ok (.istore_n 3, 1) := by decide +kernel
theorem dX6_lacks_66 : decode cX6_lacks 66 = .ok (.iload_n 3, 1) := by decide +kernel
theorem dX6_lacks_67 : decode cX6_lacks 67 = .ok (.ifCond .eq 74, 3) := by decide +kernel
theorem dX6_lacks_70 : decode cX6_lacks 70 = .ok (.iconst 0, 1) := by decide +kernel
theorem dX6_lacks_71 : decode cX6_lacks 71 = .ok (.istore_n 3, 1) := by decide +kernel
theorem dX6_lacks_72 : decode cX6_lacks 72 = .ok (.iconst 0, 1) := by decide +kernel
theorem dX6_lacks_73 : decode cX6_lacks 73 = .ok (.istore 4, 2) := by decide +kernel
theorem dX6_lacks_75 : decode cX6_lacks 75 = .ok (.iload 4, 2) := by decide +kernel
theorem dX6_lacks_77 : decode cX6_lacks 77 = .ok (.aload_n 0, 1) := by decide +kernel
theorem dX6_lacks_78 : decode cX6_lacks 78 = .ok (.getfield 98, 3) := by decide +kernel
theorem dX6_lacks_81 : decode cX6_lacks 81 = .ok (.if_icmp .ge 57, 3) := by decide +kernel
theorem dX6_lacks_84 : decode cX6_lacks 84 = .ok (.aload_n 0, 1) := by decide +kernel
theorem dX6_lacks_85 : decode cX6_lacks 85 = .ok (.getfield 75, 3) := by decide +kernel
theorem dX6_lacks_88 : decode cX6_lacks 88 = .ok (.aload_n 0, 1) := by decide +kernel
theorem dX6_lacks_89 : decode cX6_lacks 89 = .ok (.getfield 25, 3) := by decide +kernel
theorem dX6_lacks_92 : decode cX6_lacks 92 = .ok (.iload 4, 2) := by decide +kernel
theorem dX6_lacks_94 : decode cX6_lacks 94 = .ok (.iaload, 1) := by decide +kernel
theorem dX6_lacks_95 : decode cX6_lacks 95 = .ok (.baload, 1) := by decide +kernel
theorem dX6_lacks_96 : decode cX6_lacks 96 = .ok (.ifCond .eq 36, 3) := by decide +kernel
theorem dX6_lacks_99 : decode cX6_lacks 99 = .ok (.aload_n 0, 1) := by decide +kernel
theorem dX6_lacks_100 : decode cX6_lacks 100 = .ok (.getfield 75, 3) := by decide +kernel
theorem dX6_lacks_103 : decode cX6_lacks 103 = .ok (.aload_n 0, 1) := by decide +kernel
theorem dX6_lacks_104 : decode cX6_lacks 104 = .ok (.getfield 31, 3) := by decide +kernel
theorem dX6_lacks_107 : decode cX6_lacks 107 = .ok (.iload 4, 2) := by decide +kernel
theorem dX6_lacks_109 : decode cX6_lacks 109 = .ok (.iaload, 1) := by decide +kernel
theorem dX6_lacks_110 : decode cX6_lacks 110 = .ok (.baload, 1) := by decide +kernel
theorem dX6_lacks_111 : decode cX6_lacks 111 = .ok (.ifCond .eq 6, 3) := by decide +kernel
theorem dX6_lacks_114 : decode cX6_lacks 114 = .ok (.goto 18, 3) := by decide +kernel
theorem dX6_lacks_117 : decode cX6_lacks 117 = .ok (.aload_n 0, 1) := by decide +kernel
theorem dX6_lacks_118 : decode cX6_lacks 118 = .ok (.getfield 75, 3) := by decide +kernel
theorem dX6_lacks_121 : decode cX6_lacks 121 = .ok (.aload_n 0, 1) := by decide +kernel
theorem dX6_lacks_122 : decode cX6_lacks 122 = .ok (.getfield 31, 3) := by decide +kernel
theorem dX6_lacks_125 : decode cX6_lacks 125 = .ok (.iload 4, 2) := by decide +kernel
theorem dX6_lacks_127 : decode cX6_lacks 127 = .ok (.iaload, 1) := by decide +kernel
theorem dX6_lacks_128 : decode cX6_lacks 128 = .ok (.iconst 1, 1) := by decide +kernel
theorem dX6_lacks_129 : decode cX6_lacks 129 = .ok (.bastore, 1) := by decide +kernel
theorem dX6_lacks_130 : decode cX6_lacks 130 = .ok (.iconst 1, 1) := by decide +kernel
theorem dX6_lacks_131 : decode cX6_lacks 131 = .ok (.istore_n 3, 1) := by decide +kernel
theorem dX6_lacks_132 : decode cX6_lacks 132 = .ok (.iinc 4 1, 3) := by decide +kernel
theorem dX6_lacks_135 : decode cX6_lacks 135 = .ok (.goto (-60), 3) := by decide +kernel
theorem dX6_lacks_138 : decode cX6_lacks 138 = .ok (.goto (-72), 3) := by decide +kernel
theorem dX6_lacks_141 : decode cX6_lacks 141 = .ok (.iconst 0, 1) := by decide +kernel
theorem dX6_lacks_142 : decode cX6_lacks 142 = .ok (.istore 4, 2) := by decide +kernel
theorem dX6_lacks_144 : decode cX6_lacks 144 = .ok (.aload_n 0, 1) := by decide +kernel
theorem dX6_lacks_145 : decode cX6_lacks 145 = .ok (.getfield 75, 3) := by decide +kernel
theorem dX6_lacks_148 : decode cX6_lacks 148 = .ok (.iload 4, 2) := by decide +kernel
theorem dX6_lacks_150 : decode cX6_lacks 150 = .ok (.baload, 1) := by decide +kernel
theorem dX6_lacks_151 : decode cX6_lacks 151 = .ok (.ifCond .ne 9, 3) := by decide +kernel
theorem dX6_lacks_154 : decode cX6_lacks 154 = .ok (.iinc 4 1, 3) := by decide +kernel
theorem dX6_lacks_157 : decode cX6_lacks 157 = .ok (.goto (-13), 3) := by decide +kernel
theorem dX6_lacks_160 : decode cX6_lacks 160 = .ok (.iconst 0, 1) := by decide +kernel
theorem dX6_lacks_161 : decode cX6_lacks 161 = .ok (.istore 5, 2) := by decide +kernel
theorem dX6_lacks_163 : decode cX6_lacks 163 = .ok (.iload 5, 2) := by decide +kernel
theorem dX6_lacks_165 : decode cX6_lacks 165 = .ok (.aload_n 0, 1) := by decide +kernel
theorem dX6_lacks_166 : decode cX6_lacks 166 = .ok (.getfield 84, 3) := by decide +kernel
theorem dX6_lacks_169 : decode cX6_lacks 169 = .ok (.if_icmp .ge 19, 3) := by decide +kernel
theorem dX6_lacks_172 : decode cX6_lacks 172 = .ok (.aload_n 0, 1) := by decide +kernel
theorem dX6_lacks_173 : decode cX6_lacks 173 = .ok (.iload 5, 2) := by decide +kernel
theorem dX6_lacks_175 : decode cX6_lacks 175 = .ok (.iload_n 2, 1) := by decide +kernel
theorem dX6_lacks_176 : decode cX6_lacks 176 = .ok (.invokevirtual 104, 3) := by decide +kernel
theorem dX6_lacks_179 : decode cX6_lacks 179 = .ok (.ifCond .ne 9, 3) := by decide +kernel
theorem dX6_lacks_182 : decode cX6_lacks 182 = .ok (.iinc 5 1, 3) := by decide +kernel
theorem dX6_lacks_185 : decode cX6_lacks 185 = .ok (.goto (-22), 3) := by decide +kernel
theorem dX6_lacks_188 : decode cX6_lacks 188 = .ok (.iload 5, 2) := by decide +kernel
theorem dX6_lacks_190 : decode cX6_lacks 190 = .ok (.aload_n 0, 1) := by decide +kernel
theorem dX6_lacks_191 : decode cX6_lacks 191 = .ok (.getfield 84, 3) := by decide +kernel
theorem dX6_lacks_194 : decode cX6_lacks 194 = .ok (.if_icmp .ne 7, 3) := by decide +kernel
theorem dX6_lacks_197 : decode cX6_lacks 197 = .ok (.iconst (-1), 1) := by decide +kernel
theorem dX6_lacks_198 : decode cX6_lacks 198 = .ok (.goto 11, 3) := by decide +kernel
theorem dX6_lacks_201 : decode cX6_lacks 201 = .ok (.bipush 100, 2) := by decide +kernel
theorem dX6_lacks_203 : decode cX6_lacks 203 = .ok (.iload 4, 2) := by decide +kernel
theorem dX6_lacks_205 : decode cX6_lacks 205 = .ok (.imul, 1) := by decide +kernel
theorem dX6_lacks_206 : decode cX6_lacks 206 = .ok (.iload 5, 2) := by decide +kernel
theorem dX6_lacks_208 : decode cX6_lacks 208 = .ok (.iadd, 1) := by decide +kernel
theorem dX6_lacks_209 : decode cX6_lacks 209 = .ok (.ireturn, 1) := by decide +kernel
theorem dX6_logs_0 : decode cX6_logs 0 = .ok (.aload_n 0, 1) := by decide +kernel
theorem dX6_logs_1 : decode cX6_logs 1 = .ok (.getfield 151, 3) := by decide +kernel
theorem dX6_logs_4 : decode cX6_logs 4 = .ok (.sipush 300, 3) := by decide +kernel
theorem dX6_logs_7 : decode cX6_logs 7 = .ok (.irem, 1) := by decide +kernel
theorem dX6_logs_8 : decode cX6_logs 8 = .ok (.istore_n 3, 1) := by decide +kernel
theorem dX6_logs_9 : decode cX6_logs 9 = .ok (.aload_n 0, 1) := by decide +kernel
theorem dX6_logs_10 : decode cX6_logs 10 = .ok (.getfield 60, 3) := by decide +kernel
theorem dX6_logs_13 : decode cX6_logs 13 = .ok (.iload_n 3, 1) := by decide +kernel
theorem dX6_logs_14 : decode cX6_logs 14 = .ok (.aload_n 0, 1) := by decide +kernel
theorem dX6_logs_15 : decode cX6_logs 15 = .ok (.getfield 154, 3) := by decide +kernel
theorem dX6_logs_18 : decode cX6_logs 18 = .ok (.lastore, 1) := by decide +kernel
theorem dX6_logs_19 : decode cX6_logs 19 = .ok (.aload_n 0, 1) := by decide +kernel
theorem dX6_logs_20 : decode cX6_logs 20 = .ok (.getfield 63, 3) := by decide +kernel
theorem dX6_logs_23 : decode cX6_logs 23 = .ok (.iload_n 3, 1) := by decide +kernel
theorem dX6_logs_24 : decode cX6_logs 24 = .ok (.iload_n 1, 1) := by decide +kernel
theorem dX6_logs_25 : decode cX6_logs 25 = .ok (.iastore, 1) := by decide +kernel
theorem dX6_logs_26 : decode cX6_logs 26 = .ok (.aload_n 0, 1) := by decide +kernel
theorem dX6_logs_27 : decode cX6_logs 27 = .ok (.getfield 66, 3) := by decide +kernel
theorem dX6_logs_30 : decode cX6_logs 30 = .ok (.iload_n 3, 1) := by decide +kernel
theorem dX6_logs_31 : decode cX6_logs 31 = .ok (.iload_n 2, 1) := by decide +kernel
theorem dX6_logs_32 : decode cX6_logs 32 = .ok (.iastore, 1) := by decide +kernel
theorem dX6_logs_33 : decode cX6_logs 33 = .ok (.aload_n 0, 1) := by decide +kernel
theorem dX6_logs_34 : decode cX6_logs 34 = .ok (.dup, 1) := by decide +kernel
theorem dX6_logs_35 : decode cX6_logs 35 = .ok (.getfield 151, 3) := by decide +kernel
theorem dX6_logs_38 : decode cX6_logs 38 = .ok (.iconst 1, 1) := by decide +kernel
theorem dX6_logs_39 : decode cX6_logs 39 = .ok (.iadd, 1) := by decide +kernel
theorem dX6_logs_40 : decode cX6_logs 40 = .ok (.putfield 151, 3) := by decide +kernel
theorem dX6_logs_43 : decode cX6_logs 43 = .ok (.return_, 1) := by decide +kernel
theorem dX6_met_0 : decode cX6_met 0 = .ok (.aload_n 0, 1) := by decide +kernel
theorem dX6_met_1 : decode cX6_met 1 = .ok (.iconst 4, 1) := by decide +kernel
theorem dX6_met_2 : decode cX6_met 2 = .ok (.aload_n 0, 1) := by decide +kernel
theorem dX6_met_3 : decode cX6_met 3 = .ok (.iconst 4, 1) := by decide +kernel
theorem dX6_met_4 : decode cX6_met 4 = .ok (.invokevirtual 126, 3) := by decide +kernel
theorem dX6_met_7 : decode cX6_met 7 = .ok (.invokevirtual 158, 3) := by decide +kernel
theorem dX6_met_10 : decode cX6_met 10 = .ok (.aload_n 0, 1) := by decide +kernel
theorem dX6_met_11 : decode cX6_met 11 = .ok (.getfield 40, 3) := by decide +kernel
theorem dX6_met_14 : decode cX6_met 14 = .ok (.iconst 4, 1) := by decide +kernel
theorem dX6_met_15 : decode cX6_met 15 = .ok (.ldc2_w 78, 3) := by decide +kernel
theorem dX6_met_18 : decode cX6_met 18 = .ok (.lastore, 1) := by decide +kernel
theorem dX6_met_19 : decode cX6_met 19 = .ok (.aload_n 0, 1) := by decide +kernel
theorem dX6_met_20 : decode cX6_met 20 = .ok (.invokevirtual 91, 3) := by decide +kernel
theorem dX6_met_23 : decode cX6_met 23 = .ok (.return_, 1) := by decide +kernel
theorem dX6_begins_0 : decode cX6_begins 0 = .ok (.aload_n 0, 1) := by decide +kernel
theorem dX6_begins_1 : decode cX6_begins 1 = .ok (.getfield 40, 3) := by decide +kernel
theorem dX6_begins_4 : decode cX6_begins 4 = .ok (.iconst 0, 1) := by decide +kernel
theorem dX6_begins_5 : decode cX6_begins 5 = .ok (.iload_n 1, 1) := by decide +kernel
theorem dX6_begins_6 : decode cX6_begins 6 = .ok (.i2l, 1) := by decide +kernel
theorem dX6_begins_7 : decode cX6_begins 7 = .ok (.lastore, 1) := by decide +kernel
theorem dX6_begins_8 : decode cX6_begins 8 = .ok (.aload_n 0, 1) := by decide +kernel
theorem dX6_begins_9 : decode cX6_begins 9 = .ok (.getfield 40, 3) := by decide +kernel
theorem dX6_begins_12 : decode cX6_begins 12 = .ok (.iconst 1, 1) := by decide +kernel
theorem dX6_begins_13 : decode cX6_begins 13 = .ok (.lconst 0, 1) := by decide +kernel
theorem dX6_begins_14 : decode cX6_begins 14 = .ok (.lastore, 1) := by decide +kernel
theorem dX6_begins_15 : decode cX6_begins 15 = .ok (.aload_n 0, 1) := by decide +kernel
theorem dX6_begins_16 : decode cX6_begins 16 = .ok (.getfield 40, 3) := by decide +kernel
theorem dX6_begins_19 : decode cX6_begins 19 = .ok (.iconst 3, 1) := by decide +kernel
end
section
theorem dX6_begins_20 : decode cX6_begins 20 = .ok (.lconst 0, 1) := by decide +kernel
theorem dX6_begins_21 : decode cX6_begins 21 = .ok (.lastore, 1) := by decide +kernel
theorem dX6_begins_22 : decode cX6_begins 22 = .ok (.aload_n 0, 1) := by decide +kernel
theorem dX6_begins_23 : decode cX6_begins 23 = .ok (.getfield 40, 3) := by decide +kernel
theorem dX6_begins_26 : decode cX6_begins 26 = .ok (.iconst 2, 1) := by decide +kernel
theorem dX6_begins_27 : decode cX6_begins 27 = .ok (.iload_n 2, 1) := by decide +kernel
theorem dX6_begins_28 : decode cX6_begins 28 = .ok (.i2l, 1) := by decide +kernel
theorem dX6_begins_29 : decode cX6_begins 29 = .ok (.lastore, 1) := by decide +kernel
theorem dX6_begins_30 : decode cX6_begins 30 = .ok (.aload_n 0, 1) := by decide +kernel
theorem dX6_begins_31 : decode cX6_begins 31 = .ok (.iconst 4, 1) := by decide +kernel
theorem dX6_begins_32 : decode cX6_begins 32 = .ok (.invokevirtual 126, 3) := by decide +kernel
theorem dX6_begins_35 : decode cX6_begins 35 = .ok (.iconst (-1), 1) := by decide +kernel
theorem dX6_begins_36 : decode cX6_begins 36 = .ok (.if_icmp .eq 23, 3) := by decide +kernel
theorem dX6_begins_39 : decode cX6_begins 39 = .ok (.aload_n 0, 1) := by decide +kernel
theorem dX6_begins_40 : decode cX6_begins 40 = .ok (.iload_n 1, 1) := by decide +kernel
theorem dX6_begins_41 : decode cX6_begins 41 = .ok (.aload_n 0, 1) := by decide +kernel
theorem dX6_begins_42 : decode cX6_begins 42 = .ok (.iconst 4, 1) := by decide +kernel
theorem dX6_begins_43 : decode cX6_begins 43 = .ok (.invokevirtual 126, 3) := by decide +kernel
theorem dX6_begins_46 : decode cX6_begins 46 = .ok (.invokevirtual 104, 3) := by decide +kernel
theorem dX6_begins_49 : decode cX6_begins 49 = .ok (.ifCond .eq 10, 3) := by decide +kernel
theorem dX6_begins_52 : decode cX6_begins 52 = .ok (.aload_n 0, 1) := by decide +kernel
theorem dX6_begins_53 : decode cX6_begins 53 = .ok (.invokevirtual 145, 3) := by decide +kernel
theorem dX6_begins_56 : decode cX6_begins 56 = .ok (.goto 11, 3) := by decide +kernel
theorem dX6_begins_59 : decode cX6_begins 59 = .ok (.iload_n 3, 1) := by decide +kernel
theorem dX6_begins_60 : decode cX6_begins 60 = .ok (.ifCond .ne 7, 3) := by decide +kernel
theorem dX6_begins_63 : decode cX6_begins 63 = .ok (.aload_n 0, 1) := by decide +kernel
theorem dX6_begins_64 : decode cX6_begins 64 = .ok (.invokevirtual 91, 3) := by decide +kernel
theorem dX6_begins_67 : decode cX6_begins 67 = .ok (.return_, 1) := by decide +kernel
theorem dX6_play_0 : decode cX6_play 0 = .ok (.aload_n 0, 1) := by decide +kernel
theorem dX6_play_1 : decode cX6_play 1 = .ok (.iconst 0, 1) := by decide +kernel
theorem dX6_play_2 : decode cX6_play 2 = .ok (.putfield 80, 3) := by decide +kernel
theorem dX6_play_5 : decode cX6_play 5 = .ok (.aload_n 0, 1) := by decide +kernel
theorem dX6_play_6 : decode cX6_play 6 = .ok (.iload_n 1, 1) := by decide +kernel
theorem dX6_play_7 : decode cX6_play 7 = .ok (.invokevirtual 94, 3) := by decide +kernel
theorem dX6_play_10 : decode cX6_play 10 = .ok (.ifCond .eq 11, 3) := by decide +kernel
theorem dX6_play_13 : decode cX6_play 13 = .ok (.aload_n 0, 1) := by decide +kernel
theorem dX6_play_14 : decode cX6_play 14 = .ok (.iload_n 1, 1) := by decide +kernel
theorem dX6_play_15 : decode cX6_play 15 = .ok (.invokevirtual 101, 3) := by decide +kernel
theorem dX6_play_18 : decode cX6_play 18 = .ok (.ifCond .ne 5, 3) := by decide +kernel
theorem dX6_play_21 : decode cX6_play 21 = .ok (.iconst 0, 1) := by decide +kernel
theorem dX6_play_22 : decode cX6_play 22 = .ok (.ireturn, 1) := by decide +kernel
theorem dX6_play_23 : decode cX6_play 23 = .ok (.aload_n 0, 1) := by decide +kernel
theorem dX6_play_24 : decode cX6_play 24 = .ok (.iconst 0, 1) := by decide +kernel
theorem dX6_play_25 : decode cX6_play 25 = .ok (.iload_n 1, 1) := by decide +kernel
theorem dX6_play_26 : decode cX6_play 26 = .ok (.invokevirtual 158, 3) := by decide +kernel
theorem dX6_play_29 : decode cX6_play 29 = .ok (.aload_n 0, 1) := by decide +kernel
theorem dX6_play_30 : decode cX6_play 30 = .ok (.iload_n 1, 1) := by decide +kernel
theorem dX6_play_31 : decode cX6_play 31 = .ok (.iconst 1, 1) := by decide +kernel
theorem dX6_play_32 : decode cX6_play 32 = .ok (.iconst 0, 1) := by decide +kernel
theorem dX6_play_33 : decode cX6_play 33 = .ok (.invokevirtual 161, 3) := by decide +kernel
theorem dX6_play_36 : decode cX6_play 36 = .ok (.iconst 1, 1) := by decide +kernel
theorem dX6_play_37 : decode cX6_play 37 = .ok (.ireturn, 1) := by decide +kernel
theorem dX6_takes_0 : decode cX6_takes 0 = .ok (.aload_n 0, 1) := by decide +kernel
theorem dX6_takes_1 : decode cX6_takes 1 = .ok (.iload_n 2, 1) := by decide +kernel
theorem dX6_takes_2 : decode cX6_takes 2 = .ok (.ifCond .eq 7, 3) := by decide +kernel
theorem dX6_takes_5 : decode cX6_takes 5 = .ok (.iconst 1, 1) := by decide +kernel
theorem dX6_takes_6 : decode cX6_takes 6 = .ok (.goto 4, 3) := by decide +kernel
theorem dX6_takes_9 : decode cX6_takes 9 = .ok (.iconst 2, 1) := by decide +kernel
theorem dX6_takes_10 : decode cX6_takes 10 = .ok (.iload_n 1, 1) := by decide +kernel
theorem dX6_takes_11 : decode cX6_takes 11 = .ok (.invokevirtual 158, 3) := by decide +kernel
theorem dX6_takes_14 : decode cX6_takes 14 = .ok (.aload_n 0, 1) := by decide +kernel
theorem dX6_takes_15 : decode cX6_takes 15 = .ok (.aload_n 0, 1) := by decide +kernel
theorem dX6_takes_16 : decode cX6_takes 16 = .ok (.getfield 31, 3) := by decide +kernel
theorem dX6_takes_19 : decode cX6_takes 19 = .ok (.iload_n 1, 1) := by decide +kernel
theorem dX6_takes_20 : decode cX6_takes 20 = .ok (.iaload, 1) := by decide +kernel
theorem dX6_takes_21 : decode cX6_takes 21 = .ok (.aload_n 0, 1) := by decide +kernel
theorem dX6_takes_22 : decode cX6_takes 22 = .ok (.getfield 31, 3) := by decide +kernel
theorem dX6_takes_25 : decode cX6_takes 25 = .ok (.iload_n 1, 1) := by decide +kernel
theorem dX6_takes_26 : decode cX6_takes 26 = .ok (.iaload, 1) := by decide +kernel
theorem dX6_takes_27 : decode cX6_takes 27 = .ok (.aload_n 0, 1) := by decide +kernel
theorem dX6_takes_28 : decode cX6_takes 28 = .ok (.iconst 0, 1) := by decide +kernel
theorem dX6_takes_29 : decode cX6_takes 29 = .ok (.invokevirtual 126, 3) := by decide +kernel
theorem dX6_takes_32 : decode cX6_takes 32 = .ok (.if_icmp .ne 13, 3) := by decide +kernel
theorem dX6_takes_35 : decode cX6_takes 35 = .ok (.aload_n 0, 1) := by decide +kernel
theorem dX6_takes_36 : decode cX6_takes 36 = .ok (.iconst 2, 1) := by decide +kernel
theorem dX6_takes_37 : decode cX6_takes 37 = .ok (.invokevirtual 126, 3) := by decide +kernel
theorem dX6_takes_40 : decode cX6_takes 40 = .ok (.iconst 1, 1) := by decide +kernel
theorem dX6_takes_41 : decode cX6_takes 41 = .ok (.iadd, 1) := by decide +kernel
theorem dX6_takes_42 : decode cX6_takes 42 = .ok (.goto 4, 3) := by decide +kernel
theorem dX6_takes_45 : decode cX6_takes 45 = .ok (.iconst 1, 1) := by decide +kernel
theorem dX6_takes_46 : decode cX6_takes 46 = .ok (.iload_n 2, 1) := by decide +kernel
theorem dX6_takes_47 : decode cX6_takes 47 = .ok (.invokevirtual 161, 3) := by decide +kernel
theorem dX6_takes_50 : decode cX6_takes 50 = .ok (.return_, 1) := by decide +kernel
theorem dX6_goesAgain_0 : decode cX6_goesAgain 0 = .ok (.aload_n 0, 1) := by decide +kernel
theorem dX6_goesAgain_1 : decode cX6_goesAgain 1 = .ok (.iconst 3, 1) := by decide +kernel
theorem dX6_goesAgain_2 : decode cX6_goesAgain 2 = .ok (.aload_n 0, 1) := by decide +kernel
theorem dX6_goesAgain_3 : decode cX6_goesAgain 3 = .ok (.iconst 0, 1) := by decide +kernel
theorem dX6_goesAgain_4 : decode cX6_goesAgain 4 = .ok (.invokevirtual 126, 3) := by decide +kernel
theorem dX6_goesAgain_7 : decode cX6_goesAgain 7 = .ok (.invokevirtual 158, 3) := by decide +kernel
theorem dX6_goesAgain_10 : decode cX6_goesAgain 10 = .ok (.aload_n 0, 1) := by decide +kernel
theorem dX6_goesAgain_11 : decode cX6_goesAgain 11 = .ok (.aload_n 0, 1) := by decide +kernel
theorem dX6_goesAgain_12 : decode cX6_goesAgain 12 = .ok (.iconst 0, 1) := by decide +kernel
theorem dX6_goesAgain_13 : decode cX6_goesAgain 13 = .ok (.invokevirtual 126, 3) := by decide +kernel
theorem dX6_goesAgain_16 : decode cX6_goesAgain 16 = .ok (.aload_n 0, 1) := by decide +kernel
theorem dX6_goesAgain_17 : decode cX6_goesAgain 17 = .ok (.iconst 2, 1) := by decide +kernel
theorem dX6_goesAgain_18 : decode cX6_goesAgain 18 = .ok (.invokevirtual 126, 3) := by decide +kernel
theorem dX6_goesAgain_21 : decode cX6_goesAgain 21 = .ok (.iconst 1, 1) := by decide +kernel
theorem dX6_goesAgain_22 : decode cX6_goesAgain 22 = .ok (.iadd, 1) := by decide +kernel
theorem dX6_goesAgain_23 : decode cX6_goesAgain 23 = .ok (.iload_n 1, 1) := by decide +kernel
theorem dX6_goesAgain_24 : decode cX6_goesAgain 24 = .ok (.invokevirtual 161, 3) := by decide +kernel
theorem dX6_goesAgain_27 : decode cX6_goesAgain 27 = .ok (.return_, 1) := by decide +kernel
theorem dX6_cheapest_0 : decode cX6_cheapest 0 = .ok (.iconst (-1), 1) := by decide +kernel
theorem dX6_cheapest_1 : decode cX6_cheapest 1 = .ok (.istore_n 2, 1) := by decide +kernel
theorem dX6_cheapest_2 : decode cX6_cheapest 2 = .ok (.iconst 0, 1) := by decide +kernel
theorem dX6_cheapest_3 : decode cX6_cheapest 3 = .ok (.istore_n 3, 1) := by decide +kernel
theorem dX6_cheapest_4 : decode cX6_cheapest 4 = .ok (.iload_n 3, 1) := by decide +kernel
theorem dX6_cheapest_5 : decode cX6_cheapest 5 = .ok (.aload_n 0, 1) := by decide +kernel
theorem dX6_cheapest_6 : decode cX6_cheapest 6 = .ok (.getfield 98, 3) := by decide +kernel
theorem dX6_cheapest_9 : decode cX6_cheapest 9 = .ok (.if_icmp .ge 56, 3) := by decide +kernel
theorem dX6_cheapest_12 : decode cX6_cheapest 12 = .ok (.aload_n 0, 1) := by decide +kernel
theorem dX6_cheapest_13 : decode cX6_cheapest 13 = .ok (.getfield 25, 3) := by decide +kernel
theorem dX6_cheapest_16 : decode cX6_cheapest 16 = .ok (.iload_n 3, 1) := by decide +kernel
theorem dX6_cheapest_17 : decode cX6_cheapest 17 = .ok (.iaload, 1) := by decide +kernel
theorem dX6_cheapest_18 : decode cX6_cheapest 18 = .ok (.iload_n 1, 1) := by decide +kernel
theorem dX6_cheapest_19 : decode cX6_cheapest 19 = .ok (.if_icmp .ne 40, 3) := by decide +kernel
theorem dX6_cheapest_22 : decode cX6_cheapest 22 = .ok (.aload_n 0, 1) := by decide +kernel
theorem dX6_cheapest_23 : decode cX6_cheapest 23 = .ok (.getfield 28, 3) := by decide +kernel
theorem dX6_cheapest_26 : decode cX6_cheapest 26 = .ok (.iload_n 3, 1) := by decide +kernel
theorem dX6_cheapest_27 : decode cX6_cheapest 27 = .ok (.iaload, 1) := by decide +kernel
theorem dX6_cheapest_28 : decode cX6_cheapest 28 = .ok (.aload_n 0, 1) := by decide +kernel
theorem dX6_cheapest_29 : decode cX6_cheapest 29 = .ok (.getfield 13, 3) := by decide +kernel
theorem dX6_cheapest_32 : decode cX6_cheapest 32 = .ok (.iload_n 1, 1) := by decide +kernel
theorem dX6_cheapest_33 : decode cX6_cheapest 33 = .ok (.iaload, 1) := by decide +kernel
theorem dX6_cheapest_34 : decode cX6_cheapest 34 = .ok (.if_icmp .ne 25, 3) := by decide +kernel
theorem dX6_cheapest_37 : decode cX6_cheapest 37 = .ok (.iload_n 2, 1) := by decide +kernel
theorem dX6_cheapest_38 : decode cX6_cheapest 38 = .ok (.iconst (-1), 1) := by decide +kernel
theorem dX6_cheapest_39 : decode cX6_cheapest 39 = .ok (.if_icmp .eq 18, 3) := by decide +kernel
theorem dX6_cheapest_42 : decode cX6_cheapest 42 = .ok (.aload_n 0, 1) := by decide +kernel
theorem dX6_cheapest_43 : decode cX6_cheapest 43 = .ok (.getfield 34, 3) := by decide +kernel
theorem dX6_cheapest_46 : decode cX6_cheapest 46 = .ok (.iload_n 3, 1) := by decide +kernel
theorem dX6_cheapest_47 : decode cX6_cheapest 47 = .ok (.iaload, 1) := by decide +kernel
theorem dX6_cheapest_48 : decode cX6_cheapest 48 = .ok (.aload_n 0, 1) := by decide +kernel
theorem dX6_cheapest_49 : decode cX6_cheapest 49 = .ok (.getfield 34, 3) := by decide +kernel
theorem dX6_cheapest_52 : decode cX6_cheapest 52 = .ok (.iload_n 2, 1) := by decide +kernel
theorem dX6_cheapest_53 : decode cX6_cheapest 53 = .ok (.iaload, 1) := by decide +kernel
theorem dX6_cheapest_54 : decode cX6_cheapest 54 = .ok (.if_icmp .ge 5, 3) := by decide +kernel
theorem dX6_cheapest_57 : decode cX6_cheapest 57 = .ok (.iload_n 3, 1) := by decide +kernel
theorem dX6_cheapest_58 : decode cX6_cheapest 58 = .ok (.istore_n 2, 1) := by decide +kernel
theorem dX6_cheapest_59 : decode cX6_cheapest 59 = .ok (.iinc 3 1, 3) := by decide +kernel
theorem dX6_cheapest_62 : decode cX6_cheapest 62 = .ok (.goto (-58), 3) := by decide +kernel
theorem dX6_cheapest_65 : decode cX6_cheapest 65 = .ok (.iload_n 2, 1) := by decide +kernel
theorem dX6_cheapest_66 : decode cX6_cheapest 66 = .ok (.ireturn, 1) := by decide +kernel
theorem dX6_silence_0 : decode cX6_silence 0 = .ok (.aload_n 0, 1) := by decide +kernel
theorem dX6_silence_1 : decode cX6_silence 1 = .ok (.bipush 7, 2) := by decide +kernel
theorem dX6_silence_3 : decode cX6_silence 3 = .ok (.aload_n 0, 1) := by decide +kernel
theorem dX6_silence_4 : decode cX6_silence 4 = .ok (.iconst 0, 1) := by decide +kernel
theorem dX6_silence_5 : decode cX6_silence 5 = .ok (.invokevirtual 126, 3) := by decide +kernel
theorem dX6_silence_8 : decode cX6_silence 8 = .ok (.invokevirtual 158, 3) := by decide +kernel
theorem dX6_silence_11 : decode cX6_silence 11 = .ok (.aload_n 0, 1) := by decide +kernel
theorem dX6_silence_12 : decode cX6_silence 12 = .ok (.getfield 40, 3) := by decide +kernel
theorem dX6_silence_15 : decode cX6_silence 15 = .ok (.iconst 0, 1) := by decide +kernel
theorem dX6_silence_16 : decode cX6_silence 16 = .ok (.ldc2_w 78, 3) := by decide +kernel
theorem dX6_silence_19 : decode cX6_silence 19 = .ok (.lastore, 1) := by decide +kernel
theorem dX6_silence_20 : decode cX6_silence 20 = .ok (.aload_n 0, 1) := by decide +kernel
theorem dX6_silence_21 : decode cX6_silence 21 = .ok (.getfield 40, 3) := by decide +kernel
theorem dX6_silence_24 : decode cX6_silence 24 = .ok (.iconst 1, 1) := by decide +kernel
theorem dX6_silence_25 : decode cX6_silence 25 = .ok (.lconst 0, 1) := by decide +kernel
theorem dX6_silence_26 : decode cX6_silence 26 = .ok (.lastore, 1) := by decide +kernel
theorem dX6_silence_27 : decode cX6_silence 27 = .ok (.aload_n 0, 1) := by decide +kernel
theorem dX6_silence_28 : decode cX6_silence 28 = .ok (.getfield 40, 3) := by decide +kernel
theorem dX6_silence_31 : decode cX6_silence 31 = .ok (.iconst 3, 1) := by decide +kernel
theorem dX6_silence_32 : decode cX6_silence 32 = .ok (.lconst 0, 1) := by decide +kernel
theorem dX6_silence_33 : decode cX6_silence 33 = .ok (.lastore, 1) := by decide +kernel
theorem dX6_silence_34 : decode cX6_silence 34 = .ok (.aload_n 0, 1) := by decide +kernel
theorem dX6_silence_35 : decode cX6_silence 35 = .ok (.getfield 40, 3) := by decide +kernel
theorem dX6_silence_38 : decode cX6_silence 38 = .ok (.iconst 2, 1) := by decide +kernel
theorem dX6_silence_39 : decode cX6_silence 39 = .ok (.lconst 0, 1) := by decide +kernel
theorem dX6_silence_40 : decode cX6_silence 40 = .ok (.lastore, 1) := by decide +kernel
theorem dX6_silence_41 : decode cX6_silence 41 = .ok (.iconst 0, 1) := by decide +kernel
theorem dX6_silence_42 : decode cX6_silence 42 = .ok (.istore_n 1, 1) := by decide +kernel
theorem dX6_silence_43 : decode cX6_silence 43 = .ok (.iload_n 1, 1) := by decide +kernel
theorem dX6_silence_44 : decode cX6_silence 44 = .ok (.bipush 20, 2) := by decide +kernel
theorem dX6_silence_46 : decode cX6_silence 46 = .ok (.if_icmp .ge 19, 3) := by decide +kernel
theorem dX6_silence_49 : decode cX6_silence 49 = .ok (.aload_n 0, 1) := by decide +kernel
theorem dX6_silence_50 : decode cX6_silence 50 = .ok (.getfield 40, 3) := by decide +kernel
theorem dX6_silence_53 : decode cX6_silence 53 = .ok (.bipush 36, 2) := by decide +kernel
theorem dX6_silence_55 : decode cX6_silence 55 = .ok (.iload_n 1, 1) := by decide +kernel
theorem dX6_silence_56 : decode cX6_silence 56 = .ok (.iadd, 1) := by decide +kernel
theorem dX6_silence_57 : decode cX6_silence 57 = .ok (.lconst 0, 1) := by decide +kernel
theorem dX6_silence_58 : decode cX6_silence 58 = .ok (.lastore, 1) := by decide +kernel
theorem dX6_silence_59 : decode cX6_silence 59 = .ok (.iinc 1 1, 3) := by decide +kernel
theorem dX6_silence_62 : decode cX6_silence 62 = .ok (.goto (-19), 3) := by decide +kernel
theorem dX6_silence_65 : decode cX6_silence 65 = .ok (.aload_n 0, 1) := by decide +kernel
theorem dX6_silence_66 : decode cX6_silence 66 = .ok (.invokevirtual 91, 3) := by decide +kernel
theorem dX6_silence_69 : decode cX6_silence 69 = .ok (.return_, 1) := by decide +kernel
theorem dX6_isDone_0 : decode cX6_isDone 0 = .ok (.aload_n 0, 1) := by decide +kernel
theorem dX6_isDone_1 : decode cX6_isDone 1 = .ok (.iconst 0, 1) := by decide +kernel
theorem dX6_isDone_2 : decode cX6_isDone 2 = .ok (.invokevirtual 126, 3) := by decide +kernel
theorem dX6_isDone_5 : decode cX6_isDone 5 = .ok (.istore_n 1, 1) := by decide +kernel
theorem dX6_isDone_6 : decode cX6_isDone 6 = .ok (.aload_n 0, 1) := by decide +kernel
theorem dX6_isDone_7 : decode cX6_isDone 7 = .ok (.getfield 40, 3) := by decide +kernel
theorem dX6_isDone_10 : decode cX6_isDone 10 = .ok (.iconst 1, 1) := by decide +kernel
theorem dX6_isDone_11 : decode cX6_isDone 11 = .ok (.dup2, 1) := by decide +kernel
theorem dX6_isDone_12 : decode cX6_isDone 12 = .ok (.laload, 1) := by decide +kernel
theorem dX6_isDone_13 : decode cX6_isDone 13 = .ok (.lconst 1, 1) := by decide +kernel
theorem dX6_isDone_14 : decode cX6_isDone 14 = .ok (.ladd, 1) := by decide +kernel
theorem dX6_isDone_15 : decode cX6_isDone 15 = .ok (.lastore, 1) := by decide +kernel
theorem dX6_isDone_16 : decode cX6_isDone 16 = .ok (.aload_n 0, 1) := by decide +kernel
theorem dX6_isDone_17 : decode cX6_isDone 17 = .ok (.getfield 40, 3) := by decide +kernel
theorem dX6_isDone_20 : decode cX6_isDone 20 = .ok (.iconst 3, 1) := by decide +kernel
theorem dX6_isDone_21 : decode cX6_isDone 21 = .ok (.lconst 0, 1) := by decide +kernel
theorem dX6_isDone_22 : decode cX6_isDone 22 = .ok (.lastore, 1) := by decide +kernel
theorem dX6_isDone_23 : decode cX6_isDone 23 = .ok (.aload_n 0, 1) := by decide +kernel
theorem dX6_isDone_24 : decode cX6_isDone 24 = .ok (.iconst 1, 1) := by decide +kernel
theorem dX6_isDone_25 : decode cX6_isDone 25 = .ok (.invokevirtual 126, 3) := by decide +kernel
theorem dX6_isDone_28 : decode cX6_isDone 28 = .ok (.istore_n 2, 1) := by decide +kernel
theorem dX6_isDone_29 : decode cX6_isDone 29 = .ok (.iload_n 2, 1) := by decide +kernel
theorem dX6_isDone_30 : decode cX6_isDone 30 = .ok (.aload_n 0, 1) := by decide +kernel
theorem dX6_isDone_31 : decode cX6_isDone 31 = .ok (.getfield 13, 3) := by decide +kernel
theorem dX6_isDone_34 : decode cX6_isDone 34 = .ok (.iload_n 1, 1) := by decide +kernel
theorem dX6_isDone_35 : decode cX6_isDone 35 = .ok (.iaload, 1) := by decide +kernel
theorem dX6_isDone_36 : decode cX6_isDone 36 = .ok (.if_icmp .ne 7, 3) := by decide +kernel
theorem dX6_isDone_39 : decode cX6_isDone 39 = .ok (.iconst 1, 1) := by decide +kernel
theorem dX6_isDone_40 : decode cX6_isDone 40 = .ok (.goto 4, 3) := by decide +kernel
theorem dX6_isDone_43 : decode cX6_isDone 43 = .ok (.iconst 0, 1) := by decide +kernel
theorem dX6_isDone_44 : decode cX6_isDone 44 = .ok (.istore_n 3, 1) := by decide +kernel
theorem dX6_isDone_45 : decode cX6_isDone 45 = .ok (.aload_n 0, 1) := by decide +kernel
theorem dX6_isDone_46 : decode cX6_isDone 46 = .ok (.getfield 116, 3) := by decide +kernel
theorem dX6_isDone_49 : decode cX6_isDone 49 = .ok (.ifCond .eq 26, 3) := by decide +kernel
theorem dX6_isDone_52 : decode cX6_isDone 52 = .ok (.aload_n 0, 1) := by decide +kernel
theorem dX6_isDone_53 : decode cX6_isDone 53 = .ok (.getfield 123, 3) := by decide +kernel
theorem dX6_isDone_56 : decode cX6_isDone 56 = .ok (.aload_n 0, 1) := by decide +kernel
theorem dX6_isDone_57 : decode cX6_isDone 57 = .ok (.getfield 120, 3) := by decide +kernel
theorem dX6_isDone_60 : decode cX6_isDone 60 = .ok (.if_icmp .ge 15, 3) := by decide +kernel
theorem dX6_isDone_63 : decode cX6_isDone 63 = .ok (.aload_n 0, 1) := by decide +kernel
theorem dX6_isDone_64 : decode cX6_isDone 64 = .ok (.getfield 57, 3) := by decide +kernel
theorem dX6_isDone_67 : decode cX6_isDone 67 = .ok (.aload_n 0, 1) := by decide +kernel
theorem dX6_isDone_68 : decode cX6_isDone 68 = .ok (.getfield 123, 3) := by decide +kernel
theorem dX6_isDone_71 : decode cX6_isDone 71 = .ok (.iaload, 1) := by decide +kernel
theorem dX6_isDone_72 : decode cX6_isDone 72 = .ok (.goto 4, 3) := by decide +kernel
theorem dX6_isDone_75 : decode cX6_isDone 75 = .ok (.iconst (-1), 1) := by decide +kernel
theorem dX6_isDone_76 : decode cX6_isDone 76 = .ok (.istore 4, 2) := by decide +kernel
theorem dX6_isDone_78 : decode cX6_isDone 78 = .ok (.iload 4, 2) := by decide +kernel
theorem dX6_isDone_80 : decode cX6_isDone 80 = .ok (.bipush 100, 2) := by decide +kernel
theorem dX6_isDone_82 : decode cX6_isDone 82 = .ok (.if_icmp .ne 10, 3) := by decide +kernel
theorem dX6_isDone_85 : decode cX6_isDone 85 = .ok (.iload_n 3, 1) := by decide +kernel
theorem dX6_isDone_86 : decode cX6_isDone 86 = .ok (.ifCond .eq 58, 3) := by decide +kernel
theorem dX6_isDone_89 : decode cX6_isDone 89 = .ok (.goto 20, 3) := by decide +kernel
theorem dX6_isDone_92 : decode cX6_isDone 92 = .ok (.iload 4, 2) := by decide +kernel
theorem dX6_isDone_94 : decode cX6_isDone 94 = .ok (.iconst (-1), 1) := by decide +kernel
theorem dX6_isDone_95 : decode cX6_isDone 95 = .ok (.if_icmp .eq 49, 3) := by decide +kernel
theorem dX6_isDone_98 : decode cX6_isDone 98 = .ok (.aload_n 0, 1) := by decide +kernel
theorem dX6_isDone_99 : decode cX6_isDone 99 = .ok (.getfield 28, 3) := by decide +kernel
theorem dX6_isDone_102 : decode cX6_isDone 102 = .ok (.iload 4, 2) := by decide +kernel
theorem dX6_isDone_104 : decode cX6_isDone 104 = .ok (.iaload, 1) := by decide +kernel
theorem dX6_isDone_105 : decode cX6_isDone 105 = .ok (.iload_n 2, 1) := by decide +kernel
theorem dX6_isDone_106 : decode cX6_isDone 106 = .ok (.if_icmp .ne 38, 3) := by decide +kernel
theorem dX6_isDone_109 : decode cX6_isDone 109 = .ok (.aload_n 0, 1) := by decide +kernel
theorem dX6_isDone_110 : decode cX6_isDone 110 = .ok (.dup, 1) := by decide +kernel
theorem dX6_isDone_111 : decode cX6_isDone 111 = .ok (.getfield 123, 3) := by decide +kernel
theorem dX6_isDone_114 : decode cX6_isDone 114 = .ok (.iconst 1, 1) := by decide +kernel
theorem dX6_isDone_115 : decode cX6_isDone 115 = .ok (.iadd, 1) := by decide +kernel
theorem dX6_isDone_116 : decode cX6_isDone 116 = .ok (.putfield 123, 3) := by decide +kernel
theorem dX6_isDone_119 : decode cX6_isDone 119 = .ok (.iload 4, 2) := by decide +kernel
theorem dX6_isDone_121 : decode cX6_isDone 121 = .ok (.bipush 100, 2) := by decide +kernel
theorem dX6_isDone_123 : decode cX6_isDone 123 = .ok (.if_icmp .ne 11, 3) := by decide +kernel
theorem dX6_isDone_126 : decode cX6_isDone 126 = .ok (.aload_n 0, 1) := by decide +kernel
theorem dX6_isDone_127 : decode cX6_isDone 127 = .ok (.iconst 1, 1) := by decide +kernel
theorem dX6_isDone_128 : decode cX6_isDone 128 = .ok (.invokevirtual 165, 3) := by decide +kernel
theorem dX6_isDone_131 : decode cX6_isDone 131 = .ok (.goto 81, 3) := by decide +kernel
theorem dX6_isDone_134 : decode cX6_isDone 134 = .ok (.aload_n 0, 1) := by decide +kernel
theorem dX6_isDone_135 : decode cX6_isDone 135 = .ok (.iload 4, 2) := by decide +kernel
theorem dX6_isDone_137 : decode cX6_isDone 137 = .ok (.iconst 1, 1) := by decide +kernel
theorem dX6_isDone_138 : decode cX6_isDone 138 = .ok (.invokevirtual 169, 3) := by decide +kernel
theorem dX6_isDone_141 : decode cX6_isDone 141 = .ok (.goto 71, 3) := by decide +kernel
theorem dX6_isDone_144 : decode cX6_isDone 144 = .ok (.iload_n 3, 1) := by decide +kernel
theorem dX6_isDone_145 : decode cX6_isDone 145 = .ok (.ifCond .eq 67, 3) := by decide +kernel
theorem dX6_isDone_148 : decode cX6_isDone 148 = .ok (.aload_n 0, 1) := by decide +kernel
theorem dX6_isDone_149 : decode cX6_isDone 149 = .ok (.iload_n 1, 1) := by decide +kernel
theorem dX6_isDone_150 : decode cX6_isDone 150 = .ok (.invokevirtual 172, 3) := by decide +kernel
theorem dX6_isDone_153 : decode cX6_isDone 153 = .ok (.istore 5, 2) := by decide +kernel
theorem dX6_isDone_155 : decode cX6_isDone 155 = .ok (.aload_n 0, 1) := by decide +kernel
theorem dX6_isDone_156 : decode cX6_isDone 156 = .ok (.getfield 7, 3) := by decide +kernel
theorem dX6_isDone_159 : decode cX6_isDone 159 = .ok (.iload_n 1, 1) := by decide +kernel
theorem dX6_isDone_160 : decode cX6_isDone 160 = .ok (.iaload, 1) := by decide +kernel
theorem dX6_isDone_161 : decode cX6_isDone 161 = .ok (.ifCond .ne 31, 3) := by decide +kernel
theorem dX6_isDone_164 : decode cX6_isDone 164 = .ok (.aload_n 0, 1) := by decide +kernel
theorem dX6_isDone_165 : decode cX6_isDone 165 = .ok (.iconst 2, 1) := by decide +kernel
theorem dX6_isDone_166 : decode cX6_isDone 166 = .ok (.invokevirtual 126, 3) := by decide +kernel
theorem dX6_isDone_169 : decode cX6_isDone 169 = .ok (.aload_n 0, 1) := by decide +kernel
theorem dX6_isDone_170 : decode cX6_isDone 170 = .ok (.getfield 22, 3) := by decide +kernel
theorem dX6_isDone_173 : decode cX6_isDone 173 = .ok (.iload_n 1, 1) := by decide +kernel
theorem dX6_isDone_174 : decode cX6_isDone 174 = .ok (.iaload, 1) := by decide +kernel
theorem dX6_isDone_175 : decode cX6_isDone 175 = .ok (.if_icmp .lt 9, 3) := by decide +kernel
theorem dX6_isDone_178 : decode cX6_isDone 178 = .ok (.iload 5, 2) := by decide +kernel
theorem dX6_isDone_180 : decode cX6_isDone 180 = .ok (.iconst (-1), 1) := by decide +kernel
theorem dX6_isDone_181 : decode cX6_isDone 181 = .ok (.if_icmp .ne 11, 3) := by decide +kernel
theorem dX6_isDone_184 : decode cX6_isDone 184 = .ok (.aload_n 0, 1) := by decide +kernel
theorem dX6_isDone_185 : decode cX6_isDone 185 = .ok (.iconst 0, 1) := by decide +kernel
theorem dX6_isDone_186 : decode cX6_isDone 186 = .ok (.invokevirtual 165, 3) := by decide +kernel
theorem dX6_isDone_189 : decode cX6_isDone 189 = .ok (.goto 23, 3) := by decide +kernel
theorem dX6_isDone_192 : decode cX6_isDone 192 = .ok (.iload 5, 2) := by decide +kernel
theorem dX6_isDone_194 : decode cX6_isDone 194 = .ok (.iconst (-1), 1) := by decide +kernel
theorem dX6_isDone_195 : decode cX6_isDone 195 = .ok (.if_icmp .eq 13, 3) := by decide +kernel
theorem dX6_isDone_198 : decode cX6_isDone 198 = .ok (.aload_n 0, 1) := by decide +kernel
theorem dX6_isDone_199 : decode cX6_isDone 199 = .ok (.iload 5, 2) := by decide +kernel
theorem dX6_isDone_201 : decode cX6_isDone 201 = .ok (.iconst 0, 1) := by decide +kernel
theorem dX6_isDone_202 : decode cX6_isDone 202 = .ok (.invokevirtual 169, 3) := by decide +kernel
theorem dX6_isDone_205 : decode cX6_isDone 205 = .ok (.goto 7, 3) := by decide +kernel
theorem dX6_isDone_208 : decode cX6_isDone 208 = .ok (.aload_n 0, 1) := by decide +kernel
theorem dX6_isDone_209 : decode cX6_isDone 209 = .ok (.invokevirtual 175, 3) := by decide +kernel
theorem dX6_isDone_212 : decode cX6_isDone 212 = .ok (.aload_n 0, 1) := by decide +kernel
theorem dX6_isDone_213 : decode cX6_isDone 213 = .ok (.iconst 0, 1) := by decide +kernel
theorem dX6_isDone_214 : decode cX6_isDone 214 = .ok (.invokevirtual 126, 3) := by decide +kernel
theorem dX6_isDone_217 : decode cX6_isDone 217 = .ok (.iconst (-1), 1) := by decide +kernel
theorem dX6_isDone_218 : decode cX6_isDone 218 = .ok (.if_icmp .ne 4, 3) := by decide +kernel
theorem dX6_isDone_221 : decode cX6_isDone 221 = .ok (.return_, 1) := by decide +kernel
theorem dX6_isDone_222 : decode cX6_isDone 222 = .ok (.aload_n 0, 1) := by decide +kernel
theorem dX6_isDone_223 : decode cX6_isDone 223 = .ok (.invokevirtual 178, 3) := by decide +kernel
theorem dX6_isDone_226 : decode cX6_isDone 226 = .ok (.aload_n 0, 1) := by decide +kernel
theorem dX6_isDone_227 : decode cX6_isDone 227 = .ok (.iconst 5, 1) := by decide +kernel
theorem dX6_isDone_228 : decode cX6_isDone 228 = .ok (.invokevirtual 126, 3) := by decide +kernel
theorem dX6_isDone_231 : decode cX6_isDone 231 = .ok (.iconst (-1), 1) := by decide +kernel
theorem dX6_isDone_232 : decode cX6_isDone 232 = .ok (.if_icmp .ne 46, 3) := by decide +kernel
theorem dX6_isDone_235 : decode cX6_isDone 235 = .ok (.aload_n 0, 1) := by decide +kernel
theorem dX6_isDone_236 : decode cX6_isDone 236 = .ok (.bipush 6, 2) := by decide +kernel
theorem dX6_isDone_238 : decode cX6_isDone 238 = .ok (.invokevirtual 126, 3) := by decide +kernel
theorem dX6_isDone_241 : decode cX6_isDone 241 = .ok (.ifCond .le 37, 3) := by decide +kernel
theorem dX6_isDone_244 : decode cX6_isDone 244 = .ok (.aload_n 0, 1) := by decide +kernel
theorem dX6_isDone_245 : decode cX6_isDone 245 = .ok (.getfield 13, 3) := by decide +kernel
theorem dX6_isDone_248 : decode cX6_isDone 248 = .ok (.aload_n 0, 1) := by decide +kernel
theorem dX6_isDone_249 : decode cX6_isDone 249 = .ok (.iconst 0, 1) := by decide +kernel
theorem dX6_isDone_250 : decode cX6_isDone 250 = .ok (.invokevirtual 126, 3) := by decide +kernel
theorem dX6_isDone_253 : decode cX6_isDone 253 = .ok (.iaload, 1) := by decide +kernel
theorem dX6_isDone_254 : decode cX6_isDone 254 = .ok (.aload_n 0, 1) := by decide +kernel
theorem dX6_isDone_255 : decode cX6_isDone 255 = .ok (.iconst 1, 1) := by decide +kernel
theorem dX6_isDone_256 : decode cX6_isDone 256 = .ok (.invokevirtual 126, 3) := by decide +kernel
theorem dX6_isDone_259 : decode cX6_isDone 259 = .ok (.isub, 1) := by decide +kernel
theorem dX6_isDone_260 : decode cX6_isDone 260 = .ok (.aload_n 0, 1) := by decide +kernel
theorem dX6_isDone_261 : decode cX6_isDone 261 = .ok (.getfield 13, 3) := by decide +kernel
theorem dX6_isDone_264 : decode cX6_isDone 264 = .ok (.aload_n 0, 1) := by decide +kernel
theorem dX6_isDone_265 : decode cX6_isDone 265 = .ok (.bipush 7, 2) := by decide +kernel
theorem dX6_isDone_267 : decode cX6_isDone 267 = .ok (.invokevirtual 126, 3) := by decide +kernel
theorem dX6_isDone_270 : decode cX6_isDone 270 = .ok (.iaload, 1) := by decide +kernel
theorem dX6_isDone_271 : decode cX6_isDone 271 = .ok (.if_icmp .lt 7, 3) := by decide +kernel
theorem dX6_isDone_274 : decode cX6_isDone 274 = .ok (.aload_n 0, 1) := by decide +kernel
theorem dX6_isDone_275 : decode cX6_isDone 275 = .ok (.invokevirtual 181, 3) := by decide +kernel
theorem dX6_isDone_278 : decode cX6_isDone 278 = .ok (.return_, 1) := by decide +kernel
theorem dX6_levels_0 : decode cX6_levels 0 = .ok (.iconst 0, 1) := by decide +kernel
theorem dX6_levels_1 : decode cX6_levels 1 = .ok (.istore_n 1, 1) := by decide +kernel
theorem dX6_levels_2 : decode cX6_levels 2 = .ok (.iconst 0, 1) := by decide +kernel
theorem dX6_levels_3 : decode cX6_levels 3 = .ok (.istore_n 2, 1) := by decide +kernel
theorem dX6_levels_4 : decode cX6_levels 4 = .ok (.iload_n 2, 1) := by decide +kernel
theorem dX6_levels_5 : decode cX6_levels 5 = .ok (.aload_n 0, 1) := by decide +kernel
theorem dX6_levels_6 : decode cX6_levels 6 = .ok (.getfield 84, 3) := by decide +kernel
theorem dX6_levels_9 : decode cX6_levels 9 = .ok (.if_icmp .ge 20, 3) := by decide +kernel
theorem dX6_levels_12 : decode cX6_levels 12 = .ok (.iload_n 1, 1) := by decide +kernel
theorem dX6_levels_13 : decode cX6_levels 13 = .ok (.aload_n 0, 1) := by decide +kernel
theorem dX6_levels_14 : decode cX6_levels 14 = .ok (.bipush 36, 2) := by decide +kernel
theorem dX6_levels_16 : decode cX6_levels 16 = .ok (.iload_n 2, 1) := by decide +kernel
theorem dX6_levels_17 : decode cX6_levels 17 = .ok (.iadd, 1) := by decide +kernel
theorem dX6_levels_18 : decode cX6_levels 18 = .ok (.invokevirtual 126, 3) := by decide +kernel
theorem dX6_levels_21 : decode cX6_levels 21 = .ok (.iadd, 1) := by decide +kernel
theorem dX6_levels_22 : decode cX6_levels 22 = .ok (.istore_n 1, 1) := by decide +kernel
theorem dX6_levels_23 : decode cX6_levels 23 = .ok (.iinc 2 1, 3) := by decide +kernel
theorem dX6_levels_26 : decode cX6_levels 26 = .ok (.goto (-22), 3) := by decide +kernel
theorem dX6_levels_29 : decode cX6_levels 29 = .ok (.iload_n 1, 1) := by decide +kernel
theorem dX6_levels_30 : decode cX6_levels 30 = .ok (.ireturn, 1) := by decide +kernel
theorem dX6_layers_0 : decode cX6_layers 0 = .ok (.iconst 0, 1) := by decide +kernel
theorem dX6_layers_1 : decode cX6_layers 1 = .ok (.istore_n 1, 1) := by decide +kernel
theorem dX6_layers_2 : decode cX6_layers 2 = .ok (.iload_n 1, 1) := by decide +kernel
theorem dX6_layers_3 : decode cX6_layers 3 = .ok (.aload_n 0, 1) := by decide +kernel
theorem dX6_layers_4 : decode cX6_layers 4 = .ok (.getfield 84, 3) := by decide +kernel
theorem dX6_layers_7 : decode cX6_layers 7 = .ok (.if_icmp .ge 107, 3) := by decide +kernel
theorem dX6_layers_10 : decode cX6_layers 10 = .ok (.aload_n 0, 1) := by decide +kernel
theorem dX6_layers_11 : decode cX6_layers 11 = .ok (.getfield 7, 3) := by decide +kernel
theorem dX6_layers_14 : decode cX6_layers 14 = .ok (.iload_n 1, 1) := by decide +kernel
theorem dX6_layers_15 : decode cX6_layers 15 = .ok (.iaload, 1) := by decide +kernel
theorem dX6_layers_16 : decode cX6_layers 16 = .ok (.iconst 2, 1) := by decide +kernel
theorem dX6_layers_17 : decode cX6_layers 17 = .ok (.if_icmp .ne 91, 3) := by decide +kernel
theorem dX6_layers_20 : decode cX6_layers 20 = .ok (.aload_n 0, 1) := by decide +kernel
theorem dX6_layers_21 : decode cX6_layers 21 = .ok (.iconst 1, 1) := by decide +kernel
theorem dX6_layers_22 : decode cX6_layers 22 = .ok (.invokevirtual 126, 3) := by decide +kernel
theorem dX6_layers_25 : decode cX6_layers 25 = .ok (.aload_n 0, 1) := by decide +kernel
theorem dX6_layers_26 : decode cX6_layers 26 = .ok (.getfield 13, 3) := by decide +kernel
theorem dX6_layers_29 : decode cX6_layers 29 = .ok (.iload_n 1, 1) := by decide +kernel
theorem dX6_layers_30 : decode cX6_layers 30 = .ok (.iaload, 1) := by decide +kernel
theorem dX6_layers_31 : decode cX6_layers 31 = .ok (.irem, 1) := by decide +kernel
theorem dX6_layers_32 : decode cX6_layers 32 = .ok (.ifCond .eq 6, 3) := by decide +kernel
theorem dX6_layers_35 : decode cX6_layers 35 = .ok (.goto 73, 3) := by decide +kernel
theorem dX6_layers_38 : decode cX6_layers 38 = .ok (.aload_n 0, 1) := by decide +kernel
theorem dX6_layers_39 : decode cX6_layers 39 = .ok (.bipush 16, 2) := by decide +kernel
theorem dX6_layers_41 : decode cX6_layers 41 = .ok (.iload_n 1, 1) := by decide +kernel
theorem dX6_layers_42 : decode cX6_layers 42 = .ok (.iadd, 1) := by decide +kernel
theorem dX6_layers_43 : decode cX6_layers 43 = .ok (.invokevirtual 126, 3) := by decide +kernel
theorem dX6_layers_46 : decode cX6_layers 46 = .ok (.istore_n 2, 1) := by decide +kernel
theorem dX6_layers_47 : decode cX6_layers 47 = .ok (.aload_n 0, 1) := by decide +kernel
theorem dX6_layers_48 : decode cX6_layers 48 = .ok (.bipush 36, 2) := by decide +kernel
theorem dX6_layers_50 : decode cX6_layers 50 = .ok (.iload_n 1, 1) := by decide +kernel
theorem dX6_layers_51 : decode cX6_layers 51 = .ok (.iadd, 1) := by decide +kernel
theorem dX6_layers_52 : decode cX6_layers 52 = .ok (.invokevirtual 126, 3) := by decide +kernel
theorem dX6_layers_55 : decode cX6_layers 55 = .ok (.istore_n 3, 1) := by decide +kernel
theorem dX6_layers_56 : decode cX6_layers 56 = .ok (.iload_n 2, 1) := by decide +kernel
theorem dX6_layers_57 : decode cX6_layers 57 = .ok (.ifCond .le 30, 3) := by decide +kernel
theorem dX6_layers_60 : decode cX6_layers 60 = .ok (.iload_n 3, 1) := by decide +kernel
theorem dX6_layers_61 : decode cX6_layers 61 = .ok (.iload_n 2, 1) := by decide +kernel
theorem dX6_layers_62 : decode cX6_layers 62 = .ok (.if_icmp .ge 25, 3) := by decide +kernel
theorem dX6_layers_65 : decode cX6_layers 65 = .ok (.aload_n 0, 1) := by decide +kernel
theorem dX6_layers_66 : decode cX6_layers 66 = .ok (.invokevirtual 184, 3) := by decide +kernel
theorem dX6_layers_69 : decode cX6_layers 69 = .ok (.bipush 16, 2) := by decide +kernel
theorem dX6_layers_71 : decode cX6_layers 71 = .ok (.if_icmp .ge 16, 3) := by decide +kernel
theorem dX6_layers_74 : decode cX6_layers 74 = .ok (.aload_n 0, 1) := by decide +kernel
theorem dX6_layers_75 : decode cX6_layers 75 = .ok (.getfield 40, 3) := by decide +kernel
theorem dX6_layers_78 : decode cX6_layers 78 = .ok (.bipush 36, 2) := by decide +kernel
theorem dX6_layers_80 : decode cX6_layers 80 = .ok (.iload_n 1, 1) := by decide +kernel
theorem dX6_layers_81 : decode cX6_layers 81 = .ok (.iadd, 1) := by decide +kernel
theorem dX6_layers_82 : decode cX6_layers 82 = .ok (.dup2, 1) := by decide +kernel
theorem dX6_layers_83 : decode cX6_layers 83 = .ok (.laload, 1) := by decide +kernel
theorem dX6_layers_84 : decode cX6_layers 84 = .ok (.lconst 1, 1) := by decide +kernel
theorem dX6_layers_85 : decode cX6_layers 85 = .ok (.ladd, 1) := by decide +kernel
theorem dX6_layers_86 : decode cX6_layers 86 = .ok (.lastore, 1) := by decide +kernel
theorem dX6_layers_87 : decode cX6_layers 87 = .ok (.iload_n 2, 1) := by decide +kernel
theorem dX6_layers_88 : decode cX6_layers 88 = .ok (.ifCond .ne 20, 3) := by decide +kernel
theorem dX6_layers_91 : decode cX6_layers 91 = .ok (.iload_n 3, 1) := by decide +kernel
theorem dX6_layers_92 : decode cX6_layers 92 = .ok (.ifCond .le 16, 3) := by decide +kernel
theorem dX6_layers_95 : decode cX6_layers 95 = .ok (.aload_n 0, 1) := by decide +kernel
theorem dX6_layers_96 : decode cX6_layers 96 = .ok (.getfield 40, 3) := by decide +kernel
theorem dX6_layers_99 : decode cX6_layers 99 = .ok (.bipush 36, 2) := by decide +kernel
theorem dX6_layers_101 : decode cX6_layers 101 = .ok (.iload_n 1, 1) := by decide +kernel
theorem dX6_layers_102 : decode cX6_layers 102 = .ok (.iadd, 1) := by decide +kernel
theorem dX6_layers_103 : decode cX6_layers 103 = .ok (.dup2, 1) := by decide +kernel
theorem dX6_layers_104 : decode cX6_layers 104 = .ok (.laload, 1) := by decide +kernel
theorem dX6_layers_105 : decode cX6_layers 105 = .ok (.lconst 1, 1) := by decide +kernel
theorem dX6_layers_106 : decode cX6_layers 106 = .ok (.lsub, 1) := by decide +kernel
theorem dX6_layers_107 : decode cX6_layers 107 = .ok (.lastore, 1) := by decide +kernel
theorem dX6_layers_108 : decode cX6_layers 108 = .ok (.iinc 1 1, 3) := by decide +kernel
theorem dX6_layers_111 : decode cX6_layers 111 = .ok (.goto (-109), 3) := by decide +kernel
theorem dX6_layers_114 : decode cX6_layers 114 = .ok (.return_, 1) := by decide +kernel
theorem dX6_stings_0 : decode cX6_stings 0 = .ok (.aload_n 0, 1) := by decide +kernel
theorem dX6_stings_1 : decode cX6_stings 1 = .ok (.bipush 7, 2) := by decide +kernel
theorem dX6_stings_3 : decode cX6_stings 3 = .ok (.invokevirtual 126, 3) := by decide +kernel
theorem dX6_stings_6 : decode cX6_stings 6 = .ok (.istore_n 1, 1) := by decide +kernel
theorem dX6_stings_7 : decode cX6_stings 7 = .ok (.aload_n 0, 1) := by decide +kernel
theorem dX6_stings_8 : decode cX6_stings 8 = .ok (.getfield 40, 3) := by decide +kernel
theorem dX6_stings_11 : decode cX6_stings 11 = .ok (.bipush 6, 2) := by decide +kernel
theorem dX6_stings_13 : decode cX6_stings 13 = .ok (.dup2, 1) := by decide +kernel
theorem dX6_stings_14 : decode cX6_stings 14 = .ok (.laload, 1) := by decide +kernel
theorem dX6_stings_15 : decode cX6_stings 15 = .ok (.lconst 1, 1) := by decide +kernel
theorem dX6_stings_16 : decode cX6_stings 16 = .ok (.lsub, 1) := by decide +kernel
theorem dX6_stings_17 : decode cX6_stings 17 = .ok (.lastore, 1) := by decide +kernel
theorem dX6_stings_18 : decode cX6_stings 18 = .ok (.iconst 0, 1) := by decide +kernel
theorem dX6_stings_19 : decode cX6_stings 19 = .ok (.istore_n 2, 1) := by decide +kernel
theorem dX6_stings_20 : decode cX6_stings 20 = .ok (.iload_n 2, 1) := by decide +kernel
theorem dX6_stings_21 : decode cX6_stings 21 = .ok (.aload_n 0, 1) := by decide +kernel
theorem dX6_stings_22 : decode cX6_stings 22 = .ok (.bipush 6, 2) := by decide +kernel
theorem dX6_stings_24 : decode cX6_stings 24 = .ok (.invokevirtual 126, 3) := by decide +kernel
theorem dX6_stings_27 : decode cX6_stings 27 = .ok (.if_icmp .ge 29, 3) := by decide +kernel
theorem dX6_stings_30 : decode cX6_stings 30 = .ok (.aload_n 0, 1) := by decide +kernel
theorem dX6_stings_31 : decode cX6_stings 31 = .ok (.getfield 40, 3) := by decide +kernel
theorem dX6_stings_34 : decode cX6_stings 34 = .ok (.bipush 7, 2) := by decide +kernel
theorem dX6_stings_36 : decode cX6_stings 36 = .ok (.iload_n 2, 1) := by decide +kernel
theorem dX6_stings_37 : decode cX6_stings 37 = .ok (.iadd, 1) := by decide +kernel
theorem dX6_stings_38 : decode cX6_stings 38 = .ok (.aload_n 0, 1) := by decide +kernel
theorem dX6_stings_39 : decode cX6_stings 39 = .ok (.getfield 40, 3) := by decide +kernel
theorem dX6_stings_42 : decode cX6_stings 42 = .ok (.bipush 7, 2) := by decide +kernel
theorem dX6_stings_44 : decode cX6_stings 44 = .ok (.iload_n 2, 1) := by decide +kernel
theorem dX6_stings_45 : decode cX6_stings 45 = .ok (.iadd, 1) := by decide +kernel
theorem dX6_stings_46 : decode cX6_stings 46 = .ok (.iconst 1, 1) := by decide +kernel
theorem dX6_stings_47 : decode cX6_stings 47 = .ok (.iadd, 1) := by decide +kernel
theorem dX6_stings_48 : decode cX6_stings 48 = .ok (.laload, 1) := by decide +kernel
theorem dX6_stings_49 : decode cX6_stings 49 = .ok (.lastore, 1) := by decide +kernel
theorem dX6_stings_50 : decode cX6_stings 50 = .ok (.iinc 2 1, 3) := by decide +kernel
theorem dX6_stings_53 : decode cX6_stings 53 = .ok (.goto (-33), 3) := by decide +kernel
theorem dX6_stings_56 : decode cX6_stings 56 = .ok (.aload_n 0, 1) := by decide +kernel
theorem dX6_stings_57 : decode cX6_stings 57 = .ok (.getfield 40, 3) := by decide +kernel
theorem dX6_stings_60 : decode cX6_stings 60 = .ok (.iconst 5, 1) := by decide +kernel
theorem dX6_stings_61 : decode cX6_stings 61 = .ok (.iload_n 1, 1) := by decide +kernel
theorem dX6_stings_62 : decode cX6_stings 62 = .ok (.i2l, 1) := by decide +kernel
theorem dX6_stings_63 : decode cX6_stings 63 = .ok (.lastore, 1) := by decide +kernel
theorem dX6_stings_64 : decode cX6_stings 64 = .ok (.aload_n 0, 1) := by decide +kernel
theorem dX6_stings_65 : decode cX6_stings 65 = .ok (.aload_n 0, 1) := by decide +kernel
theorem dX6_stings_66 : decode cX6_stings 66 = .ok (.getfield 154, 3) := by decide +kernel
theorem dX6_stings_69 : decode cX6_stings 69 = .ok (.aload_n 0, 1) := by decide +kernel
theorem dX6_stings_70 : decode cX6_stings 70 = .ok (.getfield 13, 3) := by decide +kernel
theorem dX6_stings_73 : decode cX6_stings 73 = .ok (.iload_n 1, 1) := by decide +kernel
theorem dX6_stings_74 : decode cX6_stings 74 = .ok (.iaload, 1) := by decide +kernel
theorem dX6_stings_75 : decode cX6_stings 75 = .ok (.i2l, 1) := by decide +kernel
theorem dX6_stings_76 : decode cX6_stings 76 = .ok (.aload_n 0, 1) := by decide +kernel
theorem dX6_stings_77 : decode cX6_stings 77 = .ok (.getfield 16, 3) := by decide +kernel
theorem dX6_stings_80 : decode cX6_stings 80 = .ok (.iload_n 1, 1) := by decide +kernel
theorem dX6_stings_81 : decode cX6_stings 81 = .ok (.iaload, 1) := by decide +kernel
theorem dX6_stings_82 : decode cX6_stings 82 = .ok (.i2l, 1) := by decide +kernel
theorem dX6_stings_83 : decode cX6_stings 83 = .ok (.lmul, 1) := by decide +kernel
theorem dX6_stings_84 : decode cX6_stings 84 = .ok (.ladd, 1) := by decide +kernel
theorem dX6_stings_85 : decode cX6_stings 85 = .ok (.putfield 188, 3) := by decide +kernel
theorem dX6_stings_88 : decode cX6_stings 88 = .ok (.aload_n 0, 1) := by decide +kernel
theorem dX6_stings_89 : decode cX6_stings 89 = .ok (.iconst 5, 1) := by decide +kernel
theorem dX6_stings_90 : decode cX6_stings 90 = .ok (.iload_n 1, 1) := by decide +kernel
theorem dX6_stings_91 : decode cX6_stings 91 = .ok (.invokevirtual 158, 3) := by decide +kernel
theorem dX6_stings_94 : decode cX6_stings 94 = .ok (.return_, 1) := by decide +kernel
theorem dX6_layer_0 : decode cX6_layer 0 = .ok (.aload_n 0, 1) := by decide +kernel
theorem dX6_layer_1 : decode cX6_layer 1 = .ok (.iconst 0, 1) := by decide +kernel
theorem dX6_layer_2 : decode cX6_layer 2 = .ok (.putfield 80, 3) := by decide +kernel
theorem dX6_layer_5 : decode cX6_layer 5 = .ok (.aload_n 0, 1) := by decide +kernel
theorem dX6_layer_6 : decode cX6_layer 6 = .ok (.iload_n 1, 1) := by decide +kernel
theorem dX6_layer_7 : decode cX6_layer 7 = .ok (.invokevirtual 94, 3) := by decide +kernel
theorem dX6_layer_10 : decode cX6_layer 10 = .ok (.ifCond .ne 5, 3) := by decide +kernel
theorem dX6_layer_13 : decode cX6_layer 13 = .ok (.iconst 0, 1) := by decide +kernel
theorem dX6_layer_14 : decode cX6_layer 14 = .ok (.ireturn, 1) := by decide +kernel
theorem dX6_layer_15 : decode cX6_layer 15 = .ok (.aload_n 0, 1) := by decide +kernel
theorem dX6_layer_16 : decode cX6_layer 16 = .ok (.getfield 7, 3) := by decide +kernel
theorem dX6_layer_19 : decode cX6_layer 19 = .ok (.iload_n 1, 1) := by decide +kernel
theorem dX6_layer_20 : decode cX6_layer 20 = .ok (.iaload, 1) := by decide +kernel
theorem dX6_layer_21 : decode cX6_layer 21 = .ok (.iconst 2, 1) := by decide +kernel
theorem dX6_layer_22 : decode cX6_layer 22 = .ok (.if_icmp .ne 13, 3) := by decide +kernel
theorem dX6_layer_25 : decode cX6_layer 25 = .ok (.iload_n 2, 1) := by decide +kernel
theorem dX6_layer_26 : decode cX6_layer 26 = .ok (.ifCond .lt 9, 3) := by decide +kernel
theorem dX6_layer_29 : decode cX6_layer 29 = .ok (.iload_n 2, 1) := by decide +kernel
theorem dX6_layer_30 : decode cX6_layer 30 = .ok (.bipush 8, 2) := by decide +kernel
theorem dX6_layer_32 : decode cX6_layer 32 = .ok (.if_icmp .le 5, 3) := by decide +kernel
theorem dX6_layer_35 : decode cX6_layer 35 = .ok (.iconst (-1), 1) := by decide +kernel
theorem dX6_layer_36 : decode cX6_layer 36 = .ok (.ireturn, 1) := by decide +kernel
theorem dX6_layer_37 : decode cX6_layer 37 = .ok (.aload_n 0, 1) := by decide +kernel
theorem dX6_layer_38 : decode cX6_layer 38 = .ok (.bipush 16, 2) := by decide +kernel
theorem dX6_layer_40 : decode cX6_layer 40 = .ok (.iload_n 1, 1) := by decide +kernel
theorem dX6_layer_41 : decode cX6_layer 41 = .ok (.iadd, 1) := by decide +kernel
theorem dX6_layer_42 : decode cX6_layer 42 = .ok (.invokevirtual 126, 3) := by decide +kernel
theorem dX6_layer_45 : decode cX6_layer 45 = .ok (.istore_n 3, 1) := by decide +kernel
theorem dX6_layer_46 : decode cX6_layer 46 = .ok (.aload_n 0, 1) := by decide +kernel
theorem dX6_layer_47 : decode cX6_layer 47 = .ok (.getfield 40, 3) := by decide +kernel
theorem dX6_layer_50 : decode cX6_layer 50 = .ok (.bipush 16, 2) := by decide +kernel
theorem dX6_layer_52 : decode cX6_layer 52 = .ok (.iload_n 1, 1) := by decide +kernel
theorem dX6_layer_53 : decode cX6_layer 53 = .ok (.iadd, 1) := by decide +kernel
theorem dX6_layer_54 : decode cX6_layer 54 = .ok (.iload_n 2, 1) := by decide +kernel
theorem dX6_layer_55 : decode cX6_layer 55 = .ok (.i2l, 1) := by decide +kernel
theorem dX6_layer_56 : decode cX6_layer 56 = .ok (.lastore, 1) := by decide +kernel
theorem dX6_layer_57 : decode cX6_layer 57 = .ok (.iload_n 3, 1) := by decide +kernel
theorem dX6_layer_58 : decode cX6_layer 58 = .ok (.ireturn, 1) := by decide +kernel
theorem dX6_sting_0 : decode cX6_sting 0 = .ok (.aload_n 0, 1) := by decide +kernel
theorem dX6_sting_1 : decode cX6_sting 1 = .ok (.iconst 0, 1) := by decide +kernel
theorem dX6_sting_2 : decode cX6_sting 2 = .ok (.putfield 80, 3) := by decide +kernel
theorem dX6_sting_5 : decode cX6_sting 5 = .ok (.aload_n 0, 1) := by decide +kernel
theorem dX6_sting_6 : decode cX6_sting 6 = .ok (.iload_n 1, 1) := by decide +kernel
theorem dX6_sting_7 : decode cX6_sting 7 = .ok (.invokevirtual 94, 3) := by decide +kernel
theorem dX6_sting_10 : decode cX6_sting 10 = .ok (.ifCond .ne 5, 3) := by decide +kernel
theorem dX6_sting_13 : decode cX6_sting 13 = .ok (.iconst 0, 1) := by decide +kernel
theorem dX6_sting_14 : decode cX6_sting 14 = .ok (.ireturn, 1) := by decide +kernel
theorem dX6_sting_15 : decode cX6_sting 15 = .ok (.aload_n 0, 1) := by decide +kernel
theorem dX6_sting_16 : decode cX6_sting 16 = .ok (.getfield 7, 3) := by decide +kernel
theorem dX6_sting_19 : decode cX6_sting 19 = .ok (.iload_n 1, 1) := by decide +kernel
theorem dX6_sting_20 : decode cX6_sting 20 = .ok (.iaload, 1) := by decide +kernel
theorem dX6_sting_21 : decode cX6_sting 21 = .ok (.iconst 3, 1) := by decide +kernel
theorem dX6_sting_22 : decode cX6_sting 22 = .ok (.if_icmp .ne 13, 3) := by decide +kernel
theorem dX6_sting_25 : decode cX6_sting 25 = .ok (.aload_n 0, 1) := by decide +kernel
theorem dX6_sting_26 : decode cX6_sting 26 = .ok (.bipush 6, 2) := by decide +kernel
theorem dX6_sting_28 : decode cX6_sting 28 = .ok (.invokevirtual 126, 3) := by decide +kernel
theorem dX6_sting_31 : decode cX6_sting 31 = .ok (.iconst 4, 1) := by decide +kernel
theorem dX6_sting_32 : decode cX6_sting 32 = .ok (.if_icmp .ne 5, 3) := by decide +kernel
theorem dX6_sting_35 : decode cX6_sting 35 = .ok (.iconst (-1), 1) := by decide +kernel
theorem dX6_sting_36 : decode cX6_sting 36 = .ok (.ireturn, 1) := by decide +kernel
theorem dX6_sting_37 : decode cX6_sting 37 = .ok (.aload_n 0, 1) := by decide +kernel
theorem dX6_sting_38 : decode cX6_sting 38 = .ok (.getfield 40, 3) := by decide +kernel
theorem dX6_sting_41 : decode cX6_sting 41 = .ok (.bipush 7, 2) := by decide +kernel
theorem dX6_sting_43 : decode cX6_sting 43 = .ok (.aload_n 0, 1) := by decide +kernel
theorem dX6_sting_44 : decode cX6_sting 44 = .ok (.bipush 6, 2) := by decide +kernel
theorem dX6_sting_46 : decode cX6_sting 46 = .ok (.invokevirtual 126, 3) := by decide +kernel
theorem dX6_sting_49 : decode cX6_sting 49 = .ok (.iadd, 1) := by decide +kernel
theorem dX6_sting_50 : decode cX6_sting 50 = .ok (.iload_n 1, 1) := by decide +kernel
theorem dX6_sting_51 : decode cX6_sting 51 = .ok (.i2l, 1) := by decide +kernel
theorem dX6_sting_52 : decode cX6_sting 52 = .ok (.lastore, 1) := by decide +kernel
theorem dX6_sting_53 : decode cX6_sting 53 = .ok (.aload_n 0, 1) := by decide +kernel
theorem dX6_sting_54 : decode cX6_sting 54 = .ok (.getfield 40, 3) := by decide +kernel
theorem dX6_sting_57 : decode cX6_sting 57 = .ok (.bipush 6, 2) := by decide +kernel
theorem dX6_sting_59 : decode cX6_sting 59 = .ok (.dup2, 1) := by decide +kernel
theorem dX6_sting_60 : decode cX6_sting 60 = .ok (.laload, 1) := by decide +kernel
theorem dX6_sting_61 : decode cX6_sting 61 = .ok (.lconst 1, 1) := by decide +kernel
theorem dX6_sting_62 : decode cX6_sting 62 = .ok (.ladd, 1) := by decide +kernel
theorem dX6_sting_63 : decode cX6_sting 63 = .ok (.lastore, 1) := by decide +kernel
theorem dX6_sting_64 : decode cX6_sting 64 = .ok (.aload_n 0, 1) := by decide +kernel
theorem dX6_sting_65 : decode cX6_sting 65 = .ok (.bipush 6, 2) := by decide +kernel
theorem dX6_sting_67 : decode cX6_sting 67 = .ok (.invokevirtual 126, 3) := by decide +kernel
theorem dX6_sting_70 : decode cX6_sting 70 = .ok (.ireturn, 1) := by decide +kernel
theorem dX6_go_0 : decode cX6_go 0 = .ok (.aload_n 0, 1) := by decide +kernel
theorem dX6_go_1 : decode cX6_go 1 = .ok (.iconst 0, 1) := by decide +kernel
theorem dX6_go_2 : decode cX6_go 2 = .ok (.putfield 80, 3) := by decide +kernel
theorem dX6_go_5 : decode cX6_go 5 = .ok (.aload_n 0, 1) := by decide +kernel
theorem dX6_go_6 : decode cX6_go 6 = .ok (.iload_n 1, 1) := by decide +kernel
theorem dX6_go_7 : decode cX6_go 7 = .ok (.ifCond .lt 14, 3) := by decide +kernel
theorem dX6_go_10 : decode cX6_go 10 = .ok (.iload_n 1, 1) := by decide +kernel
theorem dX6_go_11 : decode cX6_go 11 = .ok (.sipush 20000, 3) := by decide +kernel
theorem dX6_go_14 : decode cX6_go 14 = .ok (.if_icmp .gt 7, 3) := by decide +kernel
theorem dX6_go_17 : decode cX6_go 17 = .ok (.iconst 1, 1) := by decide +kernel
theorem dX6_go_18 : decode cX6_go 18 = .ok (.goto 4, 3) := by decide +kernel
theorem dX6_go_21 : decode cX6_go 21 = .ok (.iconst 0, 1) := by decide +kernel
theorem dX6_go_22 : decode cX6_go 22 = .ok (.iconst 1, 1) := by decide +kernel
theorem dX6_go_23 : decode cX6_go 23 = .ok (.invokevirtual 87, 3) := by decide +kernel
theorem dX6_go_26 : decode cX6_go 26 = .ok (.ifCond .ne 5, 3) := by decide +kernel
theorem dX6_go_29 : decode cX6_go 29 = .ok (.lconst 0, 1) := by decide +kernel
theorem dX6_go_30 : decode cX6_go 30 = .ok (.lreturn, 1) := by decide +kernel
theorem dX6_go_31 : decode cX6_go 31 = .ok (.aload_n 0, 1) := by decide +kernel
theorem dX6_go_32 : decode cX6_go 32 = .ok (.getfield 154, 3) := by decide +kernel
theorem dX6_go_35 : decode cX6_go 35 = .ok (.iload_n 1, 1) := by decide +kernel
theorem dX6_go_36 : decode cX6_go 36 = .ok (.i2l, 1) := by decide +kernel
theorem dX6_go_37 : decode cX6_go 37 = .ok (.ladd, 1) := by decide +kernel
theorem dX6_go_38 : decode cX6_go 38 = .ok (.lstore_n 2, 1) := by decide +kernel
theorem dX6_go_39 : decode cX6_go 39 = .ok (.iconst 1, 1) := by decide +kernel
theorem dX6_go_40 : decode cX6_go 40 = .ok (.istore 4, 2) := by decide +kernel
theorem dX6_go_42 : decode cX6_go 42 = .ok (.iload 4, 2) := by decide +kernel
theorem dX6_go_44 : decode cX6_go 44 = .ok (.ifCond .eq 183, 3) := by decide +kernel
theorem dX6_go_47 : decode cX6_go 47 = .ok (.aload_n 0, 1) := by decide +kernel
theorem dX6_go_48 : decode cX6_go 48 = .ok (.iconst 0, 1) := by decide +kernel
theorem dX6_go_49 : decode cX6_go 49 = .ok (.invokevirtual 126, 3) := by decide +kernel
theorem dX6_go_52 : decode cX6_go 52 = .ok (.istore 5, 2) := by decide +kernel
theorem dX6_go_54 : decode cX6_go 54 = .ok (.iload 5, 2) := by decide +kernel
theorem dX6_go_56 : decode cX6_go 56 = .ok (.iconst (-1), 1) := by decide +kernel
theorem dX6_go_57 : decode cX6_go 57 = .ok (.if_icmp .ne 9, 3) := by decide +kernel
theorem dX6_go_60 : decode cX6_go 60 = .ok (.ldc2_w 108, 3) := by decide +kernel
theorem dX6_go_63 : decode cX6_go 63 = .ok (.goto 23, 3) := by decide +kernel
theorem dX6_go_66 : decode cX6_go 66 = .ok (.aload_n 0, 1) := by decide +kernel
theorem dX6_go_67 : decode cX6_go 67 = .ok (.getfield 154, 3) := by decide +kernel
theorem dX6_go_70 : decode cX6_go 70 = .ok (.aload_n 0, 1) := by decide +kernel
theorem dX6_go_71 : decode cX6_go 71 = .ok (.getfield 16, 3) := by decide +kernel
theorem dX6_go_74 : decode cX6_go 74 = .ok (.iload 5, 2) := by decide +kernel
theorem dX6_go_76 : decode cX6_go 76 = .ok (.iaload, 1) := by decide +kernel
theorem dX6_go_77 : decode cX6_go 77 = .ok (.i2l, 1) := by decide +kernel
theorem dX6_go_78 : decode cX6_go 78 = .ok (.ladd, 1) := by decide +kernel
theorem dX6_go_79 : decode cX6_go 79 = .ok (.aload_n 0, 1) := by decide +kernel
theorem dX6_go_80 : decode cX6_go 80 = .ok (.iconst 3, 1) := by decide +kernel
theorem dX6_go_81 : decode cX6_go 81 = .ok (.invokevirtual 126, 3) := by decide +kernel
theorem dX6_go_84 : decode cX6_go 84 = .ok (.i2l, 1) := by decide +kernel
theorem dX6_go_85 : decode cX6_go 85 = .ok (.lsub, 1) := by decide +kernel
theorem dX6_go_86 : decode cX6_go 86 = .ok (.lstore 6, 2) := by decide +kernel
theorem dX6_go_88 : decode cX6_go 88 = .ok (.aload_n 0, 1) := by decide +kernel
theorem dX6_go_89 : decode cX6_go 89 = .ok (.iconst 5, 1) := by decide +kernel
theorem dX6_go_90 : decode cX6_go 90 = .ok (.invokevirtual 126, 3) := by decide +kernel
theorem dX6_go_93 : decode cX6_go 93 = .ok (.iconst (-1), 1) := by decide +kernel
theorem dX6_go_94 : decode cX6_go 94 = .ok (.if_icmp .ne 9, 3) := by decide +kernel
theorem dX6_go_97 : decode cX6_go 97 = .ok (.ldc2_w 108, 3) := by decide +kernel
theorem dX6_go_100 : decode cX6_go 100 = .ok (.goto 7, 3) := by decide +kernel
theorem dX6_go_103 : decode cX6_go 103 = .ok (.aload_n 0, 1) := by decide +kernel
theorem dX6_go_104 : decode cX6_go 104 = .ok (.getfield 188, 3) := by decide +kernel
theorem dX6_go_107 : decode cX6_go 107 = .ok (.lstore 8, 2) := by decide +kernel
theorem dX6_go_109 : decode cX6_go 109 = .ok (.lload 6, 2) := by decide +kernel
theorem dX6_go_111 : decode cX6_go 111 = .ok (.lload 8, 2) := by decide +kernel
theorem dX6_go_113 : decode cX6_go 113 = .ok (.lcmp, 1) := by decide +kernel
theorem dX6_go_114 : decode cX6_go 114 = .ok (.ifCond .ge 8, 3) := by decide +kernel
theorem dX6_go_117 : decode cX6_go 117 = .ok (.lload 6, 2) := by decide +kernel
theorem dX6_go_119 : decode cX6_go 119 = .ok (.goto 5, 3) := by decide +kernel
theorem dX6_go_122 : decode cX6_go 122 = .ok (.lload 8, 2) := by decide +kernel
theorem dX6_go_124 : decode cX6_go 124 = .ok (.lstore 10, 2) := by decide +kernel
theorem dX6_go_126 : decode cX6_go 126 = .ok (.lload 10, 2) := by decide +kernel
theorem dX6_go_128 : decode cX6_go 128 = .ok (.lload_n 2, 1) := by decide +kernel
theorem dX6_go_129 : decode cX6_go 129 = .ok (.lcmp, 1) := by decide +kernel
theorem dX6_go_130 : decode cX6_go 130 = .ok (.ifCond .gt 7, 3) := by decide +kernel
theorem dX6_go_133 : decode cX6_go 133 = .ok (.iconst 1, 1) := by decide +kernel
theorem dX6_go_134 : decode cX6_go 134 = .ok (.goto 4, 3) := by decide +kernel
theorem dX6_go_137 : decode cX6_go 137 = .ok (.iconst 0, 1) := by decide +kernel
theorem dX6_go_138 : decode cX6_go 138 = .ok (.istore 4, 2) := by decide +kernel
theorem dX6_go_140 : decode cX6_go 140 = .ok (.iload 4, 2) := by decide +kernel
theorem dX6_go_142 : decode cX6_go 142 = .ok (.ifCond .eq 8, 3) := by decide +kernel
theorem dX6_go_145 : decode cX6_go 145 = .ok (.lload 10, 2) := by decide +kernel
theorem dX6_go_147 : decode cX6_go 147 = .ok (.goto 4, 3) := by decide +kernel
theorem dX6_go_150 : decode cX6_go 150 = .ok (.lload_n 2, 1) := by decide +kernel
theorem dX6_go_151 : decode cX6_go 151 = .ok (.lstore 12, 2) := by decide +kernel
theorem dX6_go_153 : decode cX6_go 153 = .ok (.iload 5, 2) := by decide +kernel
theorem dX6_go_155 : decode cX6_go 155 = .ok (.iconst (-1), 1) := by decide +kernel
theorem dX6_go_156 : decode cX6_go 156 = .ok (.if_icmp .eq 19, 3) := by decide +kernel
theorem dX6_go_159 : decode cX6_go 159 = .ok (.aload_n 0, 1) := by decide +kernel
theorem dX6_go_160 : decode cX6_go 160 = .ok (.getfield 40, 3) := by decide +kernel
theorem dX6_go_163 : decode cX6_go 163 = .ok (.iconst 3, 1) := by decide +kernel
theorem dX6_go_164 : decode cX6_go 164 = .ok (.dup2, 1) := by decide +kernel
theorem dX6_go_165 : decode cX6_go 165 = .ok (.laload, 1) := by decide +kernel
theorem dX6_go_166 : decode cX6_go 166 = .ok (.lload 12, 2) := by decide +kernel
theorem dX6_go_168 : decode cX6_go 168 = .ok (.aload_n 0, 1) := by decide +kernel
theorem dX6_go_169 : decode cX6_go 169 = .ok (.getfield 154, 3) := by decide +kernel
theorem dX6_go_172 : decode cX6_go 172 = .ok (.lsub, 1) := by decide +kernel
theorem dX6_go_173 : decode cX6_go 173 = .ok (.ladd, 1) := by decide +kernel
theorem dX6_go_174 : decode cX6_go 174 = .ok (.lastore, 1) := by decide +kernel
theorem dX6_go_175 : decode cX6_go 175 = .ok (.aload_n 0, 1) := by decide +kernel
theorem dX6_go_176 : decode cX6_go 176 = .ok (.lload 12, 2) := by decide +kernel
theorem dX6_go_178 : decode cX6_go 178 = .ok (.putfield 154, 3) := by decide +kernel
theorem dX6_go_181 : decode cX6_go 181 = .ok (.iload 4, 2) := by decide +kernel
theorem dX6_go_183 : decode cX6_go 183 = .ok (.ifCond .ne 6, 3) := by decide +kernel
theorem dX6_go_186 : decode cX6_go 186 = .ok (.goto (-144), 3) := by decide +kernel
theorem dX6_go_189 : decode cX6_go 189 = .ok (.lload 8, 2) := by decide +kernel
theorem dX6_go_191 : decode cX6_go 191 = .ok (.lload 10, 2) := by decide +kernel
theorem dX6_go_193 : decode cX6_go 193 = .ok (.lcmp, 1) := by decide +kernel
theorem dX6_go_194 : decode cX6_go 194 = .ok (.ifCond .ne 26, 3) := by decide +kernel
theorem dX6_go_197 : decode cX6_go 197 = .ok (.aload_n 0, 1) := by decide +kernel
theorem dX6_go_198 : decode cX6_go 198 = .ok (.bipush 6, 2) := by decide +kernel
theorem dX6_go_200 : decode cX6_go 200 = .ok (.aload_n 0, 1) := by decide +kernel
theorem dX6_go_201 : decode cX6_go 201 = .ok (.iconst 5, 1) := by decide +kernel
theorem dX6_go_202 : decode cX6_go 202 = .ok (.invokevirtual 126, 3) := by decide +kernel
theorem dX6_go_205 : decode cX6_go 205 = .ok (.invokevirtual 158, 3) := by decide +kernel
theorem dX6_go_208 : decode cX6_go 208 = .ok (.aload_n 0, 1) := by decide +kernel
theorem dX6_go_209 : decode cX6_go 209 = .ok (.getfield 40, 3) := by decide +kernel
theorem dX6_go_212 : decode cX6_go 212 = .ok (.iconst 5, 1) := by decide +kernel
theorem dX6_go_213 : decode cX6_go 213 = .ok (.ldc2_w 78, 3) := by decide +kernel
theorem dX6_go_216 : decode cX6_go 216 = .ok (.lastore, 1) := by decide +kernel
theorem dX6_go_217 : decode cX6_go 217 = .ok (.goto 7, 3) := by decide +kernel
theorem dX6_go_220 : decode cX6_go 220 = .ok (.aload_n 0, 1) := by decide +kernel
theorem dX6_go_221 : decode cX6_go 221 = .ok (.invokevirtual 191, 3) := by decide +kernel
theorem dX6_go_224 : decode cX6_go 224 = .ok (.goto (-182), 3) := by decide +kernel
theorem dX6_go_227 : decode cX6_go 227 = .ok (.aload_n 0, 1) := by decide +kernel
theorem dX6_go_228 : decode cX6_go 228 = .ok (.getfield 154, 3) := by decide +kernel
theorem dX6_go_231 : decode cX6_go 231 = .ok (.lreturn, 1) := by decide +kernel
theorem dX6_now_0 : decode cX6_now 0 = .ok (.aload_n 0, 1) := by decide +kernel
theorem dX6_now_1 : decode cX6_now 1 = .ok (.iconst 0, 1) := by decide +kernel
theorem dX6_now_2 : decode cX6_now 2 = .ok (.putfield 80, 3) := by decide +kernel
theorem dX6_now_5 : decode cX6_now 5 = .ok (.aload_n 0, 1) := by decide +kernel
theorem dX6_now_6 : decode cX6_now 6 = .ok (.iload_n 1, 1) := by decide +kernel
theorem dX6_now_7 : decode cX6_now 7 = .ok (.ifCond .lt 13, 3) := by decide +kernel
theorem dX6_now_10 : decode cX6_now 10 = .ok (.iload_n 1, 1) := by decide +kernel
theorem dX6_now_11 : decode cX6_now 11 = .ok (.bipush 10, 2) := by decide +kernel
theorem dX6_now_13 : decode cX6_now 13 = .ok (.if_icmp .gt 7, 3) := by decide +kernel
theorem dX6_now_16 : decode cX6_now 16 = .ok (.iconst 1, 1) := by decide +kernel
theorem dX6_now_17 : decode cX6_now 17 = .ok (.goto 4, 3) := by decide +kernel
theorem dX6_now_20 : decode cX6_now 20 = .ok (.iconst 0, 1) := by decide +kernel
theorem dX6_now_21 : decode cX6_now 21 = .ok (.iconst 1, 1) := by decide +kernel
theorem dX6_now_22 : decode cX6_now 22 = .ok (.invokevirtual 87, 3) := by decide +kernel
theorem dX6_now_25 : decode cX6_now 25 = .ok (.ifCond .ne 5, 3) := by decide +kernel
theorem dX6_now_28 : decode cX6_now 28 = .ok (.iconst 0, 1) := by decide +kernel
theorem dX6_now_29 : decode cX6_now 29 = .ok (.ireturn, 1) := by decide +kernel
theorem dX6_now_30 : decode cX6_now 30 = .ok (.iload_n 1, 1) := by decide +kernel
theorem dX6_now_31 : decode cX6_now 31 = .ok (.tableswitch 127 0 9 #[53, 59, 65, 71, 77, 83, 89, 96, 101, 122], 53) := by decide +kernel
theorem dX6_now_84 : decode cX6_now 84 = .ok (.aload_n 0, 1) := by decide +kernel
theorem dX6_now_85 : decode cX6_now 85 = .ok (.iconst 0, 1) := by decide +kernel
theorem dX6_now_86 : decode cX6_now 86 = .ok (.invokevirtual 126, 3) := by decide +kernel
theorem dX6_now_89 : decode cX6_now 89 = .ok (.ireturn, 1) := by decide +kernel
theorem dX6_now_90 : decode cX6_now 90 = .ok (.aload_n 0, 1) := by decide +kernel
theorem dX6_now_91 : decode cX6_now 91 = .ok (.iconst 1, 1) := by decide +kernel
theorem dX6_now_92 : decode cX6_now 92 = .ok (.invokevirtual 126, 3) := by decide +kernel
theorem dX6_now_95 : decode cX6_now 95 = .ok (.ireturn, 1) := by decide +kernel
theorem dX6_now_96 : decode cX6_now 96 = .ok (.aload_n 0, 1) := by decide +kernel
theorem dX6_now_97 : decode cX6_now 97 = .ok (.iconst 2, 1) := by decide +kernel
theorem dX6_now_98 : decode cX6_now 98 = .ok (.invokevirtual 126, 3) := by decide +kernel
theorem dX6_now_101 : decode cX6_now 101 = .ok (.ireturn, 1) := by decide +kernel
theorem dX6_now_102 : decode cX6_now 102 = .ok (.aload_n 0, 1) := by decide +kernel
theorem dX6_now_103 : decode cX6_now 103 = .ok (.iconst 3, 1) := by decide +kernel
theorem dX6_now_104 : decode cX6_now 104 = .ok (.invokevirtual 126, 3) := by decide +kernel
theorem dX6_now_107 : decode cX6_now 107 = .ok (.ireturn, 1) := by decide +kernel
theorem dX6_now_108 : decode cX6_now 108 = .ok (.aload_n 0, 1) := by decide +kernel
theorem dX6_now_109 : decode cX6_now 109 = .ok (.iconst 4, 1) := by decide +kernel
theorem dX6_now_110 : decode cX6_now 110 = .ok (.invokevirtual 126, 3) := by decide +kernel
theorem dX6_now_113 : decode cX6_now 113 = .ok (.ireturn, 1) := by decide +kernel
theorem dX6_now_114 : decode cX6_now 114 = .ok (.aload_n 0, 1) := by decide +kernel
theorem dX6_now_115 : decode cX6_now 115 = .ok (.iconst 5, 1) := by decide +kernel
theorem dX6_now_116 : decode cX6_now 116 = .ok (.invokevirtual 126, 3) := by decide +kernel
theorem dX6_now_119 : decode cX6_now 119 = .ok (.ireturn, 1) := by decide +kernel
theorem dX6_now_120 : decode cX6_now 120 = .ok (.aload_n 0, 1) := by decide +kernel
theorem dX6_now_121 : decode cX6_now 121 = .ok (.bipush 6, 2) := by decide +kernel
theorem dX6_now_123 : decode cX6_now 123 = .ok (.invokevirtual 126, 3) := by decide +kernel
theorem dX6_now_126 : decode cX6_now 126 = .ok (.ireturn, 1) := by decide +kernel
theorem dX6_now_127 : decode cX6_now 127 = .ok (.aload_n 0, 1) := by decide +kernel
theorem dX6_now_128 : decode cX6_now 128 = .ok (.invokevirtual 184, 3) := by decide +kernel
theorem dX6_now_131 : decode cX6_now 131 = .ok (.ireturn, 1) := by decide +kernel
theorem dX6_now_132 : decode cX6_now 132 = .ok (.aload_n 0, 1) := by decide +kernel
theorem dX6_now_133 : decode cX6_now 133 = .ok (.getfield 151, 3) := by decide +kernel
theorem dX6_now_136 : decode cX6_now 136 = .ok (.sipush 300, 3) := by decide +kernel
theorem dX6_now_139 : decode cX6_now 139 = .ok (.if_icmp .ge 10, 3) := by decide +kernel
theorem dX6_now_142 : decode cX6_now 142 = .ok (.aload_n 0, 1) := by decide +kernel
theorem dX6_now_143 : decode cX6_now 143 = .ok (.getfield 151, 3) := by decide +kernel
theorem dX6_now_146 : decode cX6_now 146 = .ok (.goto 6, 3) := by decide +kernel
theorem dX6_now_149 : decode cX6_now 149 = .ok (.sipush 300, 3) := by decide +kernel
theorem dX6_now_152 : decode cX6_now 152 = .ok (.ireturn, 1) := by decide +kernel
theorem dX6_now_153 : decode cX6_now 153 = .ok (.aload_n 0, 1) := by decide +kernel
theorem dX6_now_154 : decode cX6_now 154 = .ok (.getfield 84, 3) := by decide +kernel
theorem dX6_now_157 : decode cX6_now 157 = .ok (.ireturn, 1) := by decide +kernel
theorem dX6_now_158 : decode cX6_now 158 = .ok (.aload_n 0, 1) := by decide +kernel
theorem dX6_now_159 : decode cX6_now 159 = .ok (.getfield 98, 3) := by decide +kernel
theorem dX6_now_162 : decode cX6_now 162 = .ok (.ireturn, 1) := by decide +kernel
theorem dX6_level_0 : decode cX6_level 0 = .ok (.aload_n 0, 1) := by decide +kernel
theorem dX6_level_1 : decode cX6_level 1 = .ok (.iconst 0, 1) := by decide +kernel
theorem dX6_level_2 : decode cX6_level 2 = .ok (.putfield 80, 3) := by decide +kernel
theorem dX6_level_5 : decode cX6_level 5 = .ok (.aload_n 0, 1) := by decide +kernel
theorem dX6_level_6 : decode cX6_level 6 = .ok (.iload_n 1, 1) := by decide +kernel
theorem dX6_level_7 : decode cX6_level 7 = .ok (.invokevirtual 94, 3) := by decide +kernel
theorem dX6_level_10 : decode cX6_level 10 = .ok (.ifCond .eq 14, 3) := by decide +kernel
theorem dX6_level_13 : decode cX6_level 13 = .ok (.aload_n 0, 1) := by decide +kernel
theorem dX6_level_14 : decode cX6_level 14 = .ok (.bipush 36, 2) := by decide +kernel
theorem dX6_level_16 : decode cX6_level 16 = .ok (.iload_n 1, 1) := by decide +kernel
theorem dX6_level_17 : decode cX6_level 17 = .ok (.iadd, 1) := by decide +kernel
theorem dX6_level_18 : decode cX6_level 18 = .ok (.invokevirtual 126, 3) := by decide +kernel
theorem dX6_level_21 : decode cX6_level 21 = .ok (.goto 4, 3) := by decide +kernel
theorem dX6_level_24 : decode cX6_level 24 = .ok (.iconst 0, 1) := by decide +kernel
theorem dX6_level_25 : decode cX6_level 25 = .ok (.ireturn, 1) := by decide +kernel
theorem dX6_log_0 : decode cX6_log 0 = .ok (.aload_n 0, 1) := by decide +kernel
theorem dX6_log_1 : decode cX6_log 1 = .ok (.iconst 0, 1) := by decide +kernel
theorem dX6_log_2 : decode cX6_log 2 = .ok (.putfield 80, 3) := by decide +kernel
theorem dX6_log_5 : decode cX6_log 5 = .ok (.aload_n 0, 1) := by decide +kernel
theorem dX6_log_6 : decode cX6_log 6 = .ok (.getfield 151, 3) := by decide +kernel
theorem dX6_log_9 : decode cX6_log 9 = .ok (.sipush 300, 3) := by decide +kernel
theorem dX6_log_12 : decode cX6_log 12 = .ok (.if_icmp .ge 10, 3) := by decide +kernel
theorem dX6_log_15 : decode cX6_log 15 = .ok (.aload_n 0, 1) := by decide +kernel
theorem dX6_log_16 : decode cX6_log 16 = .ok (.getfield 151, 3) := by decide +kernel
theorem dX6_log_19 : decode cX6_log 19 = .ok (.goto 6, 3) := by decide +kernel
theorem dX6_log_22 : decode cX6_log 22 = .ok (.sipush 300, 3) := by decide +kernel
theorem dX6_log_25 : decode cX6_log 25 = .ok (.istore_n 3, 1) := by decide +kernel
theorem dX6_log_26 : decode cX6_log 26 = .ok (.aload_n 0, 1) := by decide +kernel
theorem dX6_log_27 : decode cX6_log 27 = .ok (.iload_n 1, 1) := by decide +kernel
theorem dX6_log_28 : decode cX6_log 28 = .ok (.ifCond .lt 21, 3) := by decide +kernel
theorem dX6_log_31 : decode cX6_log 31 = .ok (.iload_n 1, 1) := by decide +kernel
theorem dX6_log_32 : decode cX6_log 32 = .ok (.iload_n 3, 1) := by decide +kernel
theorem dX6_log_33 : decode cX6_log 33 = .ok (.if_icmp .ge 16, 3) := by decide +kernel
theorem dX6_log_36 : decode cX6_log 36 = .ok (.iload_n 2, 1) := by decide +kernel
theorem dX6_log_37 : decode cX6_log 37 = .ok (.ifCond .lt 12, 3) := by decide +kernel
theorem dX6_log_40 : decode cX6_log 40 = .ok (.iload_n 2, 1) := by decide +kernel
theorem dX6_log_41 : decode cX6_log 41 = .ok (.iconst 2, 1) := by decide +kernel
theorem dX6_log_42 : decode cX6_log 42 = .ok (.if_icmp .gt 7, 3) := by decide +kernel
theorem dX6_log_45 : decode cX6_log 45 = .ok (.iconst 1, 1) := by decide +kernel
theorem dX6_log_46 : decode cX6_log 46 = .ok (.goto 4, 3) := by decide +kernel
theorem dX6_log_49 : decode cX6_log 49 = .ok (.iconst 0, 1) := by decide +kernel
theorem dX6_log_50 : decode cX6_log 50 = .ok (.iconst 1, 1) := by decide +kernel
theorem dX6_log_51 : decode cX6_log 51 = .ok (.invokevirtual 87, 3) := by decide +kernel
theorem dX6_log_54 : decode cX6_log 54 = .ok (.ifCond .ne 5, 3) := by decide +kernel
theorem dX6_log_57 : decode cX6_log 57 = .ok (.lconst 0, 1) := by decide +kernel
theorem dX6_log_58 : decode cX6_log 58 = .ok (.lreturn, 1) := by decide +kernel
theorem dX6_log_59 : decode cX6_log 59 = .ok (.aload_n 0, 1) := by decide +kernel
theorem dX6_log_60 : decode cX6_log 60 = .ok (.getfield 151, 3) := by decide +kernel
theorem dX6_log_63 : decode cX6_log 63 = .ok (.iload_n 3, 1) := by decide +kernel
theorem dX6_log_64 : decode cX6_log 64 = .ok (.isub, 1) := by decide +kernel
theorem dX6_log_65 : decode cX6_log 65 = .ok (.iload_n 1, 1) := by decide +kernel
theorem dX6_log_66 : decode cX6_log 66 = .ok (.iadd, 1) := by decide +kernel
theorem dX6_log_67 : decode cX6_log 67 = .ok (.sipush 300, 3) := by decide +kernel
theorem dX6_log_70 : decode cX6_log 70 = .ok (.irem, 1) := by decide +kernel
theorem dX6_log_71 : decode cX6_log 71 = .ok (.istore 4, 2) := by decide +kernel
theorem dX6_log_73 : decode cX6_log 73 = .ok (.iload_n 2, 1) := by decide +kernel
theorem dX6_log_74 : decode cX6_log 74 = .ok (.ifCond .ne 13, 3) := by decide +kernel
theorem dX6_log_77 : decode cX6_log 77 = .ok (.aload_n 0, 1) := by decide +kernel
theorem dX6_log_78 : decode cX6_log 78 = .ok (.getfield 60, 3) := by decide +kernel
theorem dX6_log_81 : decode cX6_log 81 = .ok (.iload 4, 2) := by decide +kernel
theorem dX6_log_83 : decode cX6_log 83 = .ok (.laload, 1) := by decide +kernel
theorem dX6_log_84 : decode cX6_log 84 = .ok (.goto 27, 3) := by decide +kernel
theorem dX6_log_87 : decode cX6_log 87 = .ok (.iload_n 2, 1) := by decide +kernel
theorem dX6_log_88 : decode cX6_log 88 = .ok (.iconst 1, 1) := by decide +kernel
theorem dX6_log_89 : decode cX6_log 89 = .ok (.if_icmp .ne 14, 3) := by decide +kernel
theorem dX6_log_92 : decode cX6_log 92 = .ok (.aload_n 0, 1) := by decide +kernel
theorem dX6_log_93 : decode cX6_log 93 = .ok (.getfield 63, 3) := by decide +kernel
theorem dX6_log_96 : decode cX6_log 96 = .ok (.iload 4, 2) := by decide +kernel
theorem dX6_log_98 : decode cX6_log 98 = .ok (.iaload, 1) := by decide +kernel
theorem dX6_log_99 : decode cX6_log 99 = .ok (.i2l, 1) := by decide +kernel
theorem dX6_log_100 : decode cX6_log 100 = .ok (.goto 11, 3) := by decide +kernel
theorem dX6_log_103 : decode cX6_log 103 = .ok (.aload_n 0, 1) := by decide +kernel
theorem dX6_log_104 : decode cX6_log 104 = .ok (.getfield 66, 3) := by decide +kernel
theorem dX6_log_107 : decode cX6_log 107 = .ok (.iload 4, 2) := by decide +kernel
theorem dX6_log_109 : decode cX6_log 109 = .ok (.iaload, 1) := by decide +kernel
theorem dX6_log_110 : decode cX6_log 110 = .ok (.i2l, 1) := by decide +kernel
theorem dX6_log_111 : decode cX6_log 111 = .ok (.lreturn, 1) := by decide +kernel
theorem dX6_isSlot_0 : decode cX6_isSlot 0 = .ok (.aload_n 0, 1) := by decide +kernel
theorem dX6_isSlot_1 : decode cX6_isSlot 1 = .ok (.iconst 0, 1) := by decide +kernel
theorem dX6_isSlot_2 : decode cX6_isSlot 2 = .ok (.putfield 80, 3) := by decide +kernel
theorem dX6_isSlot_5 : decode cX6_isSlot 5 = .ok (.aload_n 0, 1) := by decide +kernel
theorem dX6_isSlot_6 : decode cX6_isSlot 6 = .ok (.iload_n 1, 1) := by decide +kernel
theorem dX6_isSlot_7 : decode cX6_isSlot 7 = .ok (.ifCond .lt 12, 3) := by decide +kernel
theorem dX6_isSlot_10 : decode cX6_isSlot 10 = .ok (.iload_n 1, 1) := by decide +kernel
theorem dX6_isSlot_11 : decode cX6_isSlot 11 = .ok (.iconst 3, 1) := by decide +kernel
theorem dX6_isSlot_12 : decode cX6_isSlot 12 = .ok (.if_icmp .gt 7, 3) := by decide +kernel
theorem dX6_isSlot_15 : decode cX6_isSlot 15 = .ok (.iconst 1, 1) := by decide +kernel
theorem dX6_isSlot_16 : decode cX6_isSlot 16 = .ok (.goto 4, 3) := by decide +kernel
theorem dX6_isSlot_19 : decode cX6_isSlot 19 = .ok (.iconst 0, 1) := by decide +kernel
theorem dX6_isSlot_20 : decode cX6_isSlot 20 = .ok (.iconst 1, 1) := by decide +kernel
theorem dX6_isSlot_21 : decode cX6_isSlot 21 = .ok (.invokevirtual 87, 3) := by decide +kernel
theorem dX6_isSlot_24 : decode cX6_isSlot 24 = .ok (.ireturn, 1) := by decide +kernel
theorem dX6_keep_0 : decode cX6_keep 0 = .ok (.aload_n 0, 1) := by decide +kernel
theorem dX6_keep_1 : decode cX6_keep 1 = .ok (.iload_n 1, 1) := by decide +kernel
theorem dX6_keep_2 : decode cX6_keep 2 = .ok (.invokevirtual 194, 3) := by decide +kernel
theorem dX6_keep_5 : decode cX6_keep 5 = .ok (.ifCond .ne 5, 3) := by decide +kernel
theorem dX6_keep_8 : decode cX6_keep 8 = .ok (.iconst 0, 1) := by decide +kernel
theorem dX6_keep_9 : decode cX6_keep 9 = .ok (.ireturn, 1) := by decide +kernel
theorem dX6_keep_10 : decode cX6_keep 10 = .ok (.aload_n 0, 1) := by decide +kernel
theorem dX6_keep_11 : decode cX6_keep 11 = .ok (.getfield 53, 3) := by decide +kernel
theorem dX6_keep_14 : decode cX6_keep 14 = .ok (.iload_n 1, 1) := by decide +kernel
theorem dX6_keep_15 : decode cX6_keep 15 = .ok (.baload, 1) := by decide +kernel
theorem dX6_keep_16 : decode cX6_keep 16 = .ok (.istore_n 2, 1) := by decide +kernel
theorem dX6_keep_17 : decode cX6_keep 17 = .ok (.aload_n 0, 1) := by decide +kernel
theorem dX6_keep_18 : decode cX6_keep 18 = .ok (.getfield 53, 3) := by decide +kernel
theorem dX6_keep_21 : decode cX6_keep 21 = .ok (.iload_n 1, 1) := by decide +kernel
theorem dX6_keep_22 : decode cX6_keep 22 = .ok (.iconst 1, 1) := by decide +kernel
theorem dX6_keep_23 : decode cX6_keep 23 = .ok (.bastore, 1) := by decide +kernel
theorem dX6_keep_24 : decode cX6_keep 24 = .ok (.iconst 0, 1) := by decide +kernel
theorem dX6_keep_25 : decode cX6_keep 25 = .ok (.istore_n 3, 1) := by decide +kernel
theorem dX6_keep_26 : decode cX6_keep 26 = .ok (.iload_n 3, 1) := by decide +kernel
theorem dX6_keep_27 : decode cX6_keep 27 = .ok (.bipush 56, 2) := by decide +kernel
theorem dX6_keep_29 : decode cX6_keep 29 = .ok (.if_icmp .ge 26, 3) := by decide +kernel
theorem dX6_keep_32 : decode cX6_keep 32 = .ok (.aload_n 0, 1) := by decide +kernel
theorem dX6_keep_33 : decode cX6_keep 33 = .ok (.getfield 44, 3) := by decide +kernel
theorem dX6_keep_36 : decode cX6_keep 36 = .ok (.bipush 56, 2) := by decide +kernel
theorem dX6_keep_38 : decode cX6_keep 38 = .ok (.iload_n 1, 1) := by decide +kernel
theorem dX6_keep_39 : decode cX6_keep 39 = .ok (.imul, 1) := by decide +kernel
theorem dX6_keep_40 : decode cX6_keep 40 = .ok (.iload_n 3, 1) := by decide +kernel
theorem dX6_keep_41 : decode cX6_keep 41 = .ok (.iadd, 1) := by decide +kernel
theorem dX6_keep_42 : decode cX6_keep 42 = .ok (.aload_n 0, 1) := by decide +kernel
theorem dX6_keep_43 : decode cX6_keep 43 = .ok (.getfield 40, 3) := by decide +kernel
theorem dX6_keep_46 : decode cX6_keep 46 = .ok (.iload_n 3, 1) := by decide +kernel
theorem dX6_keep_47 : decode cX6_keep 47 = .ok (.laload, 1) := by decide +kernel
theorem dX6_keep_48 : decode cX6_keep 48 = .ok (.lastore, 1) := by decide +kernel
theorem dX6_keep_49 : decode cX6_keep 49 = .ok (.iinc 3 1, 3) := by decide +kernel
theorem dX6_keep_52 : decode cX6_keep 52 = .ok (.goto (-26), 3) := by decide +kernel
theorem dX6_keep_55 : decode cX6_keep 55 = .ok (.aload_n 0, 1) := by decide +kernel
theorem dX6_keep_56 : decode cX6_keep 56 = .ok (.getfield 47, 3) := by decide +kernel
theorem dX6_keep_59 : decode cX6_keep 59 = .ok (.iload_n 1, 1) := by decide +kernel
theorem dX6_keep_60 : decode cX6_keep 60 = .ok (.aload_n 0, 1) := by decide +kernel
theorem dX6_keep_61 : decode cX6_keep 61 = .ok (.getfield 154, 3) := by decide +kernel
theorem dX6_keep_64 : decode cX6_keep 64 = .ok (.lastore, 1) := by decide +kernel
theorem dX6_keep_65 : decode cX6_keep 65 = .ok (.aload_n 0, 1) := by decide +kernel
theorem dX6_keep_66 : decode cX6_keep 66 = .ok (.getfield 50, 3) := by decide +kernel
theorem dX6_keep_69 : decode cX6_keep 69 = .ok (.iload_n 1, 1) := by decide +kernel
theorem dX6_keep_70 : decode cX6_keep 70 = .ok (.aload_n 0, 1) := by decide +kernel
theorem dX6_keep_71 : decode cX6_keep 71 = .ok (.getfield 188, 3) := by decide +kernel
theorem dX6_keep_74 : decode cX6_keep 74 = .ok (.lastore, 1) := by decide +kernel
theorem dX6_keep_75 : decode cX6_keep 75 = .ok (.iload_n 2, 1) := by decide +kernel
theorem dX6_keep_76 : decode cX6_keep 76 = .ok (.ireturn, 1) := by decide +kernel
theorem dX6_goOn_0 : decode cX6_goOn 0 = .ok (.aload_n 0, 1) := by decide +kernel
theorem dX6_goOn_1 : decode cX6_goOn 1 = .ok (.iload_n 1, 1) := by decide +kernel
theorem dX6_goOn_2 : decode cX6_goOn 2 = .ok (.invokevirtual 194, 3) := by decide +kernel
theorem dX6_goOn_5 : decode cX6_goOn 5 = .ok (.ifCond .eq 12, 3) := by decide +kernel
theorem dX6_goOn_8 : decode cX6_goOn 8 = .ok (.aload_n 0, 1) := by decide +kernel
theorem dX6_goOn_9 : decode cX6_goOn 9 = .ok (.getfield 53, 3) := by decide +kernel
theorem dX6_goOn_12 : decode cX6_goOn 12 = .ok (.iload_n 1, 1) := by decide +kernel
theorem dX6_goOn_13 : decode cX6_goOn 13 = .ok (.baload, 1) := by decide +kernel
theorem dX6_goOn_14 : decode cX6_goOn 14 = .ok (.ifCond .ne 5, 3) := by decide +kernel
theorem dX6_goOn_17 : decode cX6_goOn 17 = .ok (.iconst 0, 1) := by decide +kernel
theorem dX6_goOn_18 : decode cX6_goOn 18 = .ok (.ireturn, 1) := by decide +kernel
theorem dX6_goOn_19 : decode cX6_goOn 19 = .ok (.iconst 0, 1) := by decide +kernel
theorem dX6_goOn_20 : decode cX6_goOn 20 = .ok (.istore_n 2, 1) := by decide +kernel
theorem dX6_goOn_21 : decode cX6_goOn 21 = .ok (.iload_n 2, 1) := by decide +kernel
theorem dX6_goOn_22 : decode cX6_goOn 22 = .ok (.bipush 56, 2) := by decide +kernel
theorem dX6_goOn_24 : decode cX6_goOn 24 = .ok (.if_icmp .ge 26, 3) := by decide +kernel
theorem dX6_goOn_27 : decode cX6_goOn 27 = .ok (.aload_n 0, 1) := by decide +kernel
theorem dX6_goOn_28 : decode cX6_goOn 28 = .ok (.getfield 40, 3) := by decide +kernel
theorem dX6_goOn_31 : decode cX6_goOn 31 = .ok (.iload_n 2, 1) := by decide +kernel
theorem dX6_goOn_32 : decode cX6_goOn 32 = .ok (.aload_n 0, 1) := by decide +kernel
theorem dX6_goOn_33 : decode cX6_goOn 33 = .ok (.getfield 44, 3) := by decide +kernel
theorem dX6_goOn_36 : decode cX6_goOn 36 = .ok (.bipush 56, 2) := by decide +kernel
theorem dX6_goOn_38 : decode cX6_goOn 38 = .ok (.iload_n 1, 1) := by decide +kernel
theorem dX6_goOn_39 : decode cX6_goOn 39 = .ok (.imul, 1) := by decide +kernel
theorem dX6_goOn_40 : decode cX6_goOn 40 = .ok (.iload_n 2, 1) := by decide +kernel
theorem dX6_goOn_41 : decode cX6_goOn 41 = .ok (.iadd, 1) := by decide +kernel
theorem dX6_goOn_42 : decode cX6_goOn 42 = .ok (.laload, 1) := by decide +kernel
theorem dX6_goOn_43 : decode cX6_goOn 43 = .ok (.lastore, 1) := by decide +kernel
theorem dX6_goOn_44 : decode cX6_goOn 44 = .ok (.iinc 2 1, 3) := by decide +kernel
theorem dX6_goOn_47 : decode cX6_goOn 47 = .ok (.goto (-26), 3) := by decide +kernel
theorem dX6_goOn_50 : decode cX6_goOn 50 = .ok (.aload_n 0, 1) := by decide +kernel
theorem dX6_goOn_51 : decode cX6_goOn 51 = .ok (.aload_n 0, 1) := by decide +kernel
theorem dX6_goOn_52 : decode cX6_goOn 52 = .ok (.getfield 47, 3) := by decide +kernel
theorem dX6_goOn_55 : decode cX6_goOn 55 = .ok (.iload_n 1, 1) := by decide +kernel
theorem dX6_goOn_56 : decode cX6_goOn 56 = .ok (.laload, 1) := by decide +kernel
theorem dX6_goOn_57 : decode cX6_goOn 57 = .ok (.putfield 154, 3) := by decide +kernel
theorem dX6_goOn_60 : decode cX6_goOn 60 = .ok (.aload_n 0, 1) := by decide +kernel
theorem dX6_goOn_61 : decode cX6_goOn 61 = .ok (.aload_n 0, 1) := by decide +kernel
theorem dX6_goOn_62 : decode cX6_goOn 62 = .ok (.getfield 50, 3) := by decide +kernel
theorem dX6_goOn_65 : decode cX6_goOn 65 = .ok (.iload_n 1, 1) := by decide +kernel
theorem dX6_goOn_66 : decode cX6_goOn 66 = .ok (.laload, 1) := by decide +kernel
theorem dX6_goOn_67 : decode cX6_goOn 67 = .ok (.putfield 188, 3) := by decide +kernel
theorem dX6_goOn_70 : decode cX6_goOn 70 = .ok (.aload_n 0, 1) := by decide +kernel
theorem dX6_goOn_71 : decode cX6_goOn 71 = .ok (.invokevirtual 91, 3) := by decide +kernel
theorem dX6_goOn_74 : decode cX6_goOn 74 = .ok (.iconst 1, 1) := by decide +kernel
theorem dX6_goOn_75 : decode cX6_goOn 75 = .ok (.ireturn, 1) := by decide +kernel
theorem dJ9_min_f86c9_0 : decode cJ9_min_f86c9 0 = .ok (.lload_n 0, 1) := by decide +kernel
theorem dJ9_min_f86c9_1 : decode cJ9_min_f86c9 1 = .ok (.lload_n 2, 1) := by decide +kernel
theorem dJ9_min_f86c9_2 : decode cJ9_min_f86c9 2 = .ok (.lcmp, 1) := by decide +kernel
theorem dJ9_min_f86c9_3 : decode cJ9_min_f86c9 3 = .ok (.ifCond .gt 7, 3) := by decide +kernel
theorem dJ9_min_f86c9_6 : decode cJ9_min_f86c9 6 = .ok (.lload_n 0, 1) := by decide +kernel
theorem dJ9_min_f86c9_7 : decode cJ9_min_f86c9 7 = .ok (.goto 4, 3) := by decide +kernel
theorem dJ9_min_f86c9_10 : decode cJ9_min_f86c9 10 = .ok (.lload_n 2, 1) := by decide +kernel
theorem dJ9_min_f86c9_11 : decode cJ9_min_f86c9 11 = .ok (.lreturn, 1) := by decide +kernel
theorem dJ7_fill_53178_0 : decode cJ7_fill_53178 0 = .ok (.iconst 0, 1) := by decide +kernel
theorem dJ7_fill_53178_1 : decode cJ7_fill_53178 1 = .ok (.istore_n 2, 1) := by decide +kernel
theorem dJ7_fill_53178_2 : decode cJ7_fill_53178 2 = .ok (.aload_n 0, 1) := by decide +kernel
theorem dJ7_fill_53178_3 : decode cJ7_fill_53178 3 = .ok (.arraylength, 1) := by decide +kernel
theorem dJ7_fill_53178_4 : decode cJ7_fill_53178 4 = .ok (.istore_n 3, 1) := by decide +kernel
theorem dJ7_fill_53178_5 : decode cJ7_fill_53178 5 = .ok (.iload_n 2, 1) := by decide +kernel
theorem dJ7_fill_53178_6 : decode cJ7_fill_53178 6 = .ok (.iload_n 3, 1) := by decide +kernel
theorem dJ7_fill_53178_7 : decode cJ7_fill_53178 7 = .ok (.if_icmp .ge 13, 3) := by decide +kernel
theorem dJ7_fill_53178_10 : decode cJ7_fill_53178 10 = .ok (.aload_n 0, 1) := by decide +kernel
theorem dJ7_fill_53178_11 : decode cJ7_fill_53178 11 = .ok (.iload_n 2, 1) := by decide +kernel
theorem dJ7_fill_53178_12 : decode cJ7_fill_53178 12 = .ok (.iload_n 1, 1) := by decide +kernel
theorem dJ7_fill_53178_13 : decode cJ7_fill_53178 13 = .ok (.iastore, 1) := by decide +kernel
theorem dJ7_fill_53178_14 : decode cJ7_fill_53178 14 = .ok (.iinc 2 1, 3) := by decide +kernel
theorem dJ7_fill_53178_17 : decode cJ7_fill_53178 17 = .ok (.goto (-12), 3) := by decide +kernel
theorem dJ7_fill_53178_20 : decode cJ7_fill_53178 20 = .ok (.return_, 1) := by decide +kernel
theorem dL_joint_0 : decode cL_joint 0 = .ok (.aload 5, 2) := by decide +kernel
theorem dL_joint_2 : decode cL_joint 2 = .ok (.iconst 0, 1) := by decide +kernel
theorem dL_joint_3 : decode cL_joint 3 = .ok (.aload_n 0, 1) := by decide +kernel
theorem dL_joint_4 : decode cL_joint 4 = .ok (.iload_n 1, 1) := by decide +kernel
theorem dL_joint_5 : decode cL_joint 5 = .ok (.iload_n 2, 1) := by decide +kernel
theorem dL_joint_6 : decode cL_joint 6 = .ok (.iload_n 3, 1) := by decide +kernel
theorem dL_joint_7 : decode cL_joint 7 = .ok (.iload 4, 2) := by decide +kernel
theorem dL_joint_9 : decode cL_joint 9 = .ok (.invokevirtual 7, 3) := by decide +kernel
theorem dL_joint_12 : decode cL_joint 12 = .ok (.i2l, 1) := by decide +kernel
theorem dL_joint_13 : decode cL_joint 13 = .ok (.lastore, 1) := by decide +kernel
theorem dL_joint_14 : decode cL_joint 14 = .ok (.goto 7, 3) := by decide +kernel
theorem dL_joint_17 : decode cL_joint 17 = .ok (.astore 6, 2) := by decide +kernel
theorem dL_joint_19 : decode cL_joint 19 = .ok (.iconst 1, 1) := by decide +kernel
theorem dL_joint_20 : decode cL_joint 20 = .ok (.ireturn, 1) := by decide +kernel
theorem dL_joint_21 : decode cL_joint 21 = .ok (.iconst 0, 1) := by decide +kernel
theorem dL_joint_22 : decode cL_joint 22 = .ok (.ireturn, 1) := by decide +kernel
theorem dL_price_0 : decode cL_price 0 = .ok (.aload_n 3, 1) := by decide +kernel
theorem dL_price_1 : decode cL_price 1 = .ok (.iconst 0, 1) := by decide +kernel
theorem dL_price_2 : decode cL_price 2 = .ok (.aload_n 0, 1) := by decide +kernel
theorem dL_price_3 : decode cL_price 3 = .ok (.iload_n 1, 1) := by decide +kernel
theorem dL_price_4 : decode cL_price 4 = .ok (.iload_n 2, 1) := by decide +kernel
theorem dL_price_5 : decode cL_price 5 = .ok (.invokevirtual 15, 3) := by decide +kernel
theorem dL_price_8 : decode cL_price 8 = .ok (.i2l, 1) := by decide +kernel
theorem dL_price_9 : decode cL_price 9 = .ok (.lastore, 1) := by decide +kernel
theorem dL_price_10 : decode cL_price 10 = .ok (.goto 7, 3) := by decide +kernel
theorem dL_price_13 : decode cL_price 13 = .ok (.astore 4, 2) := by decide +kernel
theorem dL_price_15 : decode cL_price 15 = .ok (.iconst 1, 1) := by decide +kernel
theorem dL_price_16 : decode cL_price 16 = .ok (.ireturn, 1) := by decide +kernel
theorem dL_price_17 : decode cL_price 17 = .ok (.iconst 0, 1) := by decide +kernel
theorem dL_price_18 : decode cL_price 18 = .ok (.ireturn, 1) := by decide +kernel
theorem dL_play_0 : decode cL_play 0 = .ok (.aload_n 2, 1) := by decide +kernel
theorem dL_play_1 : decode cL_play 1 = .ok (.iconst 0, 1) := by decide +kernel
theorem dL_play_2 : decode cL_play 2 = .ok (.aload_n 0, 1) := by decide +kernel
theorem dL_play_3 : decode cL_play 3 = .ok (.iload_n 1, 1) := by decide +kernel
theorem dL_play_4 : decode cL_play 4 = .ok (.invokevirtual 21, 3) := by decide +kernel
theorem dL_play_7 : decode cL_play 7 = .ok (.ifCond .eq 7, 3) := by decide +kernel
theorem dL_play_10 : decode cL_play 10 = .ok (.lconst 1, 1) := by decide +kernel
theorem dL_play_11 : decode cL_play 11 = .ok (.goto 4, 3) := by decide +kernel
theorem dL_play_14 : decode cL_play 14 = .ok (.lconst 0, 1) := by decide +kernel
theorem dL_play_15 : decode cL_play 15 = .ok (.lastore, 1) := by decide +kernel
theorem dL_play_16 : decode cL_play 16 = .ok (.goto 6, 3) := by decide +kernel
theorem dL_play_19 : decode cL_play 19 = .ok (.astore_n 3, 1) := by decide +kernel
theorem dL_play_20 : decode cL_play 20 = .ok (.iconst 1, 1) := by decide +kernel
theorem dL_play_21 : decode cL_play 21 = .ok (.ireturn, 1) := by decide +kernel
theorem dL_play_22 : decode cL_play 22 = .ok (.iconst 0, 1) := by decide +kernel
theorem dL_play_23 : decode cL_play 23 = .ok (.ireturn, 1) := by decide +kernel
theorem dL_ask_0 : decode cL_ask 0 = .ok (.aload_n 2, 1) := by decide +kernel
theorem dL_ask_1 : decode cL_ask 1 = .ok (.iconst 0, 1) := by decide +kernel
theorem dL_ask_2 : decode cL_ask 2 = .ok (.aload_n 0, 1) := by decide +kernel
theorem dL_ask_3 : decode cL_ask 3 = .ok (.iload_n 1, 1) := by decide +kernel
theorem dL_ask_4 : decode cL_ask 4 = .ok (.invokevirtual 25, 3) := by decide +kernel
theorem dL_ask_7 : decode cL_ask 7 = .ok (.i2l, 1) := by decide +kernel
theorem dL_ask_8 : decode cL_ask 8 = .ok (.lastore, 1) := by decide +kernel
theorem dL_ask_9 : decode cL_ask 9 = .ok (.goto 6, 3) := by decide +kernel
theorem dL_ask_12 : decode cL_ask 12 = .ok (.astore_n 3, 1) := by decide +kernel
theorem dL_ask_13 : decode cL_ask 13 = .ok (.iconst 1, 1) := by decide +kernel
theorem dL_ask_14 : decode cL_ask 14 = .ok (.ireturn, 1) := by decide +kernel
theorem dL_ask_15 : decode cL_ask 15 = .ok (.iconst 0, 1) := by decide +kernel
theorem dL_ask_16 : decode cL_ask 16 = .ok (.ireturn, 1) := by decide +kernel
theorem dL_way_0 : decode cL_way 0 = .ok (.aload_n 2, 1) := by decide +kernel
theorem dL_way_1 : decode cL_way 1 = .ok (.iconst 0, 1) := by decide +kernel
theorem dL_way_2 : decode cL_way 2 = .ok (.aload_n 0, 1) := by decide +kernel
theorem dL_way_3 : decode cL_way 3 = .ok (.iload_n 1, 1) := by decide +kernel
theorem dL_way_4 : decode cL_way 4 = .ok (.invokevirtual 29, 3) := by decide +kernel
theorem dL_way_7 : decode cL_way 7 = .ok (.i2l, 1) := by decide +kernel
theorem dL_way_8 : decode cL_way 8 = .ok (.lastore, 1) := by decide +kernel
theorem dL_way_9 : decode cL_way 9 = .ok (.goto 6, 3) := by decide +kernel
theorem dL_way_12 : decode cL_way 12 = .ok (.astore_n 3, 1) := by decide +kernel
theorem dL_way_13 : decode cL_way 13 = .ok (.iconst 1, 1) := by decide +kernel
theorem dL_way_14 : decode cL_way 14 = .ok (.ireturn, 1) := by decide +kernel
theorem dL_way_15 : decode cL_way 15 = .ok (.iconst 0, 1) := by decide +kernel
theorem dL_way_16 : decode cL_way 16 = .ok (.ireturn, 1) := by decide +kernel
theorem dL_reach_0 : decode cL_reach 0 = .ok (.aload_n 3, 1) := by decide +kernel
theorem dL_reach_1 : decode cL_reach 1 = .ok (.iconst 0, 1) := by decide +kernel
theorem dL_reach_2 : decode cL_reach 2 = .ok (.aload_n 0, 1) := by decide +kernel
theorem dL_reach_3 : decode cL_reach 3 = .ok (.iload_n 1, 1) := by decide +kernel
theorem dL_reach_4 : decode cL_reach 4 = .ok (.iload_n 2, 1) := by decide +kernel
theorem dL_reach_5 : decode cL_reach 5 = .ok (.invokevirtual 32, 3) := by decide +kernel
theorem dL_reach_8 : decode cL_reach 8 = .ok (.lastore, 1) := by decide +kernel
theorem dL_reach_9 : decode cL_reach 9 = .ok (.goto 11, 3) := by decide +kernel
theorem dL_reach_12 : decode cL_reach 12 = .ok (.astore 4, 2) := by decide +kernel
theorem dL_reach_14 : decode cL_reach 14 = .ok (.iconst 1, 1) := by decide +kernel
theorem dL_reach_15 : decode cL_reach 15 = .ok (.ireturn, 1) := by decide +kernel
theorem dL_reach_16 : decode cL_reach 16 = .ok (.astore 4, 2) := by decide +kernel
theorem dL_reach_18 : decode cL_reach 18 = .ok (.iconst 2, 1) := by decide +kernel
theorem dL_reach_19 : decode cL_reach 19 = .ok (.ireturn, 1) := by decide +kernel
theorem dL_reach_20 : decode cL_reach 20 = .ok (.iconst 0, 1) := by decide +kernel
theorem dL_reach_21 : decode cL_reach 21 = .ok (.ireturn, 1) := by decide +kernel
theorem dL_lacks_0 : decode cL_lacks 0 = .ok (.aload_n 3, 1) := by decide +kernel
theorem dL_lacks_1 : decode cL_lacks 1 = .ok (.iconst 0, 1) := by decide +kernel
theorem dL_lacks_2 : decode cL_lacks 2 = .ok (.aload_n 0, 1) := by decide +kernel
theorem dL_lacks_3 : decode cL_lacks 3 = .ok (.iload_n 1, 1) := by decide +kernel
theorem dL_lacks_4 : decode cL_lacks 4 = .ok (.iload_n 2, 1) := by decide +kernel
theorem dL_lacks_5 : decode cL_lacks 5 = .ok (.invokevirtual 36, 3) := by decide +kernel
theorem dL_lacks_8 : decode cL_lacks 8 = .ok (.i2l, 1) := by decide +kernel
theorem dL_lacks_9 : decode cL_lacks 9 = .ok (.lastore, 1) := by decide +kernel
theorem dL_lacks_10 : decode cL_lacks 10 = .ok (.goto 11, 3) := by decide +kernel
theorem dL_lacks_13 : decode cL_lacks 13 = .ok (.astore 4, 2) := by decide +kernel
theorem dL_lacks_15 : decode cL_lacks 15 = .ok (.iconst 1, 1) := by decide +kernel
theorem dL_lacks_16 : decode cL_lacks 16 = .ok (.ireturn, 1) := by decide +kernel
theorem dL_lacks_17 : decode cL_lacks 17 = .ok (.astore 4, 2) := by decide +kernel
theorem dL_lacks_19 : decode cL_lacks 19 = .ok (.iconst 2, 1) := by decide +kernel
theorem dL_lacks_20 : decode cL_lacks 20 = .ok (.ireturn, 1) := by decide +kernel
theorem dL_lacks_21 : decode cL_lacks 21 = .ok (.iconst 0, 1) := by decide +kernel
theorem dL_lacks_22 : decode cL_lacks 22 = .ok (.ireturn, 1) := by decide +kernel
theorem dL_layer_0 : decode cL_layer 0 = .ok (.aload_n 3, 1) := by decide +kernel
theorem dL_layer_1 : decode cL_layer 1 = .ok (.iconst 0, 1) := by decide +kernel
theorem dL_layer_2 : decode cL_layer 2 = .ok (.aload_n 0, 1) := by decide +kernel
theorem dL_layer_3 : decode cL_layer 3 = .ok (.iload_n 1, 1) := by decide +kernel
theorem dL_layer_4 : decode cL_layer 4 = .ok (.iload_n 2, 1) := by decide +kernel
theorem dL_layer_5 : decode cL_layer 5 = .ok (.invokevirtual 39, 3) := by decide +kernel
theorem dL_layer_8 : decode cL_layer 8 = .ok (.i2l, 1) := by decide +kernel
theorem dL_layer_9 : decode cL_layer 9 = .ok (.lastore, 1) := by decide +kernel
theorem dL_layer_10 : decode cL_layer 10 = .ok (.goto 7, 3) := by decide +kernel
theorem dL_layer_13 : decode cL_layer 13 = .ok (.astore 4, 2) := by decide +kernel
theorem dL_layer_15 : decode cL_layer 15 = .ok (.iconst 1, 1) := by decide +kernel
theorem dL_layer_16 : decode cL_layer 16 = .ok (.ireturn, 1) := by decide +kernel
theorem dL_layer_17 : decode cL_layer 17 = .ok (.iconst 0, 1) := by decide +kernel
theorem dL_layer_18 : decode cL_layer 18 = .ok (.ireturn, 1) := by decide +kernel
theorem dL_sting_0 : decode cL_sting 0 = .ok (.aload_n 2, 1) := by decide +kernel
theorem dL_sting_1 : decode cL_sting 1 = .ok (.iconst 0, 1) := by decide +kernel
theorem dL_sting_2 : decode cL_sting 2 = .ok (.aload_n 0, 1) := by decide +kernel
theorem dL_sting_3 : decode cL_sting 3 = .ok (.iload_n 1, 1) := by decide +kernel
theorem dL_sting_4 : decode cL_sting 4 = .ok (.invokevirtual 42, 3) := by decide +kernel
theorem dL_sting_7 : decode cL_sting 7 = .ok (.i2l, 1) := by decide +kernel
theorem dL_sting_8 : decode cL_sting 8 = .ok (.lastore, 1) := by decide +kernel
theorem dL_sting_9 : decode cL_sting 9 = .ok (.goto 6, 3) := by decide +kernel
theorem dL_sting_12 : decode cL_sting 12 = .ok (.astore_n 3, 1) := by decide +kernel
theorem dL_sting_13 : decode cL_sting 13 = .ok (.iconst 1, 1) := by decide +kernel
theorem dL_sting_14 : decode cL_sting 14 = .ok (.ireturn, 1) := by decide +kernel
theorem dL_sting_15 : decode cL_sting 15 = .ok (.iconst 0, 1) := by decide +kernel
theorem dL_sting_16 : decode cL_sting 16 = .ok (.ireturn, 1) := by decide +kernel
theorem dL_go_0 : decode cL_go 0 = .ok (.aload_n 2, 1) := by decide +kernel
theorem dL_go_1 : decode cL_go 1 = .ok (.iconst 0, 1) := by decide +kernel
theorem dL_go_2 : decode cL_go 2 = .ok (.aload_n 0, 1) := by decide +kernel
theorem dL_go_3 : decode cL_go 3 = .ok (.iload_n 1, 1) := by decide +kernel
theorem dL_go_4 : decode cL_go 4 = .ok (.invokevirtual 45, 3) := by decide +kernel
theorem dL_go_7 : decode cL_go 7 = .ok (.lastore, 1) := by decide +kernel
theorem dL_go_8 : decode cL_go 8 = .ok (.goto 6, 3) := by decide +kernel
theorem dL_go_11 : decode cL_go 11 = .ok (.astore_n 3, 1) := by decide +kernel
theorem dL_go_12 : decode cL_go 12 = .ok (.iconst 1, 1) := by decide +kernel
theorem dL_go_13 : decode cL_go 13 = .ok (.ireturn, 1) := by decide +kernel
theorem dL_go_14 : decode cL_go 14 = .ok (.iconst 0, 1) := by decide +kernel
theorem dL_go_15 : decode cL_go 15 = .ok (.ireturn, 1) := by decide +kernel
theorem dL_now_0 : decode cL_now 0 = .ok (.aload_n 2, 1) := by decide +kernel
theorem dL_now_1 : decode cL_now 1 = .ok (.iconst 0, 1) := by decide +kernel
theorem dL_now_2 : decode cL_now 2 = .ok (.aload_n 0, 1) := by decide +kernel
theorem dL_now_3 : decode cL_now 3 = .ok (.iload_n 1, 1) := by decide +kernel
theorem dL_now_4 : decode cL_now 4 = .ok (.invokevirtual 49, 3) := by decide +kernel
theorem dL_now_7 : decode cL_now 7 = .ok (.i2l, 1) := by decide +kernel
theorem dL_now_8 : decode cL_now 8 = .ok (.lastore, 1) := by decide +kernel
theorem dL_now_9 : decode cL_now 9 = .ok (.goto 6, 3) := by decide +kernel
theorem dL_now_12 : decode cL_now 12 = .ok (.astore_n 3, 1) := by decide +kernel
theorem dL_now_13 : decode cL_now 13 = .ok (.iconst 1, 1) := by decide +kernel
theorem dL_now_14 : decode cL_now 14 = .ok (.ireturn, 1) := by decide +kernel
theorem dL_now_15 : decode cL_now 15 = .ok (.iconst 0, 1) := by decide +kernel
theorem dL_now_16 : decode cL_now 16 = .ok (.ireturn, 1) := by decide +kernel
theorem dL_level_0 : decode cL_level 0 = .ok (.aload_n 2, 1) := by decide +kernel
theorem dL_level_1 : decode cL_level 1 = .ok (.iconst 0, 1) := by decide +kernel
theorem dL_level_2 : decode cL_level 2 = .ok (.aload_n 0, 1) := by decide +kernel
theorem dL_level_3 : decode cL_level 3 = .ok (.iload_n 1, 1) := by decide +kernel
theorem dL_level_4 : decode cL_level 4 = .ok (.invokevirtual 52, 3) := by decide +kernel
theorem dL_level_7 : decode cL_level 7 = .ok (.i2l, 1) := by decide +kernel
theorem dL_level_8 : decode cL_level 8 = .ok (.lastore, 1) := by decide +kernel
theorem dL_level_9 : decode cL_level 9 = .ok (.goto 6, 3) := by decide +kernel
theorem dL_level_12 : decode cL_level 12 = .ok (.astore_n 3, 1) := by decide +kernel
theorem dL_level_13 : decode cL_level 13 = .ok (.iconst 1, 1) := by decide +kernel
theorem dL_level_14 : decode cL_level 14 = .ok (.ireturn, 1) := by decide +kernel
theorem dL_level_15 : decode cL_level 15 = .ok (.iconst 0, 1) := by decide +kernel
theorem dL_level_16 : decode cL_level 16 = .ok (.ireturn, 1) := by decide +kernel
theorem dL_log_0 : decode cL_log 0 = .ok (.aload_n 3, 1) := by decide +kernel
theorem dL_log_1 : decode cL_log 1 = .ok (.iconst 0, 1) := by decide +kernel
theorem dL_log_2 : decode cL_log 2 = .ok (.aload_n 0, 1) := by decide +kernel
theorem dL_log_3 : decode cL_log 3 = .ok (.iload_n 1, 1) := by decide +kernel
theorem dL_log_4 : decode cL_log 4 = .ok (.iload_n 2, 1) := by decide +kernel
theorem dL_log_5 : decode cL_log 5 = .ok (.invokevirtual 55, 3) := by decide +kernel
theorem dL_log_8 : decode cL_log 8 = .ok (.lastore, 1) := by decide +kernel
theorem dL_log_9 : decode cL_log 9 = .ok (.goto 7, 3) := by decide +kernel
theorem dL_log_12 : decode cL_log 12 = .ok (.astore 4, 2) := by decide +kernel
theorem dL_log_14 : decode cL_log 14 = .ok (.iconst 1, 1) := by decide +kernel
theorem dL_log_15 : decode cL_log 15 = .ok (.ireturn, 1) := by decide +kernel
theorem dL_log_16 : decode cL_log 16 = .ok (.iconst 0, 1) := by decide +kernel
theorem dL_log_17 : decode cL_log 17 = .ok (.ireturn, 1) := by decide +kernel
theorem dL_keep_0 : decode cL_keep 0 = .ok (.aload_n 2, 1) := by decide +kernel
theorem dL_keep_1 : decode cL_keep 1 = .ok (.iconst 0, 1) := by decide +kernel
theorem dL_keep_2 : decode cL_keep 2 = .ok (.aload_n 0, 1) := by decide +kernel
theorem dL_keep_3 : decode cL_keep 3 = .ok (.iload_n 1, 1) := by decide +kernel
theorem dL_keep_4 : decode cL_keep 4 = .ok (.invokevirtual 58, 3) := by decide +kernel
theorem dL_keep_7 : decode cL_keep 7 = .ok (.ifCond .eq 7, 3) := by decide +kernel
theorem dL_keep_10 : decode cL_keep 10 = .ok (.lconst 1, 1) := by decide +kernel
theorem dL_keep_11 : decode cL_keep 11 = .ok (.goto 4, 3) := by decide +kernel
theorem dL_keep_14 : decode cL_keep 14 = .ok (.lconst 0, 1) := by decide +kernel
theorem dL_keep_15 : decode cL_keep 15 = .ok (.lastore, 1) := by decide +kernel
theorem dL_keep_16 : decode cL_keep 16 = .ok (.goto 6, 3) := by decide +kernel
theorem dL_keep_19 : decode cL_keep 19 = .ok (.astore_n 3, 1) := by decide +kernel
theorem dL_keep_20 : decode cL_keep 20 = .ok (.iconst 1, 1) := by decide +kernel
theorem dL_keep_21 : decode cL_keep 21 = .ok (.ireturn, 1) := by decide +kernel
theorem dL_keep_22 : decode cL_keep 22 = .ok (.iconst 0, 1) := by decide +kernel
theorem dL_keep_23 : decode cL_keep 23 = .ok (.ireturn, 1) := by decide +kernel
theorem dL_goOn_0 : decode cL_goOn 0 = .ok (.aload_n 2, 1) := by decide +kernel
theorem dL_goOn_1 : decode cL_goOn 1 = .ok (.iconst 0, 1) := by decide +kernel
theorem dL_goOn_2 : decode cL_goOn 2 = .ok (.aload_n 0, 1) := by decide +kernel
theorem dL_goOn_3 : decode cL_goOn 3 = .ok (.iload_n 1, 1) := by decide +kernel
theorem dL_goOn_4 : decode cL_goOn 4 = .ok (.invokevirtual 61, 3) := by decide +kernel
theorem dL_goOn_7 : decode cL_goOn 7 = .ok (.ifCond .eq 7, 3) := by decide +kernel
theorem dL_goOn_10 : decode cL_goOn 10 = .ok (.lconst 1, 1) := by decide +kernel
theorem dL_goOn_11 : decode cL_goOn 11 = .ok (.goto 4, 3) := by decide +kernel
theorem dL_goOn_14 : decode cL_goOn 14 = .ok (.lconst 0, 1) := by decide +kernel
theorem dL_goOn_15 : decode cL_goOn 15 = .ok (.lastore, 1) := by decide +kernel
theorem dL_goOn_16 : decode cL_goOn 16 = .ok (.goto 6, 3) := by decide +kernel
theorem dL_goOn_19 : decode cL_goOn 19 = .ok (.astore_n 3, 1) := by decide +kernel
theorem dL_goOn_20 : decode cL_goOn 20 = .ok (.iconst 1, 1) := by decide +kernel
theorem dL_goOn_21 : decode cL_goOn 21 = .ok (.ireturn, 1) := by decide +kernel
theorem dL_goOn_22 : decode cL_goOn 22 = .ok (.iconst 0, 1) := by decide +kernel
theorem dL_goOn_23 : decode cL_goOn 23 = .ok (.ireturn, 1) := by decide +kernel
end
section
theorem dL_law_0 : decode cL_law 0 = .ok (.new 8, 3) := by decide +kernel
theorem dL_law_3 : decode cL_law 3 = .ok (.dup, 1) := by decide +kernel
theorem dL_law_4 : decode cL_law 4 = .ok (.invokespecial 64, 3) := by decide +kernel
theorem dL_law_7 : decode cL_law 7 = .ok (.astore_n 1, 1) := by decide +kernel
theorem dL_law_8 : decode cL_law 8 = .ok (.new 65, 3) := by decide +kernel
theorem dL_law_11 : decode cL_law 11 = .ok (.dup, 1) := by decide +kernel
theorem dL_law_12 : decode cL_law 12 = .ok (.invokespecial 67, 3) := by decide +kernel
theorem dL_law_15 : decode cL_law 15 = .ok (.astore_n 2, 1) := by decide +kernel
theorem dL_law_16 : decode cL_law 16 = .ok (.iconst 1, 1) := by decide +kernel
theorem dL_law_17 : decode cL_law 17 = .ok (.newarray .long, 2) := by decide +kernel
theorem dL_law_19 : decode cL_law 19 = .ok (.astore_n 3, 1) := by decide +kernel
theorem dL_law_20 : decode cL_law 20 = .ok (.iconst 0, 1) := by decide +kernel
theorem dL_law_21 : decode cL_law 21 = .ok (.istore 4, 2) := by decide +kernel
theorem dL_law_23 : decode cL_law 23 = .ok (.iload 4, 2) := by decide +kernel
theorem dL_law_25 : decode cL_law 25 = .ok (.aload_n 0, 1) := by decide +kernel
theorem dL_law_26 : decode cL_law 26 = .ok (.arraylength, 1) := by decide +kernel
theorem dL_law_27 : decode cL_law 27 = .ok (.bipush 6, 2) := by decide +kernel
theorem dL_law_29 : decode cL_law 29 = .ok (.isub, 1) := by decide +kernel
theorem dL_law_30 : decode cL_law 30 = .ok (.if_icmp .gt 1158, 3) := by decide +kernel
theorem dL_law_33 : decode cL_law 33 = .ok (.aload_n 0, 1) := by decide +kernel
theorem dL_law_34 : decode cL_law 34 = .ok (.iload 4, 2) := by decide +kernel
theorem dL_law_36 : decode cL_law 36 = .ok (.iaload, 1) := by decide +kernel
theorem dL_law_37 : decode cL_law 37 = .ok (.bipush 31, 2) := by decide +kernel
theorem dL_law_39 : decode cL_law 39 = .ok (.iand, 1) := by decide +kernel
theorem dL_law_40 : decode cL_law 40 = .ok (.tableswitch 1142 0 17 #[88, 161, 253, 321, 384, 440, 453, 509, 523, 590, 658, 726, 782, 837, 893, 949, 1016, 1079], 88) := by decide +kernel
theorem dL_law_128 : decode cL_law 128 = .ok (.aload_n 1, 1) := by decide +kernel
theorem dL_law_129 : decode cL_law 129 = .ok (.aload_n 0, 1) := by decide +kernel
theorem dL_law_130 : decode cL_law 130 = .ok (.iload 4, 2) := by decide +kernel
theorem dL_law_132 : decode cL_law 132 = .ok (.iconst 1, 1) := by decide +kernel
theorem dL_law_133 : decode cL_law 133 = .ok (.iadd, 1) := by decide +kernel
theorem dL_law_134 : decode cL_law 134 = .ok (.iaload, 1) := by decide +kernel
theorem dL_law_135 : decode cL_law 135 = .ok (.aload_n 0, 1) := by decide +kernel
theorem dL_law_136 : decode cL_law 136 = .ok (.iload 4, 2) := by decide +kernel
theorem dL_law_138 : decode cL_law 138 = .ok (.iconst 2, 1) := by decide +kernel
theorem dL_law_139 : decode cL_law 139 = .ok (.iadd, 1) := by decide +kernel
theorem dL_law_140 : decode cL_law 140 = .ok (.iaload, 1) := by decide +kernel
theorem dL_law_141 : decode cL_law 141 = .ok (.aload_n 0, 1) := by decide +kernel
theorem dL_law_142 : decode cL_law 142 = .ok (.iload 4, 2) := by decide +kernel
theorem dL_law_144 : decode cL_law 144 = .ok (.iconst 3, 1) := by decide +kernel
theorem dL_law_145 : decode cL_law 145 = .ok (.iadd, 1) := by decide +kernel
theorem dL_law_146 : decode cL_law 146 = .ok (.iaload, 1) := by decide +kernel
theorem dL_law_147 : decode cL_law 147 = .ok (.aload_n 0, 1) := by decide +kernel
theorem dL_law_148 : decode cL_law 148 = .ok (.iload 4, 2) := by decide +kernel
theorem dL_law_150 : decode cL_law 150 = .ok (.iconst 4, 1) := by decide +kernel
theorem dL_law_151 : decode cL_law 151 = .ok (.iadd, 1) := by decide +kernel
theorem dL_law_152 : decode cL_law 152 = .ok (.iaload, 1) := by decide +kernel
theorem dL_law_153 : decode cL_law 153 = .ok (.aload_n 0, 1) := by decide +kernel
theorem dL_law_154 : decode cL_law 154 = .ok (.iload 4, 2) := by decide +kernel
theorem dL_law_156 : decode cL_law 156 = .ok (.iconst 5, 1) := by decide +kernel
theorem dL_law_157 : decode cL_law 157 = .ok (.iadd, 1) := by decide +kernel
theorem dL_law_158 : decode cL_law 158 = .ok (.iaload, 1) := by decide +kernel
theorem dL_law_159 : decode cL_law 159 = .ok (.invokevirtual 68, 3) := by decide +kernel
theorem dL_law_162 : decode cL_law 162 = .ok (.aload_n 2, 1) := by decide +kernel
theorem dL_law_163 : decode cL_law 163 = .ok (.aload_n 0, 1) := by decide +kernel
theorem dL_law_164 : decode cL_law 164 = .ok (.iload 4, 2) := by decide +kernel
theorem dL_law_166 : decode cL_law 166 = .ok (.iconst 1, 1) := by decide +kernel
theorem dL_law_167 : decode cL_law 167 = .ok (.iadd, 1) := by decide +kernel
theorem dL_law_168 : decode cL_law 168 = .ok (.iaload, 1) := by decide +kernel
theorem dL_law_169 : decode cL_law 169 = .ok (.aload_n 0, 1) := by decide +kernel
theorem dL_law_170 : decode cL_law 170 = .ok (.iload 4, 2) := by decide +kernel
theorem dL_law_172 : decode cL_law 172 = .ok (.iconst 2, 1) := by decide +kernel
theorem dL_law_173 : decode cL_law 173 = .ok (.iadd, 1) := by decide +kernel
theorem dL_law_174 : decode cL_law 174 = .ok (.iaload, 1) := by decide +kernel
theorem dL_law_175 : decode cL_law 175 = .ok (.aload_n 0, 1) := by decide +kernel
theorem dL_law_176 : decode cL_law 176 = .ok (.iload 4, 2) := by decide +kernel
theorem dL_law_178 : decode cL_law 178 = .ok (.iconst 3, 1) := by decide +kernel
theorem dL_law_179 : decode cL_law 179 = .ok (.iadd, 1) := by decide +kernel
theorem dL_law_180 : decode cL_law 180 = .ok (.iaload, 1) := by decide +kernel
theorem dL_law_181 : decode cL_law 181 = .ok (.aload_n 0, 1) := by decide +kernel
theorem dL_law_182 : decode cL_law 182 = .ok (.iload 4, 2) := by decide +kernel
theorem dL_law_184 : decode cL_law 184 = .ok (.iconst 4, 1) := by decide +kernel
theorem dL_law_185 : decode cL_law 185 = .ok (.iadd, 1) := by decide +kernel
theorem dL_law_186 : decode cL_law 186 = .ok (.iaload, 1) := by decide +kernel
theorem dL_law_187 : decode cL_law 187 = .ok (.aload_n 0, 1) := by decide +kernel
theorem dL_law_188 : decode cL_law 188 = .ok (.iload 4, 2) := by decide +kernel
theorem dL_law_190 : decode cL_law 190 = .ok (.iconst 5, 1) := by decide +kernel
theorem dL_law_191 : decode cL_law 191 = .ok (.iadd, 1) := by decide +kernel
theorem dL_law_192 : decode cL_law 192 = .ok (.iaload, 1) := by decide +kernel
theorem dL_law_193 : decode cL_law 193 = .ok (.invokevirtual 72, 3) := by decide +kernel
theorem dL_law_196 : decode cL_law 196 = .ok (.if_icmp .eq 986, 3) := by decide +kernel
theorem dL_law_199 : decode cL_law 199 = .ok (.iconst 0, 1) := by decide +kernel
theorem dL_law_200 : decode cL_law 200 = .ok (.ireturn, 1) := by decide +kernel
theorem dL_law_201 : decode cL_law 201 = .ok (.aload_n 1, 1) := by decide +kernel
theorem dL_law_202 : decode cL_law 202 = .ok (.aload_n 0, 1) := by decide +kernel
theorem dL_law_203 : decode cL_law 203 = .ok (.iload 4, 2) := by decide +kernel
theorem dL_law_205 : decode cL_law 205 = .ok (.iconst 1, 1) := by decide +kernel
theorem dL_law_206 : decode cL_law 206 = .ok (.iadd, 1) := by decide +kernel
theorem dL_law_207 : decode cL_law 207 = .ok (.iaload, 1) := by decide +kernel
theorem dL_law_208 : decode cL_law 208 = .ok (.aload_n 0, 1) := by decide +kernel
theorem dL_law_209 : decode cL_law 209 = .ok (.iload 4, 2) := by decide +kernel
theorem dL_law_211 : decode cL_law 211 = .ok (.iconst 2, 1) := by decide +kernel
theorem dL_law_212 : decode cL_law 212 = .ok (.iadd, 1) := by decide +kernel
theorem dL_law_213 : decode cL_law 213 = .ok (.iaload, 1) := by decide +kernel
theorem dL_law_214 : decode cL_law 214 = .ok (.aload_n 0, 1) := by decide +kernel
theorem dL_law_215 : decode cL_law 215 = .ok (.iload 4, 2) := by decide +kernel
theorem dL_law_217 : decode cL_law 217 = .ok (.iconst 3, 1) := by decide +kernel
theorem dL_law_218 : decode cL_law 218 = .ok (.iadd, 1) := by decide +kernel
theorem dL_law_219 : decode cL_law 219 = .ok (.iaload, 1) := by decide +kernel
theorem dL_law_220 : decode cL_law 220 = .ok (.aload_n 0, 1) := by decide +kernel
theorem dL_law_221 : decode cL_law 221 = .ok (.iload 4, 2) := by decide +kernel
theorem dL_law_223 : decode cL_law 223 = .ok (.iconst 4, 1) := by decide +kernel
theorem dL_law_224 : decode cL_law 224 = .ok (.iadd, 1) := by decide +kernel
theorem dL_law_225 : decode cL_law 225 = .ok (.iaload, 1) := by decide +kernel
theorem dL_law_226 : decode cL_law 226 = .ok (.aload_n 3, 1) := by decide +kernel
theorem dL_law_227 : decode cL_law 227 = .ok (.invokestatic 73, 3) := by decide +kernel
theorem dL_law_230 : decode cL_law 230 = .ok (.istore 5, 2) := by decide +kernel
theorem dL_law_232 : decode cL_law 232 = .ok (.aload_n 2, 1) := by decide +kernel
theorem dL_law_233 : decode cL_law 233 = .ok (.aload_n 0, 1) := by decide +kernel
theorem dL_law_234 : decode cL_law 234 = .ok (.iload 4, 2) := by decide +kernel
theorem dL_law_236 : decode cL_law 236 = .ok (.iconst 1, 1) := by decide +kernel
theorem dL_law_237 : decode cL_law 237 = .ok (.iadd, 1) := by decide +kernel
theorem dL_law_238 : decode cL_law 238 = .ok (.iaload, 1) := by decide +kernel
theorem dL_law_239 : decode cL_law 239 = .ok (.aload_n 0, 1) := by decide +kernel
theorem dL_law_240 : decode cL_law 240 = .ok (.iload 4, 2) := by decide +kernel
theorem dL_law_242 : decode cL_law 242 = .ok (.iconst 2, 1) := by decide +kernel
theorem dL_law_243 : decode cL_law 243 = .ok (.iadd, 1) := by decide +kernel
theorem dL_law_244 : decode cL_law 244 = .ok (.iaload, 1) := by decide +kernel
theorem dL_law_245 : decode cL_law 245 = .ok (.aload_n 0, 1) := by decide +kernel
theorem dL_law_246 : decode cL_law 246 = .ok (.iload 4, 2) := by decide +kernel
theorem dL_law_248 : decode cL_law 248 = .ok (.iconst 3, 1) := by decide +kernel
theorem dL_law_249 : decode cL_law 249 = .ok (.iadd, 1) := by decide +kernel
theorem dL_law_250 : decode cL_law 250 = .ok (.iaload, 1) := by decide +kernel
theorem dL_law_251 : decode cL_law 251 = .ok (.aload_n 0, 1) := by decide +kernel
theorem dL_law_252 : decode cL_law 252 = .ok (.iload 4, 2) := by decide +kernel
theorem dL_law_254 : decode cL_law 254 = .ok (.iconst 4, 1) := by decide +kernel
theorem dL_law_255 : decode cL_law 255 = .ok (.iadd, 1) := by decide +kernel
theorem dL_law_256 : decode cL_law 256 = .ok (.iaload, 1) := by decide +kernel
theorem dL_law_257 : decode cL_law 257 = .ok (.invokevirtual 78, 3) := by decide +kernel
theorem dL_law_260 : decode cL_law 260 = .ok (.istore 6, 2) := by decide +kernel
theorem dL_law_262 : decode cL_law 262 = .ok (.aload_n 2, 1) := by decide +kernel
theorem dL_law_263 : decode cL_law 263 = .ok (.invokevirtual 79, 3) := by decide +kernel
theorem dL_law_266 : decode cL_law 266 = .ok (.iload 5, 2) := by decide +kernel
theorem dL_law_268 : decode cL_law 268 = .ok (.if_icmp .eq 5, 3) := by decide +kernel
theorem dL_law_271 : decode cL_law 271 = .ok (.iconst 0, 1) := by decide +kernel
theorem dL_law_272 : decode cL_law 272 = .ok (.ireturn, 1) := by decide +kernel
theorem dL_law_273 : decode cL_law 273 = .ok (.iload 5, 2) := by decide +kernel
theorem dL_law_275 : decode cL_law 275 = .ok (.ifCond .ne 15, 3) := by decide +kernel
theorem dL_law_278 : decode cL_law 278 = .ok (.aload_n 3, 1) := by decide +kernel
theorem dL_law_279 : decode cL_law 279 = .ok (.iconst 0, 1) := by decide +kernel
theorem dL_law_280 : decode cL_law 280 = .ok (.laload, 1) := by decide +kernel
theorem dL_law_281 : decode cL_law 281 = .ok (.iload 6, 2) := by decide +kernel
theorem dL_law_283 : decode cL_law 283 = .ok (.i2l, 1) := by decide +kernel
theorem dL_law_284 : decode cL_law 284 = .ok (.lcmp, 1) := by decide +kernel
theorem dL_law_285 : decode cL_law 285 = .ok (.ifCond .eq 5, 3) := by decide +kernel
theorem dL_law_288 : decode cL_law 288 = .ok (.iconst 0, 1) := by decide +kernel
theorem dL_law_289 : decode cL_law 289 = .ok (.ireturn, 1) := by decide +kernel
theorem dL_law_290 : decode cL_law 290 = .ok (.goto 892, 3) := by decide +kernel
theorem dL_law_293 : decode cL_law 293 = .ok (.aload_n 1, 1) := by decide +kernel
theorem dL_law_294 : decode cL_law 294 = .ok (.aload_n 0, 1) := by decide +kernel
theorem dL_law_295 : decode cL_law 295 = .ok (.iload 4, 2) := by decide +kernel
theorem dL_law_297 : decode cL_law 297 = .ok (.iconst 1, 1) := by decide +kernel
theorem dL_law_298 : decode cL_law 298 = .ok (.iadd, 1) := by decide +kernel
theorem dL_law_299 : decode cL_law 299 = .ok (.iaload, 1) := by decide +kernel
theorem dL_law_300 : decode cL_law 300 = .ok (.aload_n 0, 1) := by decide +kernel
theorem dL_law_301 : decode cL_law 301 = .ok (.iload 4, 2) := by decide +kernel
theorem dL_law_303 : decode cL_law 303 = .ok (.iconst 2, 1) := by decide +kernel
theorem dL_law_304 : decode cL_law 304 = .ok (.iadd, 1) := by decide +kernel
theorem dL_law_305 : decode cL_law 305 = .ok (.iaload, 1) := by decide +kernel
theorem dL_law_306 : decode cL_law 306 = .ok (.aload_n 3, 1) := by decide +kernel
theorem dL_law_307 : decode cL_law 307 = .ok (.invokestatic 83, 3) := by decide +kernel
theorem dL_law_310 : decode cL_law 310 = .ok (.istore 5, 2) := by decide +kernel
theorem dL_law_312 : decode cL_law 312 = .ok (.aload_n 2, 1) := by decide +kernel
theorem dL_law_313 : decode cL_law 313 = .ok (.aload_n 0, 1) := by decide +kernel
theorem dL_law_314 : decode cL_law 314 = .ok (.iload 4, 2) := by decide +kernel
theorem dL_law_316 : decode cL_law 316 = .ok (.iconst 1, 1) := by decide +kernel
theorem dL_law_317 : decode cL_law 317 = .ok (.iadd, 1) := by decide +kernel
theorem dL_law_318 : decode cL_law 318 = .ok (.iaload, 1) := by decide +kernel
theorem dL_law_319 : decode cL_law 319 = .ok (.aload_n 0, 1) := by decide +kernel
theorem dL_law_320 : decode cL_law 320 = .ok (.iload 4, 2) := by decide +kernel
theorem dL_law_322 : decode cL_law 322 = .ok (.iconst 2, 1) := by decide +kernel
theorem dL_law_323 : decode cL_law 323 = .ok (.iadd, 1) := by decide +kernel
theorem dL_law_324 : decode cL_law 324 = .ok (.iaload, 1) := by decide +kernel
theorem dL_law_325 : decode cL_law 325 = .ok (.invokevirtual 86, 3) := by decide +kernel
theorem dL_law_328 : decode cL_law 328 = .ok (.istore 6, 2) := by decide +kernel
theorem dL_law_330 : decode cL_law 330 = .ok (.aload_n 2, 1) := by decide +kernel
theorem dL_law_331 : decode cL_law 331 = .ok (.invokevirtual 79, 3) := by decide +kernel
theorem dL_law_334 : decode cL_law 334 = .ok (.iload 5, 2) := by decide +kernel
theorem dL_law_336 : decode cL_law 336 = .ok (.if_icmp .eq 5, 3) := by decide +kernel
theorem dL_law_339 : decode cL_law 339 = .ok (.iconst 0, 1) := by decide +kernel
theorem dL_law_340 : decode cL_law 340 = .ok (.ireturn, 1) := by decide +kernel
theorem dL_law_341 : decode cL_law 341 = .ok (.iload 5, 2) := by decide +kernel
theorem dL_law_343 : decode cL_law 343 = .ok (.ifCond .ne 15, 3) := by decide +kernel
theorem dL_law_346 : decode cL_law 346 = .ok (.aload_n 3, 1) := by decide +kernel
theorem dL_law_347 : decode cL_law 347 = .ok (.iconst 0, 1) := by decide +kernel
theorem dL_law_348 : decode cL_law 348 = .ok (.laload, 1) := by decide +kernel
theorem dL_law_349 : decode cL_law 349 = .ok (.iload 6, 2) := by decide +kernel
theorem dL_law_351 : decode cL_law 351 = .ok (.i2l, 1) := by decide +kernel
theorem dL_law_352 : decode cL_law 352 = .ok (.lcmp, 1) := by decide +kernel
theorem dL_law_353 : decode cL_law 353 = .ok (.ifCond .eq 5, 3) := by decide +kernel
theorem dL_law_356 : decode cL_law 356 = .ok (.iconst 0, 1) := by decide +kernel
theorem dL_law_357 : decode cL_law 357 = .ok (.ireturn, 1) := by decide +kernel
theorem dL_law_358 : decode cL_law 358 = .ok (.goto 824, 3) := by decide +kernel
theorem dL_law_361 : decode cL_law 361 = .ok (.aload_n 1, 1) := by decide +kernel
theorem dL_law_362 : decode cL_law 362 = .ok (.aload_n 0, 1) := by decide +kernel
theorem dL_law_363 : decode cL_law 363 = .ok (.iload 4, 2) := by decide +kernel
theorem dL_law_365 : decode cL_law 365 = .ok (.iconst 1, 1) := by decide +kernel
theorem dL_law_366 : decode cL_law 366 = .ok (.iadd, 1) := by decide +kernel
theorem dL_law_367 : decode cL_law 367 = .ok (.iaload, 1) := by decide +kernel
theorem dL_law_368 : decode cL_law 368 = .ok (.aload_n 3, 1) := by decide +kernel
theorem dL_law_369 : decode cL_law 369 = .ok (.invokestatic 87, 3) := by decide +kernel
theorem dL_law_372 : decode cL_law 372 = .ok (.istore 5, 2) := by decide +kernel
theorem dL_law_374 : decode cL_law 374 = .ok (.aload_n 2, 1) := by decide +kernel
theorem dL_law_375 : decode cL_law 375 = .ok (.aload_n 0, 1) := by decide +kernel
theorem dL_law_376 : decode cL_law 376 = .ok (.iload 4, 2) := by decide +kernel
theorem dL_law_378 : decode cL_law 378 = .ok (.iconst 1, 1) := by decide +kernel
theorem dL_law_379 : decode cL_law 379 = .ok (.iadd, 1) := by decide +kernel
theorem dL_law_380 : decode cL_law 380 = .ok (.iaload, 1) := by decide +kernel
theorem dL_law_381 : decode cL_law 381 = .ok (.invokevirtual 90, 3) := by decide +kernel
theorem dL_law_384 : decode cL_law 384 = .ok (.istore 6, 2) := by decide +kernel
theorem dL_law_386 : decode cL_law 386 = .ok (.aload_n 2, 1) := by decide +kernel
theorem dL_law_387 : decode cL_law 387 = .ok (.invokevirtual 79, 3) := by decide +kernel
theorem dL_law_390 : decode cL_law 390 = .ok (.iload 5, 2) := by decide +kernel
theorem dL_law_392 : decode cL_law 392 = .ok (.if_icmp .eq 5, 3) := by decide +kernel
theorem dL_law_395 : decode cL_law 395 = .ok (.iconst 0, 1) := by decide +kernel
theorem dL_law_396 : decode cL_law 396 = .ok (.ireturn, 1) := by decide +kernel
theorem dL_law_397 : decode cL_law 397 = .ok (.iload 5, 2) := by decide +kernel
theorem dL_law_399 : decode cL_law 399 = .ok (.ifCond .ne 22, 3) := by decide +kernel
theorem dL_law_402 : decode cL_law 402 = .ok (.aload_n 3, 1) := by decide +kernel
theorem dL_law_403 : decode cL_law 403 = .ok (.iconst 0, 1) := by decide +kernel
theorem dL_law_404 : decode cL_law 404 = .ok (.laload, 1) := by decide +kernel
theorem dL_law_405 : decode cL_law 405 = .ok (.iload 6, 2) := by decide +kernel
theorem dL_law_407 : decode cL_law 407 = .ok (.ifCond .eq 7, 3) := by decide +kernel
theorem dL_law_410 : decode cL_law 410 = .ok (.lconst 1, 1) := by decide +kernel
theorem dL_law_411 : decode cL_law 411 = .ok (.goto 4, 3) := by decide +kernel
theorem dL_law_414 : decode cL_law 414 = .ok (.lconst 0, 1) := by decide +kernel
theorem dL_law_415 : decode cL_law 415 = .ok (.lcmp, 1) := by decide +kernel
theorem dL_law_416 : decode cL_law 416 = .ok (.ifCond .eq 5, 3) := by decide +kernel
theorem dL_law_419 : decode cL_law 419 = .ok (.iconst 0, 1) := by decide +kernel
theorem dL_law_420 : decode cL_law 420 = .ok (.ireturn, 1) := by decide +kernel
theorem dL_law_421 : decode cL_law 421 = .ok (.goto 761, 3) := by decide +kernel
theorem dL_law_424 : decode cL_law 424 = .ok (.aload_n 1, 1) := by decide +kernel
theorem dL_law_425 : decode cL_law 425 = .ok (.aload_n 0, 1) := by decide +kernel
theorem dL_law_426 : decode cL_law 426 = .ok (.iload 4, 2) := by decide +kernel
theorem dL_law_428 : decode cL_law 428 = .ok (.iconst 1, 1) := by decide +kernel
theorem dL_law_429 : decode cL_law 429 = .ok (.iadd, 1) := by decide +kernel
theorem dL_law_430 : decode cL_law 430 = .ok (.iaload, 1) := by decide +kernel
theorem dL_law_431 : decode cL_law 431 = .ok (.aload_n 3, 1) := by decide +kernel
theorem dL_law_432 : decode cL_law 432 = .ok (.invokestatic 91, 3) := by decide +kernel
theorem dL_law_435 : decode cL_law 435 = .ok (.istore 5, 2) := by decide +kernel
theorem dL_law_437 : decode cL_law 437 = .ok (.aload_n 2, 1) := by decide +kernel
end
section
theorem dL_law_438 : decode cL_law 438 = .ok (.aload_n 0, 1) := by decide +kernel
theorem dL_law_439 : decode cL_law 439 = .ok (.iload 4, 2) := by decide +kernel
theorem dL_law_441 : decode cL_law 441 = .ok (.iconst 1, 1) := by decide +kernel
theorem dL_law_442 : decode cL_law 442 = .ok (.iadd, 1) := by decide +kernel
theorem dL_law_443 : decode cL_law 443 = .ok (.iaload, 1) := by decide +kernel
theorem dL_law_444 : decode cL_law 444 = .ok (.invokevirtual 93, 3) := by decide +kernel
theorem dL_law_447 : decode cL_law 447 = .ok (.istore 6, 2) := by decide +kernel
theorem dL_law_449 : decode cL_law 449 = .ok (.aload_n 2, 1) := by decide +kernel
theorem dL_law_450 : decode cL_law 450 = .ok (.invokevirtual 79, 3) := by decide +kernel
theorem dL_law_453 : decode cL_law 453 = .ok (.iload 5, 2) := by decide +kernel
theorem dL_law_455 : decode cL_law 455 = .ok (.if_icmp .eq 5, 3) := by decide +kernel
theorem dL_law_458 : decode cL_law 458 = .ok (.iconst 0, 1) := by decide +kernel
theorem dL_law_459 : decode cL_law 459 = .ok (.ireturn, 1) := by decide +kernel
theorem dL_law_460 : decode cL_law 460 = .ok (.iload 5, 2) := by decide +kernel
theorem dL_law_462 : decode cL_law 462 = .ok (.ifCond .ne 15, 3) := by decide +kernel
theorem dL_law_465 : decode cL_law 465 = .ok (.aload_n 3, 1) := by decide +kernel
theorem dL_law_466 : decode cL_law 466 = .ok (.iconst 0, 1) := by decide +kernel
theorem dL_law_467 : decode cL_law 467 = .ok (.laload, 1) := by decide +kernel
theorem dL_law_468 : decode cL_law 468 = .ok (.iload 6, 2) := by decide +kernel
theorem dL_law_470 : decode cL_law 470 = .ok (.i2l, 1) := by decide +kernel
theorem dL_law_471 : decode cL_law 471 = .ok (.lcmp, 1) := by decide +kernel
theorem dL_law_472 : decode cL_law 472 = .ok (.ifCond .eq 5, 3) := by decide +kernel
theorem dL_law_475 : decode cL_law 475 = .ok (.iconst 0, 1) := by decide +kernel
theorem dL_law_476 : decode cL_law 476 = .ok (.ireturn, 1) := by decide +kernel
theorem dL_law_477 : decode cL_law 477 = .ok (.goto 705, 3) := by decide +kernel
theorem dL_law_480 : decode cL_law 480 = .ok (.aload_n 1, 1) := by decide +kernel
theorem dL_law_481 : decode cL_law 481 = .ok (.invokevirtual 94, 3) := by decide +kernel
theorem dL_law_484 : decode cL_law 484 = .ok (.aload_n 2, 1) := by decide +kernel
theorem dL_law_485 : decode cL_law 485 = .ok (.invokevirtual 97, 3) := by decide +kernel
theorem dL_law_488 : decode cL_law 488 = .ok (.if_icmp .eq 694, 3) := by decide +kernel
theorem dL_law_491 : decode cL_law 491 = .ok (.iconst 0, 1) := by decide +kernel
theorem dL_law_492 : decode cL_law 492 = .ok (.ireturn, 1) := by decide +kernel
theorem dL_law_493 : decode cL_law 493 = .ok (.aload_n 1, 1) := by decide +kernel
theorem dL_law_494 : decode cL_law 494 = .ok (.aload_n 0, 1) := by decide +kernel
theorem dL_law_495 : decode cL_law 495 = .ok (.iload 4, 2) := by decide +kernel
theorem dL_law_497 : decode cL_law 497 = .ok (.iconst 1, 1) := by decide +kernel
theorem dL_law_498 : decode cL_law 498 = .ok (.iadd, 1) := by decide +kernel
theorem dL_law_499 : decode cL_law 499 = .ok (.iaload, 1) := by decide +kernel
theorem dL_law_500 : decode cL_law 500 = .ok (.aload_n 3, 1) := by decide +kernel
theorem dL_law_501 : decode cL_law 501 = .ok (.invokestatic 98, 3) := by decide +kernel
theorem dL_law_504 : decode cL_law 504 = .ok (.istore 5, 2) := by decide +kernel
theorem dL_law_506 : decode cL_law 506 = .ok (.aload_n 2, 1) := by decide +kernel
theorem dL_law_507 : decode cL_law 507 = .ok (.aload_n 0, 1) := by decide +kernel
theorem dL_law_508 : decode cL_law 508 = .ok (.iload 4, 2) := by decide +kernel
theorem dL_law_510 : decode cL_law 510 = .ok (.iconst 1, 1) := by decide +kernel
theorem dL_law_511 : decode cL_law 511 = .ok (.iadd, 1) := by decide +kernel
theorem dL_law_512 : decode cL_law 512 = .ok (.iaload, 1) := by decide +kernel
theorem dL_law_513 : decode cL_law 513 = .ok (.invokevirtual 100, 3) := by decide +kernel
theorem dL_law_516 : decode cL_law 516 = .ok (.istore 6, 2) := by decide +kernel
theorem dL_law_518 : decode cL_law 518 = .ok (.aload_n 2, 1) := by decide +kernel
theorem dL_law_519 : decode cL_law 519 = .ok (.invokevirtual 79, 3) := by decide +kernel
theorem dL_law_522 : decode cL_law 522 = .ok (.iload 5, 2) := by decide +kernel
theorem dL_law_524 : decode cL_law 524 = .ok (.if_icmp .eq 5, 3) := by decide +kernel
theorem dL_law_527 : decode cL_law 527 = .ok (.iconst 0, 1) := by decide +kernel
theorem dL_law_528 : decode cL_law 528 = .ok (.ireturn, 1) := by decide +kernel
theorem dL_law_529 : decode cL_law 529 = .ok (.iload 5, 2) := by decide +kernel
theorem dL_law_531 : decode cL_law 531 = .ok (.ifCond .ne 15, 3) := by decide +kernel
theorem dL_law_534 : decode cL_law 534 = .ok (.aload_n 3, 1) := by decide +kernel
theorem dL_law_535 : decode cL_law 535 = .ok (.iconst 0, 1) := by decide +kernel
theorem dL_law_536 : decode cL_law 536 = .ok (.laload, 1) := by decide +kernel
theorem dL_law_537 : decode cL_law 537 = .ok (.iload 6, 2) := by decide +kernel
theorem dL_law_539 : decode cL_law 539 = .ok (.i2l, 1) := by decide +kernel
theorem dL_law_540 : decode cL_law 540 = .ok (.lcmp, 1) := by decide +kernel
theorem dL_law_541 : decode cL_law 541 = .ok (.ifCond .eq 5, 3) := by decide +kernel
theorem dL_law_544 : decode cL_law 544 = .ok (.iconst 0, 1) := by decide +kernel
theorem dL_law_545 : decode cL_law 545 = .ok (.ireturn, 1) := by decide +kernel
theorem dL_law_546 : decode cL_law 546 = .ok (.goto 636, 3) := by decide +kernel
theorem dL_law_549 : decode cL_law 549 = .ok (.aload_n 1, 1) := by decide +kernel
theorem dL_law_550 : decode cL_law 550 = .ok (.invokevirtual 101, 3) := by decide +kernel
theorem dL_law_553 : decode cL_law 553 = .ok (.aload_n 2, 1) := by decide +kernel
theorem dL_law_554 : decode cL_law 554 = .ok (.invokevirtual 105, 3) := by decide +kernel
theorem dL_law_557 : decode cL_law 557 = .ok (.lcmp, 1) := by decide +kernel
theorem dL_law_558 : decode cL_law 558 = .ok (.ifCond .eq 624, 3) := by decide +kernel
theorem dL_law_561 : decode cL_law 561 = .ok (.iconst 0, 1) := by decide +kernel
theorem dL_law_562 : decode cL_law 562 = .ok (.ireturn, 1) := by decide +kernel
theorem dL_law_563 : decode cL_law 563 = .ok (.aload_n 1, 1) := by decide +kernel
theorem dL_law_564 : decode cL_law 564 = .ok (.aload_n 0, 1) := by decide +kernel
theorem dL_law_565 : decode cL_law 565 = .ok (.iload 4, 2) := by decide +kernel
theorem dL_law_567 : decode cL_law 567 = .ok (.iconst 1, 1) := by decide +kernel
theorem dL_law_568 : decode cL_law 568 = .ok (.iadd, 1) := by decide +kernel
theorem dL_law_569 : decode cL_law 569 = .ok (.iaload, 1) := by decide +kernel
theorem dL_law_570 : decode cL_law 570 = .ok (.aload_n 0, 1) := by decide +kernel
theorem dL_law_571 : decode cL_law 571 = .ok (.iload 4, 2) := by decide +kernel
theorem dL_law_573 : decode cL_law 573 = .ok (.iconst 2, 1) := by decide +kernel
theorem dL_law_574 : decode cL_law 574 = .ok (.iadd, 1) := by decide +kernel
theorem dL_law_575 : decode cL_law 575 = .ok (.iaload, 1) := by decide +kernel
theorem dL_law_576 : decode cL_law 576 = .ok (.aload_n 3, 1) := by decide +kernel
theorem dL_law_577 : decode cL_law 577 = .ok (.invokestatic 106, 3) := by decide +kernel
theorem dL_law_580 : decode cL_law 580 = .ok (.istore 5, 2) := by decide +kernel
theorem dL_law_582 : decode cL_law 582 = .ok (.aload_n 2, 1) := by decide +kernel
theorem dL_law_583 : decode cL_law 583 = .ok (.aload_n 0, 1) := by decide +kernel
theorem dL_law_584 : decode cL_law 584 = .ok (.iload 4, 2) := by decide +kernel
theorem dL_law_586 : decode cL_law 586 = .ok (.iconst 1, 1) := by decide +kernel
theorem dL_law_587 : decode cL_law 587 = .ok (.iadd, 1) := by decide +kernel
theorem dL_law_588 : decode cL_law 588 = .ok (.iaload, 1) := by decide +kernel
theorem dL_law_589 : decode cL_law 589 = .ok (.aload_n 0, 1) := by decide +kernel
theorem dL_law_590 : decode cL_law 590 = .ok (.iload 4, 2) := by decide +kernel
theorem dL_law_592 : decode cL_law 592 = .ok (.iconst 2, 1) := by decide +kernel
theorem dL_law_593 : decode cL_law 593 = .ok (.iadd, 1) := by decide +kernel
theorem dL_law_594 : decode cL_law 594 = .ok (.iaload, 1) := by decide +kernel
theorem dL_law_595 : decode cL_law 595 = .ok (.invokevirtual 108, 3) := by decide +kernel
theorem dL_law_598 : decode cL_law 598 = .ok (.lstore 6, 2) := by decide +kernel
theorem dL_law_600 : decode cL_law 600 = .ok (.aload_n 2, 1) := by decide +kernel
theorem dL_law_601 : decode cL_law 601 = .ok (.invokevirtual 79, 3) := by decide +kernel
theorem dL_law_604 : decode cL_law 604 = .ok (.iload 5, 2) := by decide +kernel
theorem dL_law_606 : decode cL_law 606 = .ok (.if_icmp .eq 5, 3) := by decide +kernel
theorem dL_law_609 : decode cL_law 609 = .ok (.iconst 0, 1) := by decide +kernel
theorem dL_law_610 : decode cL_law 610 = .ok (.ireturn, 1) := by decide +kernel
theorem dL_law_611 : decode cL_law 611 = .ok (.iload 5, 2) := by decide +kernel
theorem dL_law_613 : decode cL_law 613 = .ok (.ifCond .ne 14, 3) := by decide +kernel
theorem dL_law_616 : decode cL_law 616 = .ok (.aload_n 3, 1) := by decide +kernel
theorem dL_law_617 : decode cL_law 617 = .ok (.iconst 0, 1) := by decide +kernel
theorem dL_law_618 : decode cL_law 618 = .ok (.laload, 1) := by decide +kernel
theorem dL_law_619 : decode cL_law 619 = .ok (.lload 6, 2) := by decide +kernel
theorem dL_law_621 : decode cL_law 621 = .ok (.lcmp, 1) := by decide +kernel
theorem dL_law_622 : decode cL_law 622 = .ok (.ifCond .eq 5, 3) := by decide +kernel
theorem dL_law_625 : decode cL_law 625 = .ok (.iconst 0, 1) := by decide +kernel
theorem dL_law_626 : decode cL_law 626 = .ok (.ireturn, 1) := by decide +kernel
theorem dL_law_627 : decode cL_law 627 = .ok (.goto 555, 3) := by decide +kernel
theorem dL_law_630 : decode cL_law 630 = .ok (.aload_n 1, 1) := by decide +kernel
theorem dL_law_631 : decode cL_law 631 = .ok (.aload_n 0, 1) := by decide +kernel
theorem dL_law_632 : decode cL_law 632 = .ok (.iload 4, 2) := by decide +kernel
theorem dL_law_634 : decode cL_law 634 = .ok (.iconst 1, 1) := by decide +kernel
theorem dL_law_635 : decode cL_law 635 = .ok (.iadd, 1) := by decide +kernel
theorem dL_law_636 : decode cL_law 636 = .ok (.iaload, 1) := by decide +kernel
theorem dL_law_637 : decode cL_law 637 = .ok (.aload_n 0, 1) := by decide +kernel
theorem dL_law_638 : decode cL_law 638 = .ok (.iload 4, 2) := by decide +kernel
theorem dL_law_640 : decode cL_law 640 = .ok (.iconst 2, 1) := by decide +kernel
theorem dL_law_641 : decode cL_law 641 = .ok (.iadd, 1) := by decide +kernel
theorem dL_law_642 : decode cL_law 642 = .ok (.iaload, 1) := by decide +kernel
theorem dL_law_643 : decode cL_law 643 = .ok (.aload_n 3, 1) := by decide +kernel
theorem dL_law_644 : decode cL_law 644 = .ok (.invokestatic 109, 3) := by decide +kernel
theorem dL_law_647 : decode cL_law 647 = .ok (.istore 5, 2) := by decide +kernel
theorem dL_law_649 : decode cL_law 649 = .ok (.aload_n 2, 1) := by decide +kernel
theorem dL_law_650 : decode cL_law 650 = .ok (.aload_n 0, 1) := by decide +kernel
theorem dL_law_651 : decode cL_law 651 = .ok (.iload 4, 2) := by decide +kernel
theorem dL_law_653 : decode cL_law 653 = .ok (.iconst 1, 1) := by decide +kernel
theorem dL_law_654 : decode cL_law 654 = .ok (.iadd, 1) := by decide +kernel
theorem dL_law_655 : decode cL_law 655 = .ok (.iaload, 1) := by decide +kernel
theorem dL_law_656 : decode cL_law 656 = .ok (.aload_n 0, 1) := by decide +kernel
theorem dL_law_657 : decode cL_law 657 = .ok (.iload 4, 2) := by decide +kernel
theorem dL_law_659 : decode cL_law 659 = .ok (.iconst 2, 1) := by decide +kernel
theorem dL_law_660 : decode cL_law 660 = .ok (.iadd, 1) := by decide +kernel
theorem dL_law_661 : decode cL_law 661 = .ok (.iaload, 1) := by decide +kernel
theorem dL_law_662 : decode cL_law 662 = .ok (.invokevirtual 111, 3) := by decide +kernel
theorem dL_law_665 : decode cL_law 665 = .ok (.istore 6, 2) := by decide +kernel
theorem dL_law_667 : decode cL_law 667 = .ok (.aload_n 2, 1) := by decide +kernel
theorem dL_law_668 : decode cL_law 668 = .ok (.invokevirtual 79, 3) := by decide +kernel
theorem dL_law_671 : decode cL_law 671 = .ok (.iload 5, 2) := by decide +kernel
theorem dL_law_673 : decode cL_law 673 = .ok (.if_icmp .eq 5, 3) := by decide +kernel
theorem dL_law_676 : decode cL_law 676 = .ok (.iconst 0, 1) := by decide +kernel
theorem dL_law_677 : decode cL_law 677 = .ok (.ireturn, 1) := by decide +kernel
theorem dL_law_678 : decode cL_law 678 = .ok (.iload 5, 2) := by decide +kernel
theorem dL_law_680 : decode cL_law 680 = .ok (.ifCond .ne 15, 3) := by decide +kernel
theorem dL_law_683 : decode cL_law 683 = .ok (.aload_n 3, 1) := by decide +kernel
theorem dL_law_684 : decode cL_law 684 = .ok (.iconst 0, 1) := by decide +kernel
theorem dL_law_685 : decode cL_law 685 = .ok (.laload, 1) := by decide +kernel
theorem dL_law_686 : decode cL_law 686 = .ok (.iload 6, 2) := by decide +kernel
theorem dL_law_688 : decode cL_law 688 = .ok (.i2l, 1) := by decide +kernel
theorem dL_law_689 : decode cL_law 689 = .ok (.lcmp, 1) := by decide +kernel
theorem dL_law_690 : decode cL_law 690 = .ok (.ifCond .eq 5, 3) := by decide +kernel
theorem dL_law_693 : decode cL_law 693 = .ok (.iconst 0, 1) := by decide +kernel
theorem dL_law_694 : decode cL_law 694 = .ok (.ireturn, 1) := by decide +kernel
theorem dL_law_695 : decode cL_law 695 = .ok (.goto 487, 3) := by decide +kernel
theorem dL_law_698 : decode cL_law 698 = .ok (.aload_n 1, 1) := by decide +kernel
theorem dL_law_699 : decode cL_law 699 = .ok (.aload_n 0, 1) := by decide +kernel
theorem dL_law_700 : decode cL_law 700 = .ok (.iload 4, 2) := by decide +kernel
theorem dL_law_702 : decode cL_law 702 = .ok (.iconst 1, 1) := by decide +kernel
theorem dL_law_703 : decode cL_law 703 = .ok (.iadd, 1) := by decide +kernel
theorem dL_law_704 : decode cL_law 704 = .ok (.iaload, 1) := by decide +kernel
theorem dL_law_705 : decode cL_law 705 = .ok (.aload_n 0, 1) := by decide +kernel
theorem dL_law_706 : decode cL_law 706 = .ok (.iload 4, 2) := by decide +kernel
theorem dL_law_708 : decode cL_law 708 = .ok (.iconst 2, 1) := by decide +kernel
theorem dL_law_709 : decode cL_law 709 = .ok (.iadd, 1) := by decide +kernel
theorem dL_law_710 : decode cL_law 710 = .ok (.iaload, 1) := by decide +kernel
theorem dL_law_711 : decode cL_law 711 = .ok (.aload_n 3, 1) := by decide +kernel
theorem dL_law_712 : decode cL_law 712 = .ok (.invokestatic 112, 3) := by decide +kernel
theorem dL_law_715 : decode cL_law 715 = .ok (.istore 5, 2) := by decide +kernel
theorem dL_law_717 : decode cL_law 717 = .ok (.aload_n 2, 1) := by decide +kernel
theorem dL_law_718 : decode cL_law 718 = .ok (.aload_n 0, 1) := by decide +kernel
theorem dL_law_719 : decode cL_law 719 = .ok (.iload 4, 2) := by decide +kernel
theorem dL_law_721 : decode cL_law 721 = .ok (.iconst 1, 1) := by decide +kernel
theorem dL_law_722 : decode cL_law 722 = .ok (.iadd, 1) := by decide +kernel
theorem dL_law_723 : decode cL_law 723 = .ok (.iaload, 1) := by decide +kernel
theorem dL_law_724 : decode cL_law 724 = .ok (.aload_n 0, 1) := by decide +kernel
theorem dL_law_725 : decode cL_law 725 = .ok (.iload 4, 2) := by decide +kernel
theorem dL_law_727 : decode cL_law 727 = .ok (.iconst 2, 1) := by decide +kernel
theorem dL_law_728 : decode cL_law 728 = .ok (.iadd, 1) := by decide +kernel
theorem dL_law_729 : decode cL_law 729 = .ok (.iaload, 1) := by decide +kernel
theorem dL_law_730 : decode cL_law 730 = .ok (.invokevirtual 114, 3) := by decide +kernel
theorem dL_law_733 : decode cL_law 733 = .ok (.istore 6, 2) := by decide +kernel
theorem dL_law_735 : decode cL_law 735 = .ok (.aload_n 2, 1) := by decide +kernel
theorem dL_law_736 : decode cL_law 736 = .ok (.invokevirtual 79, 3) := by decide +kernel
theorem dL_law_739 : decode cL_law 739 = .ok (.iload 5, 2) := by decide +kernel
theorem dL_law_741 : decode cL_law 741 = .ok (.if_icmp .eq 5, 3) := by decide +kernel
theorem dL_law_744 : decode cL_law 744 = .ok (.iconst 0, 1) := by decide +kernel
theorem dL_law_745 : decode cL_law 745 = .ok (.ireturn, 1) := by decide +kernel
theorem dL_law_746 : decode cL_law 746 = .ok (.iload 5, 2) := by decide +kernel
theorem dL_law_748 : decode cL_law 748 = .ok (.ifCond .ne 15, 3) := by decide +kernel
theorem dL_law_751 : decode cL_law 751 = .ok (.aload_n 3, 1) := by decide +kernel
theorem dL_law_752 : decode cL_law 752 = .ok (.iconst 0, 1) := by decide +kernel
theorem dL_law_753 : decode cL_law 753 = .ok (.laload, 1) := by decide +kernel
theorem dL_law_754 : decode cL_law 754 = .ok (.iload 6, 2) := by decide +kernel
theorem dL_law_756 : decode cL_law 756 = .ok (.i2l, 1) := by decide +kernel
theorem dL_law_757 : decode cL_law 757 = .ok (.lcmp, 1) := by decide +kernel
theorem dL_law_758 : decode cL_law 758 = .ok (.ifCond .eq 5, 3) := by decide +kernel
theorem dL_law_761 : decode cL_law 761 = .ok (.iconst 0, 1) := by decide +kernel
theorem dL_law_762 : decode cL_law 762 = .ok (.ireturn, 1) := by decide +kernel
theorem dL_law_763 : decode cL_law 763 = .ok (.goto 419, 3) := by decide +kernel
theorem dL_law_766 : decode cL_law 766 = .ok (.aload_n 1, 1) := by decide +kernel
theorem dL_law_767 : decode cL_law 767 = .ok (.aload_n 0, 1) := by decide +kernel
theorem dL_law_768 : decode cL_law 768 = .ok (.iload 4, 2) := by decide +kernel
theorem dL_law_770 : decode cL_law 770 = .ok (.iconst 1, 1) := by decide +kernel
theorem dL_law_771 : decode cL_law 771 = .ok (.iadd, 1) := by decide +kernel
theorem dL_law_772 : decode cL_law 772 = .ok (.iaload, 1) := by decide +kernel
theorem dL_law_773 : decode cL_law 773 = .ok (.aload_n 3, 1) := by decide +kernel
theorem dL_law_774 : decode cL_law 774 = .ok (.invokestatic 115, 3) := by decide +kernel
theorem dL_law_777 : decode cL_law 777 = .ok (.istore 5, 2) := by decide +kernel
theorem dL_law_779 : decode cL_law 779 = .ok (.aload_n 2, 1) := by decide +kernel
theorem dL_law_780 : decode cL_law 780 = .ok (.aload_n 0, 1) := by decide +kernel
theorem dL_law_781 : decode cL_law 781 = .ok (.iload 4, 2) := by decide +kernel
theorem dL_law_783 : decode cL_law 783 = .ok (.iconst 1, 1) := by decide +kernel
theorem dL_law_784 : decode cL_law 784 = .ok (.iadd, 1) := by decide +kernel
theorem dL_law_785 : decode cL_law 785 = .ok (.iaload, 1) := by decide +kernel
theorem dL_law_786 : decode cL_law 786 = .ok (.invokevirtual 117, 3) := by decide +kernel
theorem dL_law_789 : decode cL_law 789 = .ok (.istore 6, 2) := by decide +kernel
theorem dL_law_791 : decode cL_law 791 = .ok (.aload_n 2, 1) := by decide +kernel
theorem dL_law_792 : decode cL_law 792 = .ok (.invokevirtual 79, 3) := by decide +kernel
theorem dL_law_795 : decode cL_law 795 = .ok (.iload 5, 2) := by decide +kernel
theorem dL_law_797 : decode cL_law 797 = .ok (.if_icmp .eq 5, 3) := by decide +kernel
theorem dL_law_800 : decode cL_law 800 = .ok (.iconst 0, 1) := by decide +kernel
theorem dL_law_801 : decode cL_law 801 = .ok (.ireturn, 1) := by decide +kernel
theorem dL_law_802 : decode cL_law 802 = .ok (.iload 5, 2) := by decide +kernel
theorem dL_law_804 : decode cL_law 804 = .ok (.ifCond .ne 15, 3) := by decide +kernel
theorem dL_law_807 : decode cL_law 807 = .ok (.aload_n 3, 1) := by decide +kernel
theorem dL_law_808 : decode cL_law 808 = .ok (.iconst 0, 1) := by decide +kernel
theorem dL_law_809 : decode cL_law 809 = .ok (.laload, 1) := by decide +kernel
theorem dL_law_810 : decode cL_law 810 = .ok (.iload 6, 2) := by decide +kernel
theorem dL_law_812 : decode cL_law 812 = .ok (.i2l, 1) := by decide +kernel
theorem dL_law_813 : decode cL_law 813 = .ok (.lcmp, 1) := by decide +kernel
end
section
theorem dL_law_814 : decode cL_law 814 = .ok (.ifCond .eq 5, 3) := by decide +kernel
theorem dL_law_817 : decode cL_law 817 = .ok (.iconst 0, 1) := by decide +kernel
theorem dL_law_818 : decode cL_law 818 = .ok (.ireturn, 1) := by decide +kernel
theorem dL_law_819 : decode cL_law 819 = .ok (.goto 363, 3) := by decide +kernel
theorem dL_law_822 : decode cL_law 822 = .ok (.aload_n 1, 1) := by decide +kernel
theorem dL_law_823 : decode cL_law 823 = .ok (.aload_n 0, 1) := by decide +kernel
theorem dL_law_824 : decode cL_law 824 = .ok (.iload 4, 2) := by decide +kernel
theorem dL_law_826 : decode cL_law 826 = .ok (.iconst 1, 1) := by decide +kernel
theorem dL_law_827 : decode cL_law 827 = .ok (.iadd, 1) := by decide +kernel
theorem dL_law_828 : decode cL_law 828 = .ok (.iaload, 1) := by decide +kernel
theorem dL_law_829 : decode cL_law 829 = .ok (.aload_n 3, 1) := by decide +kernel
theorem dL_law_830 : decode cL_law 830 = .ok (.invokestatic 118, 3) := by decide +kernel
theorem dL_law_833 : decode cL_law 833 = .ok (.istore 5, 2) := by decide +kernel
theorem dL_law_835 : decode cL_law 835 = .ok (.aload_n 2, 1) := by decide +kernel
theorem dL_law_836 : decode cL_law 836 = .ok (.aload_n 0, 1) := by decide +kernel
theorem dL_law_837 : decode cL_law 837 = .ok (.iload 4, 2) := by decide +kernel
theorem dL_law_839 : decode cL_law 839 = .ok (.iconst 1, 1) := by decide +kernel
theorem dL_law_840 : decode cL_law 840 = .ok (.iadd, 1) := by decide +kernel
theorem dL_law_841 : decode cL_law 841 = .ok (.iaload, 1) := by decide +kernel
theorem dL_law_842 : decode cL_law 842 = .ok (.invokevirtual 120, 3) := by decide +kernel
theorem dL_law_845 : decode cL_law 845 = .ok (.lstore 6, 2) := by decide +kernel
theorem dL_law_847 : decode cL_law 847 = .ok (.aload_n 2, 1) := by decide +kernel
theorem dL_law_848 : decode cL_law 848 = .ok (.invokevirtual 79, 3) := by decide +kernel
theorem dL_law_851 : decode cL_law 851 = .ok (.iload 5, 2) := by decide +kernel
theorem dL_law_853 : decode cL_law 853 = .ok (.if_icmp .eq 5, 3) := by decide +kernel
theorem dL_law_856 : decode cL_law 856 = .ok (.iconst 0, 1) := by decide +kernel
theorem dL_law_857 : decode cL_law 857 = .ok (.ireturn, 1) := by decide +kernel
theorem dL_law_858 : decode cL_law 858 = .ok (.iload 5, 2) := by decide +kernel
theorem dL_law_860 : decode cL_law 860 = .ok (.ifCond .ne 14, 3) := by decide +kernel
theorem dL_law_863 : decode cL_law 863 = .ok (.aload_n 3, 1) := by decide +kernel
theorem dL_law_864 : decode cL_law 864 = .ok (.iconst 0, 1) := by decide +kernel
theorem dL_law_865 : decode cL_law 865 = .ok (.laload, 1) := by decide +kernel
theorem dL_law_866 : decode cL_law 866 = .ok (.lload 6, 2) := by decide +kernel
theorem dL_law_868 : decode cL_law 868 = .ok (.lcmp, 1) := by decide +kernel
theorem dL_law_869 : decode cL_law 869 = .ok (.ifCond .eq 5, 3) := by decide +kernel
theorem dL_law_872 : decode cL_law 872 = .ok (.iconst 0, 1) := by decide +kernel
theorem dL_law_873 : decode cL_law 873 = .ok (.ireturn, 1) := by decide +kernel
theorem dL_law_874 : decode cL_law 874 = .ok (.goto 308, 3) := by decide +kernel
theorem dL_law_877 : decode cL_law 877 = .ok (.aload_n 1, 1) := by decide +kernel
theorem dL_law_878 : decode cL_law 878 = .ok (.aload_n 0, 1) := by decide +kernel
theorem dL_law_879 : decode cL_law 879 = .ok (.iload 4, 2) := by decide +kernel
theorem dL_law_881 : decode cL_law 881 = .ok (.iconst 1, 1) := by decide +kernel
theorem dL_law_882 : decode cL_law 882 = .ok (.iadd, 1) := by decide +kernel
theorem dL_law_883 : decode cL_law 883 = .ok (.iaload, 1) := by decide +kernel
theorem dL_law_884 : decode cL_law 884 = .ok (.aload_n 3, 1) := by decide +kernel
theorem dL_law_885 : decode cL_law 885 = .ok (.invokestatic 121, 3) := by decide +kernel
theorem dL_law_888 : decode cL_law 888 = .ok (.istore 5, 2) := by decide +kernel
theorem dL_law_890 : decode cL_law 890 = .ok (.aload_n 2, 1) := by decide +kernel
theorem dL_law_891 : decode cL_law 891 = .ok (.aload_n 0, 1) := by decide +kernel
theorem dL_law_892 : decode cL_law 892 = .ok (.iload 4, 2) := by decide +kernel
theorem dL_law_894 : decode cL_law 894 = .ok (.iconst 1, 1) := by decide +kernel
theorem dL_law_895 : decode cL_law 895 = .ok (.iadd, 1) := by decide +kernel
theorem dL_law_896 : decode cL_law 896 = .ok (.iaload, 1) := by decide +kernel
theorem dL_law_897 : decode cL_law 897 = .ok (.invokevirtual 123, 3) := by decide +kernel
theorem dL_law_900 : decode cL_law 900 = .ok (.istore 6, 2) := by decide +kernel
theorem dL_law_902 : decode cL_law 902 = .ok (.aload_n 2, 1) := by decide +kernel
theorem dL_law_903 : decode cL_law 903 = .ok (.invokevirtual 79, 3) := by decide +kernel
theorem dL_law_906 : decode cL_law 906 = .ok (.iload 5, 2) := by decide +kernel
theorem dL_law_908 : decode cL_law 908 = .ok (.if_icmp .eq 5, 3) := by decide +kernel
theorem dL_law_911 : decode cL_law 911 = .ok (.iconst 0, 1) := by decide +kernel
theorem dL_law_912 : decode cL_law 912 = .ok (.ireturn, 1) := by decide +kernel
theorem dL_law_913 : decode cL_law 913 = .ok (.iload 5, 2) := by decide +kernel
theorem dL_law_915 : decode cL_law 915 = .ok (.ifCond .ne 15, 3) := by decide +kernel
theorem dL_law_918 : decode cL_law 918 = .ok (.aload_n 3, 1) := by decide +kernel
theorem dL_law_919 : decode cL_law 919 = .ok (.iconst 0, 1) := by decide +kernel
theorem dL_law_920 : decode cL_law 920 = .ok (.laload, 1) := by decide +kernel
theorem dL_law_921 : decode cL_law 921 = .ok (.iload 6, 2) := by decide +kernel
theorem dL_law_923 : decode cL_law 923 = .ok (.i2l, 1) := by decide +kernel
theorem dL_law_924 : decode cL_law 924 = .ok (.lcmp, 1) := by decide +kernel
theorem dL_law_925 : decode cL_law 925 = .ok (.ifCond .eq 5, 3) := by decide +kernel
theorem dL_law_928 : decode cL_law 928 = .ok (.iconst 0, 1) := by decide +kernel
theorem dL_law_929 : decode cL_law 929 = .ok (.ireturn, 1) := by decide +kernel
theorem dL_law_930 : decode cL_law 930 = .ok (.goto 252, 3) := by decide +kernel
theorem dL_law_933 : decode cL_law 933 = .ok (.aload_n 1, 1) := by decide +kernel
theorem dL_law_934 : decode cL_law 934 = .ok (.aload_n 0, 1) := by decide +kernel
theorem dL_law_935 : decode cL_law 935 = .ok (.iload 4, 2) := by decide +kernel
theorem dL_law_937 : decode cL_law 937 = .ok (.iconst 1, 1) := by decide +kernel
theorem dL_law_938 : decode cL_law 938 = .ok (.iadd, 1) := by decide +kernel
theorem dL_law_939 : decode cL_law 939 = .ok (.iaload, 1) := by decide +kernel
theorem dL_law_940 : decode cL_law 940 = .ok (.aload_n 3, 1) := by decide +kernel
theorem dL_law_941 : decode cL_law 941 = .ok (.invokestatic 124, 3) := by decide +kernel
theorem dL_law_944 : decode cL_law 944 = .ok (.istore 5, 2) := by decide +kernel
theorem dL_law_946 : decode cL_law 946 = .ok (.aload_n 2, 1) := by decide +kernel
theorem dL_law_947 : decode cL_law 947 = .ok (.aload_n 0, 1) := by decide +kernel
theorem dL_law_948 : decode cL_law 948 = .ok (.iload 4, 2) := by decide +kernel
theorem dL_law_950 : decode cL_law 950 = .ok (.iconst 1, 1) := by decide +kernel
theorem dL_law_951 : decode cL_law 951 = .ok (.iadd, 1) := by decide +kernel
theorem dL_law_952 : decode cL_law 952 = .ok (.iaload, 1) := by decide +kernel
theorem dL_law_953 : decode cL_law 953 = .ok (.invokevirtual 126, 3) := by decide +kernel
theorem dL_law_956 : decode cL_law 956 = .ok (.istore 6, 2) := by decide +kernel
theorem dL_law_958 : decode cL_law 958 = .ok (.aload_n 2, 1) := by decide +kernel
theorem dL_law_959 : decode cL_law 959 = .ok (.invokevirtual 79, 3) := by decide +kernel
theorem dL_law_962 : decode cL_law 962 = .ok (.iload 5, 2) := by decide +kernel
theorem dL_law_964 : decode cL_law 964 = .ok (.if_icmp .eq 5, 3) := by decide +kernel
theorem dL_law_967 : decode cL_law 967 = .ok (.iconst 0, 1) := by decide +kernel
theorem dL_law_968 : decode cL_law 968 = .ok (.ireturn, 1) := by decide +kernel
theorem dL_law_969 : decode cL_law 969 = .ok (.iload 5, 2) := by decide +kernel
theorem dL_law_971 : decode cL_law 971 = .ok (.ifCond .ne 15, 3) := by decide +kernel
theorem dL_law_974 : decode cL_law 974 = .ok (.aload_n 3, 1) := by decide +kernel
theorem dL_law_975 : decode cL_law 975 = .ok (.iconst 0, 1) := by decide +kernel
theorem dL_law_976 : decode cL_law 976 = .ok (.laload, 1) := by decide +kernel
theorem dL_law_977 : decode cL_law 977 = .ok (.iload 6, 2) := by decide +kernel
theorem dL_law_979 : decode cL_law 979 = .ok (.i2l, 1) := by decide +kernel
theorem dL_law_980 : decode cL_law 980 = .ok (.lcmp, 1) := by decide +kernel
theorem dL_law_981 : decode cL_law 981 = .ok (.ifCond .eq 5, 3) := by decide +kernel
theorem dL_law_984 : decode cL_law 984 = .ok (.iconst 0, 1) := by decide +kernel
theorem dL_law_985 : decode cL_law 985 = .ok (.ireturn, 1) := by decide +kernel
theorem dL_law_986 : decode cL_law 986 = .ok (.goto 196, 3) := by decide +kernel
theorem dL_law_989 : decode cL_law 989 = .ok (.aload_n 1, 1) := by decide +kernel
theorem dL_law_990 : decode cL_law 990 = .ok (.aload_n 0, 1) := by decide +kernel
theorem dL_law_991 : decode cL_law 991 = .ok (.iload 4, 2) := by decide +kernel
theorem dL_law_993 : decode cL_law 993 = .ok (.iconst 1, 1) := by decide +kernel
theorem dL_law_994 : decode cL_law 994 = .ok (.iadd, 1) := by decide +kernel
theorem dL_law_995 : decode cL_law 995 = .ok (.iaload, 1) := by decide +kernel
theorem dL_law_996 : decode cL_law 996 = .ok (.aload_n 0, 1) := by decide +kernel
theorem dL_law_997 : decode cL_law 997 = .ok (.iload 4, 2) := by decide +kernel
theorem dL_law_999 : decode cL_law 999 = .ok (.iconst 2, 1) := by decide +kernel
theorem dL_law_1000 : decode cL_law 1000 = .ok (.iadd, 1) := by decide +kernel
theorem dL_law_1001 : decode cL_law 1001 = .ok (.iaload, 1) := by decide +kernel
theorem dL_law_1002 : decode cL_law 1002 = .ok (.aload_n 3, 1) := by decide +kernel
theorem dL_law_1003 : decode cL_law 1003 = .ok (.invokestatic 127, 3) := by decide +kernel
theorem dL_law_1006 : decode cL_law 1006 = .ok (.istore 5, 2) := by decide +kernel
theorem dL_law_1008 : decode cL_law 1008 = .ok (.aload_n 2, 1) := by decide +kernel
theorem dL_law_1009 : decode cL_law 1009 = .ok (.aload_n 0, 1) := by decide +kernel
theorem dL_law_1010 : decode cL_law 1010 = .ok (.iload 4, 2) := by decide +kernel
theorem dL_law_1012 : decode cL_law 1012 = .ok (.iconst 1, 1) := by decide +kernel
theorem dL_law_1013 : decode cL_law 1013 = .ok (.iadd, 1) := by decide +kernel
theorem dL_law_1014 : decode cL_law 1014 = .ok (.iaload, 1) := by decide +kernel
theorem dL_law_1015 : decode cL_law 1015 = .ok (.aload_n 0, 1) := by decide +kernel
theorem dL_law_1016 : decode cL_law 1016 = .ok (.iload 4, 2) := by decide +kernel
theorem dL_law_1018 : decode cL_law 1018 = .ok (.iconst 2, 1) := by decide +kernel
theorem dL_law_1019 : decode cL_law 1019 = .ok (.iadd, 1) := by decide +kernel
theorem dL_law_1020 : decode cL_law 1020 = .ok (.iaload, 1) := by decide +kernel
theorem dL_law_1021 : decode cL_law 1021 = .ok (.invokevirtual 129, 3) := by decide +kernel
theorem dL_law_1024 : decode cL_law 1024 = .ok (.lstore 6, 2) := by decide +kernel
theorem dL_law_1026 : decode cL_law 1026 = .ok (.aload_n 2, 1) := by decide +kernel
theorem dL_law_1027 : decode cL_law 1027 = .ok (.invokevirtual 79, 3) := by decide +kernel
theorem dL_law_1030 : decode cL_law 1030 = .ok (.iload 5, 2) := by decide +kernel
theorem dL_law_1032 : decode cL_law 1032 = .ok (.if_icmp .eq 5, 3) := by decide +kernel
theorem dL_law_1035 : decode cL_law 1035 = .ok (.iconst 0, 1) := by decide +kernel
theorem dL_law_1036 : decode cL_law 1036 = .ok (.ireturn, 1) := by decide +kernel
theorem dL_law_1037 : decode cL_law 1037 = .ok (.iload 5, 2) := by decide +kernel
theorem dL_law_1039 : decode cL_law 1039 = .ok (.ifCond .ne 14, 3) := by decide +kernel
theorem dL_law_1042 : decode cL_law 1042 = .ok (.aload_n 3, 1) := by decide +kernel
theorem dL_law_1043 : decode cL_law 1043 = .ok (.iconst 0, 1) := by decide +kernel
theorem dL_law_1044 : decode cL_law 1044 = .ok (.laload, 1) := by decide +kernel
theorem dL_law_1045 : decode cL_law 1045 = .ok (.lload 6, 2) := by decide +kernel
theorem dL_law_1047 : decode cL_law 1047 = .ok (.lcmp, 1) := by decide +kernel
theorem dL_law_1048 : decode cL_law 1048 = .ok (.ifCond .eq 5, 3) := by decide +kernel
theorem dL_law_1051 : decode cL_law 1051 = .ok (.iconst 0, 1) := by decide +kernel
theorem dL_law_1052 : decode cL_law 1052 = .ok (.ireturn, 1) := by decide +kernel
theorem dL_law_1053 : decode cL_law 1053 = .ok (.goto 129, 3) := by decide +kernel
theorem dL_law_1056 : decode cL_law 1056 = .ok (.aload_n 1, 1) := by decide +kernel
theorem dL_law_1057 : decode cL_law 1057 = .ok (.aload_n 0, 1) := by decide +kernel
theorem dL_law_1058 : decode cL_law 1058 = .ok (.iload 4, 2) := by decide +kernel
theorem dL_law_1060 : decode cL_law 1060 = .ok (.iconst 1, 1) := by decide +kernel
theorem dL_law_1061 : decode cL_law 1061 = .ok (.iadd, 1) := by decide +kernel
theorem dL_law_1062 : decode cL_law 1062 = .ok (.iaload, 1) := by decide +kernel
theorem dL_law_1063 : decode cL_law 1063 = .ok (.aload_n 3, 1) := by decide +kernel
theorem dL_law_1064 : decode cL_law 1064 = .ok (.invokestatic 130, 3) := by decide +kernel
theorem dL_law_1067 : decode cL_law 1067 = .ok (.istore 5, 2) := by decide +kernel
theorem dL_law_1069 : decode cL_law 1069 = .ok (.aload_n 2, 1) := by decide +kernel
theorem dL_law_1070 : decode cL_law 1070 = .ok (.aload_n 0, 1) := by decide +kernel
theorem dL_law_1071 : decode cL_law 1071 = .ok (.iload 4, 2) := by decide +kernel
theorem dL_law_1073 : decode cL_law 1073 = .ok (.iconst 1, 1) := by decide +kernel
theorem dL_law_1074 : decode cL_law 1074 = .ok (.iadd, 1) := by decide +kernel
theorem dL_law_1075 : decode cL_law 1075 = .ok (.iaload, 1) := by decide +kernel
theorem dL_law_1076 : decode cL_law 1076 = .ok (.invokevirtual 132, 3) := by decide +kernel
theorem dL_law_1079 : decode cL_law 1079 = .ok (.istore 6, 2) := by decide +kernel
theorem dL_law_1081 : decode cL_law 1081 = .ok (.aload_n 2, 1) := by decide +kernel
theorem dL_law_1082 : decode cL_law 1082 = .ok (.invokevirtual 79, 3) := by decide +kernel
theorem dL_law_1085 : decode cL_law 1085 = .ok (.iload 5, 2) := by decide +kernel
theorem dL_law_1087 : decode cL_law 1087 = .ok (.if_icmp .eq 5, 3) := by decide +kernel
theorem dL_law_1090 : decode cL_law 1090 = .ok (.iconst 0, 1) := by decide +kernel
theorem dL_law_1091 : decode cL_law 1091 = .ok (.ireturn, 1) := by decide +kernel
theorem dL_law_1092 : decode cL_law 1092 = .ok (.iload 5, 2) := by decide +kernel
theorem dL_law_1094 : decode cL_law 1094 = .ok (.ifCond .ne 22, 3) := by decide +kernel
theorem dL_law_1097 : decode cL_law 1097 = .ok (.aload_n 3, 1) := by decide +kernel
theorem dL_law_1098 : decode cL_law 1098 = .ok (.iconst 0, 1) := by decide +kernel
theorem dL_law_1099 : decode cL_law 1099 = .ok (.laload, 1) := by decide +kernel
theorem dL_law_1100 : decode cL_law 1100 = .ok (.iload 6, 2) := by decide +kernel
theorem dL_law_1102 : decode cL_law 1102 = .ok (.ifCond .eq 7, 3) := by decide +kernel
theorem dL_law_1105 : decode cL_law 1105 = .ok (.lconst 1, 1) := by decide +kernel
theorem dL_law_1106 : decode cL_law 1106 = .ok (.goto 4, 3) := by decide +kernel
theorem dL_law_1109 : decode cL_law 1109 = .ok (.lconst 0, 1) := by decide +kernel
theorem dL_law_1110 : decode cL_law 1110 = .ok (.lcmp, 1) := by decide +kernel
theorem dL_law_1111 : decode cL_law 1111 = .ok (.ifCond .eq 5, 3) := by decide +kernel
theorem dL_law_1114 : decode cL_law 1114 = .ok (.iconst 0, 1) := by decide +kernel
theorem dL_law_1115 : decode cL_law 1115 = .ok (.ireturn, 1) := by decide +kernel
theorem dL_law_1116 : decode cL_law 1116 = .ok (.goto 66, 3) := by decide +kernel
theorem dL_law_1119 : decode cL_law 1119 = .ok (.aload_n 1, 1) := by decide +kernel
theorem dL_law_1120 : decode cL_law 1120 = .ok (.aload_n 0, 1) := by decide +kernel
theorem dL_law_1121 : decode cL_law 1121 = .ok (.iload 4, 2) := by decide +kernel
theorem dL_law_1123 : decode cL_law 1123 = .ok (.iconst 1, 1) := by decide +kernel
theorem dL_law_1124 : decode cL_law 1124 = .ok (.iadd, 1) := by decide +kernel
theorem dL_law_1125 : decode cL_law 1125 = .ok (.iaload, 1) := by decide +kernel
theorem dL_law_1126 : decode cL_law 1126 = .ok (.aload_n 3, 1) := by decide +kernel
theorem dL_law_1127 : decode cL_law 1127 = .ok (.invokestatic 133, 3) := by decide +kernel
theorem dL_law_1130 : decode cL_law 1130 = .ok (.istore 5, 2) := by decide +kernel
theorem dL_law_1132 : decode cL_law 1132 = .ok (.aload_n 2, 1) := by decide +kernel
theorem dL_law_1133 : decode cL_law 1133 = .ok (.aload_n 0, 1) := by decide +kernel
theorem dL_law_1134 : decode cL_law 1134 = .ok (.iload 4, 2) := by decide +kernel
theorem dL_law_1136 : decode cL_law 1136 = .ok (.iconst 1, 1) := by decide +kernel
theorem dL_law_1137 : decode cL_law 1137 = .ok (.iadd, 1) := by decide +kernel
theorem dL_law_1138 : decode cL_law 1138 = .ok (.iaload, 1) := by decide +kernel
theorem dL_law_1139 : decode cL_law 1139 = .ok (.invokevirtual 135, 3) := by decide +kernel
theorem dL_law_1142 : decode cL_law 1142 = .ok (.istore 6, 2) := by decide +kernel
theorem dL_law_1144 : decode cL_law 1144 = .ok (.aload_n 2, 1) := by decide +kernel
theorem dL_law_1145 : decode cL_law 1145 = .ok (.invokevirtual 79, 3) := by decide +kernel
theorem dL_law_1148 : decode cL_law 1148 = .ok (.iload 5, 2) := by decide +kernel
theorem dL_law_1150 : decode cL_law 1150 = .ok (.if_icmp .eq 5, 3) := by decide +kernel
theorem dL_law_1153 : decode cL_law 1153 = .ok (.iconst 0, 1) := by decide +kernel
theorem dL_law_1154 : decode cL_law 1154 = .ok (.ireturn, 1) := by decide +kernel
theorem dL_law_1155 : decode cL_law 1155 = .ok (.iload 5, 2) := by decide +kernel
theorem dL_law_1157 : decode cL_law 1157 = .ok (.ifCond .ne 22, 3) := by decide +kernel
theorem dL_law_1160 : decode cL_law 1160 = .ok (.aload_n 3, 1) := by decide +kernel
theorem dL_law_1161 : decode cL_law 1161 = .ok (.iconst 0, 1) := by decide +kernel
theorem dL_law_1162 : decode cL_law 1162 = .ok (.laload, 1) := by decide +kernel
theorem dL_law_1163 : decode cL_law 1163 = .ok (.iload 6, 2) := by decide +kernel
theorem dL_law_1165 : decode cL_law 1165 = .ok (.ifCond .eq 7, 3) := by decide +kernel
theorem dL_law_1168 : decode cL_law 1168 = .ok (.lconst 1, 1) := by decide +kernel
theorem dL_law_1169 : decode cL_law 1169 = .ok (.goto 4, 3) := by decide +kernel
theorem dL_law_1172 : decode cL_law 1172 = .ok (.lconst 0, 1) := by decide +kernel
theorem dL_law_1173 : decode cL_law 1173 = .ok (.lcmp, 1) := by decide +kernel
theorem dL_law_1174 : decode cL_law 1174 = .ok (.ifCond .eq 5, 3) := by decide +kernel
theorem dL_law_1177 : decode cL_law 1177 = .ok (.iconst 0, 1) := by decide +kernel
theorem dL_law_1178 : decode cL_law 1178 = .ok (.ireturn, 1) := by decide +kernel
theorem dL_law_1179 : decode cL_law 1179 = .ok (.goto 3, 3) := by decide +kernel
theorem dL_law_1182 : decode cL_law 1182 = .ok (.iinc 4 6, 3) := by decide +kernel
theorem dL_law_1185 : decode cL_law 1185 = .ok (.goto (-1162), 3) := by decide +kernel
theorem dL_law_1188 : decode cL_law 1188 = .ok (.iconst 1, 1) := by decide +kernel
theorem dL_law_1189 : decode cL_law 1189 = .ok (.ireturn, 1) := by decide +kernel
end
